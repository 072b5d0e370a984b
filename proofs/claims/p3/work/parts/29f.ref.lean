set_option maxRecDepth 100000 in
set_option maxHeartbeats 4000000 in
theorem am_ct142_33 {X : List Value} {w : Value} {e : Nat} {g : aF} {h : aA} {E : Nat → aF → aA → Prop} {d : Nat} {z50 : Int} {z11713 : Int} {z11718 : Int} {z11757 : Int} {z11763 : Int} {z11741 : Int} {z11755 : Int} {z11709 : Int} {zp0 : Int} {fz : aF} {az : aA} (hd : 3 ≤ d + 1) (n : Nat) :
    ∀ {f : aF} {a : aA}, (8 * (3500 - am_ph f a) + 3 - f 11701).toNat < n → am_RV g h f a → am_mn fz az f a → 2 * z50 + 1 ≤ zp0 + 400 * f 11701 → f 11750 = z50 → z50 ≤ 190 → (f 11701 = 0 → zp0 + 1 ≤ am_at (a 124) 0 ∨ ((97 ≤ am_pk f a ∧ am_pk f a ≤ 122) ∨ (48 ≤ am_pk f a ∧ am_pk f a ≤ 57))) → f 11753 + 1 ≤ am_ph f a + 3000 * f 11701 → am_at (a 153) (f 11750) ≤ f 11753 → f 11753 - am_at (a 153) (f 11750) ≤ am_at (a 124) 0 - zp0 → z11713 ≤ 16 * f 11701 → f 11713 = z11713 → f 11718 = z11718 → f 11757 = z11757 → f 11763 = z11763 → f 11741 = z11741 → f 11755 = z11755 → f 11709 = z11709 → zp0 ≤ am_at (a 124) 0 → zp0 ≥ 0 → am_TE X (d + 1) am_m141 33 [(0, .ref 117)] [] f a w e (am_QV (fun f1 a1 => am_RV g h f1 a1 ∧ am_mn fz az f1 a1 ∧ f1 11713 = z11713 ∧ f1 11718 = z11718 ∧ f1 11757 = z11757 ∧ f1 11763 = z11763 ∧ f1 11741 = z11741 ∧ f1 11755 = z11755 ∧ f1 11709 = z11709 ∧ f1 11750 ≤ z50 + 1 ∧ zp0 ≤ am_at (a1 124) 0)) E := by
  induction n with
  | zero => intros; omega
  | succ n ih =>
    intro f a  hn hI hp0 hp1 hp2 hp3 hp4 hp5 hp6 hp7 hp8 hp9 hp10 hp11 hp12 hp13 hp14 hp15 hp16 hp17
    have q1 := am_RV_ph hI
    have q2 := am_RV_p0 hI
    have q3 := am_Rg11701 hI.1.1
    have q4 := am_Rg11750 hI.1.1
    have q5 := am_Rg11753 hI.1.1
    have q6 := am_Rg11713 hI.1.1
    have q7 := am_Rg11718 hI.1.1
    have q8 := am_Rg11757 hI.1.1
    have q9 := am_Rg11763 hI.1.1
    have q10 := am_Rg11741 hI.1.1
    have q11 := am_Rg11755 hI.1.1
    have q12 := am_Rg11709 hI.1.1
    have q20 := hI.2.2.1 0 (by omega) (by omega)
    have q12 := hI.2.2.2.2.2.2.2.2.2.2
    refine am_raload_n rfl rfl rfl ?_
    refine am_evirtualI (m := am_m121) (As := [.ref 117]) (S1 := []) rfl rfl rfl rfl rfl rfl rfl rfl rfl rfl (am_TE.int (am_ct122  (by omega) hI) (fun b13 f13 a13 hq14 => ?_) (fun _ _ _ h => h))
    obtain ⟨rfl, rfl, hq14⟩ := hq14
    refine am_estaticI (m := am_m129) (As := [am_iv b13]) (S1 := []) rfl rfl rfl rfl rfl rfl rfl rfl (am_TE.int (am_ct130 (y1 := b13) (by omega) (by omega)) (fun b15 f15 a15 hq16 => ?_) (fun _ _ _ h => h))
    obtain ⟨rfl, rfl, hq16⟩ := hq16
    refine am_rif_eq rfl rfl (by unfold am_rg; omega) (fun hc17 => ?_) (fun hc17 => ?_)
    · refine am_raload_n rfl rfl rfl ?_
      refine am_rgetf (S1 := [.ref 154]) rfl rfl ?_
      refine am_raload_n rfl rfl rfl ?_
      refine am_rgetf (S1 := [am_iv (f 11750), .ref 154]) rfl rfl ?_
      refine am_raload_n rfl rfl rfl ?_
      refine am_rgetf (S1 := [am_iv (f 11753), am_iv (f 11750), .ref 154]) rfl rfl ?_
      refine am_raload_n rfl rfl rfl ?_
      refine am_rgetf (S1 := [.ref 153, am_iv (f 11753), am_iv (f 11750), .ref 154]) rfl rfl ?_
      refine am_raload_n rfl rfl rfl ?_
      refine am_rgetf (S1 := [am_iv (f 11750), .ref 153, am_iv (f 11753), am_iv (f 11750), .ref 154]) rfl rfl ?_
      have q18 : (a 153).length = 200 := am_Rl153 (am_RL 153 rfl hI.1.1)
      have i19 : am_ib (a 153) (f 11750) := by unfold am_ib; omega
      have q20 := am_Rb153 (am_RL 153 rfl hI.1.1) i19
      refine am_riaload (l := a 153) rfl am_ge153 i19 ?_
      refine am_risub rfl ?_
      have q21 : (a 154).length = 200 := am_Rl154 (am_RL 154 rfl hI.1.1)
      have i22 : am_ib (a 154) (f 11750) := by unfold am_ib; omega
      have hl23 : am_LR 154 ((a 154).set (f 11750).toNat ((f 11753) - (am_at (a 153) (f 11750)))) := am_RS154 (am_RL 154 rfl hI.1.1) (by omega) (by omega)
      have sa24 : am_at ((a 154).set (f 11750).toNat ((f 11753) - (am_at (a 153) (f 11750)))) (f 11750) = (f 11753) - (am_at (a 153) (f 11750)) := am_at_self i22
      refine am_riastore (l := a 154) (h1 := am_enc f (am_ud a 154 ((a 154).set (f 11750).toNat ((f 11753) - (am_at (a 153) (f 11750))))) w e) rfl am_ge154 i22 (am_sa154 _) ?_
      refine am_raload_n rfl rfl rfl ?_
      refine am_rdup rfl rfl ?_
      refine am_rgetf (S1 := [am_iv (f 11750), .ref 117]) rfl rfl ?_
      refine am_riconst rfl ?_
      refine am_riadd rfl ?_
      refine am_rputf (S1 := []) (h1 := am_enc (am_ud f 11750 ((f 11750) + 1)) (am_ud a 154 ((a 154).set (f 11750).toNat ((f 11753) - (am_at (a 153) (f 11750))))) w e) rfl (am_pfB rfl am_ge117 rfl (am_sf11750 _)) (by rw [am_enc_len, am_enc_len]) ?_
      refine am_raload_n rfl rfl rfl ?_
      have J25 := am_Rf11750 (v := (f 11750) + 1) hI (by omega) (by omega) (fun z => by have z : f 11701 = 0 := z; show 2 * ((f 11750) + 1) ≤ am_at (a 124) 0; omega)
      have J26 := am_Ra154 J25 hl23
      refine am_evirtualI (m := am_m125) (As := [.ref 117]) (S1 := []) rfl rfl rfl rfl rfl rfl rfl rfl rfl rfl (am_TE.int (am_ct126  (by omega) J26) (fun b27 f27 a27 hq28 => ?_) (fun _ _ _ h => h))
      have m31 : am_mn fz az (am_ud f 11750 ((f 11750) + 1)) a := am_mn_f rfl rfl rfl hp0
      have m32 : am_mn fz az (am_ud f 11750 ((f 11750) + 1)) (am_ud a 154 ((a 154).set (f 11750).toNat ((f 11753) - (am_at (a 153) (f 11750))))) := am_mn_a rfl rfl m31
      obtain ⟨hI29, hk30, hq28⟩ := hq28
      replace hq28 : (b27 = 0 ∨ b27 = 1) ∧ f27 11701 = ((f 11701)) ∧ f27 11713 = ((f 11713)) ∧ f27 11701 ≤ 3 - 3 * b27 ∧ (am_ph f a ) + b27 ≤ am_ph f27 a27 ∧ (am_at (a 124) 0) + b27 ≤ am_at (a27 124) 0 + ((f 11713)) := hq28
      have mm33 : f 11701 ≤ f27 11701 ∧ am_ph f a ≤ am_ph f27 a27 ∧ am_at (a 124) 0 ≤ am_at (a27 124) 0 ∧ am_at (a27 125) 0 = am_at (a 125) 0 := hk30.1
      have hm34 := am_mn.trans m32 hk30.1
      have t35 : f27 11718 = f 11718 := hk30.2.1 11718 rfl
      have t36 : f27 11757 = f 11757 := hk30.2.1 11757 rfl
      have t37 : f27 11763 = f 11763 := hk30.2.1 11763 rfl
      have t38 : f27 11741 = f 11741 := hk30.2.1 11741 rfl
      have t39 : f27 11755 = f 11755 := hk30.2.1 11755 rfl
      have t40 : f27 11709 = f 11709 := hk30.2.1 11709 rfl
      have t41 : f27 11750 = (f 11750) + 1 := hk30.2.1 11750 rfl
      have t42 : f27 11753 = f 11753 := hk30.2.1 11753 rfl
      have t43 : am_at (a27 153) (f27 11750) = am_at (a 153) ((f 11750) + 1) := by rw [hk30.2.2 153 rfl, hk30.2.1 11750 rfl] <;> rfl
      refine am_rpop rfl rfl ?_
      have q44 := am_Rg11701 hI29.1.1
      have q45 := am_Rg11713 hI29.1.1
      have q46 := am_Rg11718 hI29.1.1
      have q47 := am_Rg11757 hI29.1.1
      have q48 := am_Rg11763 hI29.1.1
      have q49 := am_Rg11741 hI29.1.1
      have q50 := am_Rg11755 hI29.1.1
      have q51 := am_Rg11709 hI29.1.1
      have q52 := am_Rg11750 hI29.1.1
      exact am_eret rfl rfl ⟨hI29, hm34, (show f27 11713 = z11713 by omega), (show f27 11718 = z11718 by omega), (show f27 11757 = z11757 by omega), (show f27 11763 = z11763 by omega), (show f27 11741 = z11741 by omega), (show f27 11755 = z11755 by omega), (show f27 11709 = z11709 by omega), (show f27 11750 ≤ z50 + 1 by omega), (show zp0 ≤ am_at (a27 124) 0 by omega)⟩
    · refine am_raload_n rfl rfl rfl ?_
      refine am_rgetf (S1 := [.ref 155]) rfl rfl ?_
      refine am_raload_n rfl rfl rfl ?_
      refine am_rgetf (S1 := [am_iv (f 11753), .ref 155]) rfl rfl ?_
      refine am_raload_n rfl rfl rfl ?_
      refine am_evirtualI (m := am_m121) (As := [.ref 117]) (S1 := [am_iv (f 11753), .ref 155]) rfl rfl rfl rfl rfl rfl rfl rfl rfl rfl (am_TE.int (am_ct122  (by omega) hI) (fun b53 f53 a53 hq54 => ?_) (fun _ _ _ h => h))
      obtain ⟨rfl, rfl, hq54⟩ := hq54
      have q55 : (a 155).length = 3200 := am_Rl155 (am_RL 155 rfl hI.1.1)
      have i56 : am_ib (a 155) (f 11753) := by unfold am_ib; omega
      have hl57 : am_LR 155 ((a 155).set (f 11753).toNat b53) := am_RS155 (am_RL 155 rfl hI.1.1) (by omega) (by omega)
      have sa58 : am_at ((a 155).set (f 11753).toNat b53) (f 11753) = b53 := am_at_self i56
      refine am_riastore (l := a 155) (h1 := am_enc f (am_ud a 155 ((a 155).set (f 11753).toNat b53)) w e) rfl am_ge155 i56 (am_sa155 _) ?_
      refine am_raload_n rfl rfl rfl ?_
      refine am_rdup rfl rfl ?_
      refine am_rgetf (S1 := [am_iv (f 11753), .ref 117]) rfl rfl ?_
      refine am_riconst rfl ?_
      refine am_riadd rfl ?_
      refine am_rputf (S1 := []) (h1 := am_enc (am_ud f 11753 ((f 11753) + 1)) (am_ud a 155 ((a 155).set (f 11753).toNat b53)) w e) rfl (am_pfB rfl am_ge117 rfl (am_sf11753 _)) (by rw [am_enc_len, am_enc_len]) ?_
      refine am_raload_n rfl rfl rfl ?_
      have ok59 : f 11701 = 0 ∧ am_at (a 124) (f 11713) < am_at (a 125) (f 11713) := am_PK.ok hq54.2.2.1 (by omega)
      have J60 := am_Rf11753 (v := (f 11753) + 1) hI (by omega) (by omega) (show (f 11753) + 1 ≤ am_ph f a by omega)
      have J61 := am_Ra155 J60 hl57
      refine am_evirtualV (m := am_m122) (As := [.ref 117]) (S1 := []) rfl rfl rfl rfl rfl rfl rfl rfl rfl rfl (am_TE.void (am_ct123  (by omega) J61 (show am_at (a 124) ((f 11713)) < am_at (a 125) ((f 11713)) by omega)) (fun f62 a62 hq63 => ?_) (fun _ _ _ h => h))
      have m66 : am_mn fz az (am_ud f 11753 ((f 11753) + 1)) a := am_mn_f rfl rfl rfl hp0
      have m67 : am_mn fz az (am_ud f 11753 ((f 11753) + 1)) (am_ud a 155 ((a 155).set (f 11753).toNat b53)) := am_mn_a rfl rfl m66
      obtain ⟨hI64, hk65, hq63⟩ := hq63
      replace hq63 : f62 11701 = ((f 11701)) ∧ f62 11713 = ((f 11713)) ∧ am_ph f62 a62 = (am_ph f a ) + 1 ∧ (((f 11713)) = 0 → am_at (a62 124) 0 = (am_at (a 124) 0) + 1) := hq63
      have mm68 : f 11701 ≤ f62 11701 ∧ am_ph f a ≤ am_ph f62 a62 ∧ am_at (a 124) 0 ≤ am_at (a62 124) 0 ∧ am_at (a62 125) 0 = am_at (a 125) 0 := hk65.1
      have hm69 := am_mn.trans m67 hk65.1
      have t70 : f62 11718 = f 11718 := hk65.2.1 11718 rfl
      have t71 : f62 11757 = f 11757 := hk65.2.1 11757 rfl
      have t72 : f62 11763 = f 11763 := hk65.2.1 11763 rfl
      have t73 : f62 11741 = f 11741 := hk65.2.1 11741 rfl
      have t74 : f62 11755 = f 11755 := hk65.2.1 11755 rfl
      have t75 : f62 11709 = f 11709 := hk65.2.1 11709 rfl
      have t76 : f62 11750 = f 11750 := hk65.2.1 11750 rfl
      have t77 : f62 11753 = (f 11753) + 1 := hk65.2.1 11753 rfl
      have t78 : am_at (a62 153) (f62 11750) = am_at (a 153) (f 11750) := by rw [hk65.2.2 153 rfl, hk65.2.1 11750 rfl] <;> rfl
      refine am_rgoto rfl rfl ?_
      have q79 := am_Rg11701 hI64.1.1
      have q80 := am_Rg11750 hI64.1.1
      have q81 := am_Rg11753 hI64.1.1
      have q82 := am_Rg11713 hI64.1.1
      have q83 := am_Rg11718 hI64.1.1
      have q84 := am_Rg11757 hI64.1.1
      have q85 := am_Rg11763 hI64.1.1
      have q86 := am_Rg11741 hI64.1.1
      have q87 := am_Rg11755 hI64.1.1
      have q88 := am_Rg11709 hI64.1.1
      exact ih (by omega) hI64 hm69 (by omega) (by omega) (by omega) (by omega) (by omega) (by omega) (by omega) (by omega) (by omega) (by omega) (by omega) (by omega) (by omega) (by omega) (by omega) (by omega) (by omega)
set_option maxRecDepth 100000 in
set_option maxHeartbeats 4000000 in
theorem am_ct142 {X : List Value} {w : Value} {e : Nat} {g : aF} {h : aA} {E : Nat → aF → aA → Prop} {d : Nat} {f : aF} {a : aA} (hd : 3 ≤ d) (hI : am_RV g h f a) (hp0 : 2 * f 11750 + 1 ≤ am_at (a 124) 0 + 400 * f 11701) (hp1 : f 11753 + 1 ≤ am_ph f a + 3000 * f 11701) (hp2 : f 11750 ≤ 190) (hp3 : f 11713 ≤ 16 * f 11701) :
    am_TE X d am_m141 0 (lv_args 0 [.ref 117]) [] f a w e (am_QV (fun f1 a1 => am_RV g h f1 a1 ∧ am_mn f a f1 a1 ∧ f1 11713 = (f 11713) ∧ f1 11718 = (f 11718) ∧ f1 11757 = (f 11757) ∧ f1 11763 = (f 11763) ∧ f1 11741 = (f 11741) ∧ f1 11755 = (f 11755) ∧ f1 11709 = (f 11709) ∧ f1 11750 ≤ (f 11750) + 1 ∧ (am_at (a 124) 0) ≤ am_at (a1 124) 0)) E := by
  obtain ⟨d, rfl⟩ : ∃ d0, d = d0 + 1 := ⟨d - 1, by omega⟩
  have q1 := am_RV_ph hI
  have q2 := am_RV_p0 hI
  have q3 := am_Rg11701 hI.1.1
  have q4 := am_Rg11750 hI.1.1
  have q5 := am_Rg11753 hI.1.1
  have q6 := am_Rg11713 hI.1.1
  refine am_raload_n rfl rfl rfl ?_
  refine am_evirtualI (m := am_m125) (As := [.ref 117]) (S1 := []) rfl rfl rfl rfl rfl rfl rfl rfl rfl rfl (am_TE.int (am_ct126  (by omega) hI) (fun b7 f7 a7 hq8 => ?_) (fun _ _ _ h => h))
  obtain ⟨hI9, hk10, hq8⟩ := hq8
  replace hq8 : (b7 = 0 ∨ b7 = 1) ∧ f7 11701 = ((f 11701)) ∧ f7 11713 = ((f 11713)) ∧ f7 11701 ≤ 3 - 3 * b7 ∧ (am_ph f a ) + b7 ≤ am_ph f7 a7 ∧ (am_at (a 124) 0) + b7 ≤ am_at (a7 124) 0 + ((f 11713)) := hq8
  have mm11 : f 11701 ≤ f7 11701 ∧ am_ph f a ≤ am_ph f7 a7 ∧ am_at (a 124) 0 ≤ am_at (a7 124) 0 ∧ am_at (a7 125) 0 = am_at (a 125) 0 := hk10.1
  have hm12 := am_mn.trans (am_mn.refl f a) hk10.1
  have t13 : f7 11718 = f 11718 := hk10.2.1 11718 rfl
  have t14 : f7 11757 = f 11757 := hk10.2.1 11757 rfl
  have t15 : f7 11763 = f 11763 := hk10.2.1 11763 rfl
  have t16 : f7 11741 = f 11741 := hk10.2.1 11741 rfl
  have t17 : f7 11755 = f 11755 := hk10.2.1 11755 rfl
  have t18 : f7 11709 = f 11709 := hk10.2.1 11709 rfl
  have t19 : f7 11750 = f 11750 := hk10.2.1 11750 rfl
  have t20 : f7 11753 = f 11753 := hk10.2.1 11753 rfl
  have t21 : am_at (a7 153) (f7 11750) = am_at (a 153) (f 11750) := by rw [hk10.2.2 153 rfl, hk10.2.1 11750 rfl] <;> rfl
  refine am_rpop rfl rfl ?_
  refine am_raload_n rfl rfl rfl ?_
  refine am_evirtualI (m := am_m121) (As := [.ref 117]) (S1 := []) rfl rfl rfl rfl rfl rfl rfl rfl rfl rfl (am_TE.int (am_ct122  (by omega) hI9) (fun b22 f22 a22 hq23 => ?_) (fun _ _ _ h => h))
  obtain ⟨rfl, rfl, hq23⟩ := hq23
  refine am_estaticI (m := am_m129) (As := [am_iv b22]) (S1 := []) rfl rfl rfl rfl rfl rfl rfl rfl (am_TE.int (am_ct130 (y1 := b22) (by omega) (by omega)) (fun b24 f24 a24 hq25 => ?_) (fun _ _ _ h => h))
  obtain ⟨rfl, rfl, hq25⟩ := hq25
  refine am_rif_ne rfl rfl (by unfold am_rg; omega) (fun hc26 => ?_) (fun hc26 => ?_)
  · refine am_raload_n rfl rfl rfl ?_
    refine am_rgetf (S1 := [.ref 153]) rfl rfl ?_
    refine am_raload_n rfl rfl rfl ?_
    have q27 := am_Rg11750 hI9.1.1
    refine am_rgetf (S1 := [am_iv (f7 11750), .ref 153]) rfl rfl ?_
    refine am_raload_n rfl rfl rfl ?_
    have q28 := am_Rg11753 hI9.1.1
    refine am_rgetf (S1 := [am_iv (f7 11753), am_iv (f7 11750), .ref 153]) rfl rfl ?_
    have q29 : (a7 153).length = 200 := am_Rl153 (am_RL 153 rfl hI9.1.1)
    have i30 : am_ib (a7 153) (f7 11750) := by unfold am_ib; omega
    have hl31 : am_LR 153 ((a7 153).set (f7 11750).toNat (f7 11753)) := am_RS153 (am_RL 153 rfl hI9.1.1) (by omega) (by omega)
    have sa32 : am_at ((a7 153).set (f7 11750).toNat (f7 11753)) (f7 11750) = f7 11753 := am_at_self i30
    refine am_riastore (l := a7 153) (h1 := am_enc f7 (am_ud a7 153 ((a7 153).set (f7 11750).toNat (f7 11753))) w e) rfl am_ge153 i30 (am_sa153 _) ?_
    have q33 := am_Rg11701 hI9.1.1
    have J34 := am_Ra153 hI9 hl31
    have m35 : am_mn f a f7 (am_ud a7 153 ((a7 153).set (f7 11750).toNat (f7 11753))) := am_mn_a rfl rfl hm12
    have q36 := am_Rg11713 hI9.1.1
    have q37 := am_Rg11718 hI9.1.1
    have q38 := am_Rg11757 hI9.1.1
    have q39 := am_Rg11763 hI9.1.1
    have q40 := am_Rg11741 hI9.1.1
    have q41 := am_Rg11755 hI9.1.1
    have q42 := am_Rg11709 hI9.1.1
    exact am_ct142_33 hd (_ + 1) (Nat.lt_succ_self _) J34 m35 (show 2 * (f 11750) + 1 ≤ (am_at (a 124) 0) + 400 * (f7 11701) by omega) (show (f7 11750) = (f 11750) by omega) (show (f 11750) ≤ 190 by omega) (show ((f7 11701) = 0 → (am_at (a 124) 0) + 1 ≤ am_at (a7 124) 0 ∨ ((97 ≤ am_pk f7 a7  ∧ am_pk f7 a7  ≤ 122) ∨ (48 ≤ am_pk f7 a7  ∧ am_pk f7 a7  ≤ 57))) by omega) (show (f7 11753) + 1 ≤ am_ph f7 a7  + 3000 * (f7 11701) by omega) (show am_at ((a7 153).set (f7 11750).toNat (f7 11753)) ((f7 11750)) ≤ (f7 11753) by omega) (show (f7 11753) - am_at ((a7 153).set (f7 11750).toNat (f7 11753)) ((f7 11750)) ≤ am_at (a7 124) 0 - (am_at (a 124) 0) by omega) (show (f 11713) ≤ 16 * (f7 11701) by omega) (show (f7 11713) = (f 11713) by omega) (show (f7 11718) = (f 11718) by omega) (show (f7 11757) = (f 11757) by omega) (show (f7 11763) = (f 11763) by omega) (show (f7 11741) = (f 11741) by omega) (show (f7 11755) = (f 11755) by omega) (show (f7 11709) = (f 11709) by omega) (show (am_at (a 124) 0) ≤ am_at (a7 124) 0 by omega) (show (am_at (a 124) 0) ≥ 0 by omega)
  · refine am_raload_n rfl rfl rfl ?_
    refine am_riconst rfl ?_
    have q43 := am_Rg11701 hI9.1.1
    refine am_evirtualV (m := am_m116) (As := [.ref 117, am_iv 1]) (S1 := []) rfl rfl rfl rfl rfl rfl rfl rfl rfl rfl (am_TE.void (am_ct117 (y1 := 1) (by omega) (by omega) (show 1 ≤ 1 by omega) (show 1 ≤ 3 by omega) (show 0 ≤ (f7 11701) by omega) (show (f7 11701) ≤ 3 by omega)) (fun f44 a44 hq45 => ?_) (fun _ _ _ h => h))
    obtain ⟨v46, rfl, rfl, hq45⟩ := hq45
    replace hq45 : 0 < v46 ∧ v46 ≤ 3 ∧ f7 11701 ≤ v46 := hq45
    refine am_raload_n rfl rfl rfl ?_
    refine am_rgetf (S1 := [.ref 153]) rfl rfl ?_
    refine am_raload_n rfl rfl rfl ?_
    have q47 := am_Rg11750 hI9.1.1
    refine am_rgetf (S1 := [am_iv (f7 11750), .ref 153]) rfl rfl ?_
    refine am_raload_n rfl rfl rfl ?_
    have q48 := am_Rg11753 hI9.1.1
    refine am_rgetf (S1 := [am_iv (f7 11753), am_iv (f7 11750), .ref 153]) rfl rfl ?_
    have q49 : (a7 153).length = 200 := am_Rl153 (am_RL 153 rfl hI9.1.1)
    have i50 : am_ib (a7 153) (f7 11750) := by unfold am_ib; omega
    have hl51 : am_LR 153 ((a7 153).set (f7 11750).toNat (f7 11753)) := am_RS153 (am_RL 153 rfl hI9.1.1) (by omega) (by omega)
    have sa52 : am_at ((a7 153).set (f7 11750).toNat (f7 11753)) (f7 11750) = f7 11753 := am_at_self i50
    refine am_riastore (l := a7 153) (h1 := am_enc (am_ud f7 11701 v46) (am_ud a7 153 ((a7 153).set (f7 11750).toNat (f7 11753))) w e) rfl am_ge153 i50 (am_sa153 _) ?_
    have J53 := am_Rf11701 (v := v46) hI9 (by omega) (by omega)
    have J54 := am_Ra153 J53 hl51
    have m55 : am_mn f a (am_ud f7 11701 v46) a7 := am_mn.halt hm12 (by omega)
    have m56 : am_mn f a (am_ud f7 11701 v46) (am_ud a7 153 ((a7 153).set (f7 11750).toNat (f7 11753))) := am_mn_a rfl rfl m55
    have q57 := am_Rg11713 hI9.1.1
    have q58 := am_Rg11718 hI9.1.1
    have q59 := am_Rg11757 hI9.1.1
    have q60 := am_Rg11763 hI9.1.1
    have q61 := am_Rg11741 hI9.1.1
    have q62 := am_Rg11755 hI9.1.1
    have q63 := am_Rg11709 hI9.1.1
    exact am_ct142_33 hd (_ + 1) (Nat.lt_succ_self _) J54 m56 (show 2 * (f 11750) + 1 ≤ (am_at (a 124) 0) + 400 * (v46) by omega) (show (f7 11750) = (f 11750) by omega) (show (f 11750) ≤ 190 by omega) (show ((v46) = 0 → (am_at (a 124) 0) + 1 ≤ am_at (a7 124) 0 ∨ ((97 ≤ am_pk (am_ud f7 11701 v46) (am_ud a7 153 ((a7 153).set (f7 11750).toNat (f7 11753)))  ∧ am_pk (am_ud f7 11701 v46) (am_ud a7 153 ((a7 153).set (f7 11750).toNat (f7 11753)))  ≤ 122) ∨ (48 ≤ am_pk (am_ud f7 11701 v46) (am_ud a7 153 ((a7 153).set (f7 11750).toNat (f7 11753)))  ∧ am_pk (am_ud f7 11701 v46) (am_ud a7 153 ((a7 153).set (f7 11750).toNat (f7 11753)))  ≤ 57))) by omega) (show (f7 11753) + 1 ≤ am_ph f7 a7  + 3000 * (v46) by omega) (show am_at ((a7 153).set (f7 11750).toNat (f7 11753)) ((f7 11750)) ≤ (f7 11753) by omega) (show (f7 11753) - am_at ((a7 153).set (f7 11750).toNat (f7 11753)) ((f7 11750)) ≤ am_at (a7 124) 0 - (am_at (a 124) 0) by omega) (show (f 11713) ≤ 16 * (v46) by omega) (show (f7 11713) = (f 11713) by omega) (show (f7 11718) = (f 11718) by omega) (show (f7 11757) = (f 11757) by omega) (show (f7 11763) = (f 11763) by omega) (show (f7 11741) = (f 11741) by omega) (show (f7 11755) = (f 11755) by omega) (show (f7 11709) = (f 11709) by omega) (show (am_at (a 124) 0) ≤ am_at (a7 124) 0 by omega) (show (am_at (a 124) 0) ≥ 0 by omega)
set_option maxRecDepth 100000 in
set_option maxHeartbeats 4000000 in
theorem am_ct141_121 {X : List Value} {w : Value} {e : Nat} {g : aF} {h : aA} {E : Nat → aF → aA → Prop} {d : Nat} {z11713 : Int} {z11718 : Int} {z11757 : Int} {z11763 : Int} {z11741 : Int} {z11755 : Int} {z11709 : Int} {zph : Int} {zp0 : Int} {fz : aF} {az : aA} (hd : 4 ≤ d + 1) (n : Nat) :
    ∀ {f : aF} {a : aA} {x1 : Int}, (8 * (3500 - am_ph f a) + 3 - f 11701).toNat < n → am_RV g h f a → am_mn fz az f a → (-2147483648 ≤ x1 ∧ x1 ≤ 2147483647) → 0 ≤ x1 → x1 < 64 → z11713 ≤ 16 * f 11701 → zph + 1 ≤ am_ph f a + f 11701 → zp0 + 1 ≤ am_at (a 124) 0 + f 11701 + z11713 → f 11713 = z11713 → f 11718 = z11718 → f 11757 = z11757 → f 11763 = z11763 → f 11741 = z11741 → f 11755 = z11755 → f 11709 = z11709 → zph ≤ am_ph f a → zp0 ≤ am_at (a 124) 0 → zph ≥ 0 → zp0 ≥ 0 → am_TE X (d + 1) am_m140 121 [(0, .ref 117), (1, am_iv x1)] [] f a w e (am_QV (fun f1 a1 => am_RV g h f1 a1 ∧ am_mn fz az f1 a1 ∧ f1 11713 = z11713 ∧ f1 11718 = z11718 ∧ f1 11757 = z11757 ∧ f1 11763 = z11763 ∧ f1 11741 = z11741 ∧ f1 11755 = z11755 ∧ f1 11709 = z11709 ∧ zph + 1 ≤ am_ph f1 a1 + 1 * (f1 11701) ∧ zp0 + 1 ≤ am_at (a1 124) 0 + 1 * (f1 11701) + 1 * z11713)) E := by
  induction n with
  | zero => intros; omega
  | succ n ih =>
    intro f a x1 hn hI hp0 hp1 hp2 hp3 hp4 hp5 hp6 hp7 hp8 hp9 hp10 hp11 hp12 hp13 hp14 hp15 hp16 hp17
    have q1 := am_RV_ph hI
    have q2 := am_RV_p0 hI
    have q3 := am_Rg11701 hI.1.1
    have q4 := am_Rg11713 hI.1.1
    have q5 := am_Rg11718 hI.1.1
    have q6 := am_Rg11757 hI.1.1
    have q7 := am_Rg11763 hI.1.1
    have q8 := am_Rg11741 hI.1.1
    have q9 := am_Rg11755 hI.1.1
    have q10 := am_Rg11709 hI.1.1
    have q13 := hI.2.2.2.2.2.2.2.2.1
    have q3 := hI.2.2.2.1
    have q20 := hI.2.2.1 0 (by omega) (by omega)
    have q12 := hI.2.2.2.2.2.2.2.2.2.2
    refine am_raload_n rfl rfl rfl ?_
    refine am_evirtualI (m := am_m121) (As := [.ref 117]) (S1 := []) rfl rfl rfl rfl rfl rfl rfl rfl rfl rfl (am_TE.int (am_ct122  (by omega) hI) (fun b11 f11 a11 hq12 => ?_) (fun _ _ _ h => h))
    obtain ⟨rfl, rfl, hq12⟩ := hq12
    refine am_rbipush rfl (by decide) ?_
    refine am_ric_ne rfl rfl (by unfold am_rg; omega) (by unfold am_rg; omega) (fun hc13 => ?_) (fun hc13 => ?_)
    · refine am_raload_n rfl rfl rfl ?_
      refine am_rbipush rfl (by decide) ?_
      refine am_evirtualV (m := am_m123) (As := [.ref 117, am_iv 41]) (S1 := []) rfl rfl rfl rfl rfl rfl rfl rfl rfl rfl (am_TE.void (am_ct124 (y1 := 41) (by omega) hI (by omega) (show 0 ≤ 41 by omega)) (fun f14 a14 hq15 => ?_) (fun _ _ _ h => h))
      obtain ⟨hI16, hk17, hq15⟩ := hq15
      replace hq15 : f14 11713 = ((f 11713)) ∧ (am_ph f a ) + 1 ≤ am_ph f14 a14 + 1 * (f14 11701) ∧ (am_at (a 124) 0) + 1 ≤ am_at (a14 124) 0 + 1 * (f14 11701) + 1 * ((f 11713)) := hq15
      have mm18 : f 11701 ≤ f14 11701 ∧ am_ph f a ≤ am_ph f14 a14 ∧ am_at (a 124) 0 ≤ am_at (a14 124) 0 ∧ am_at (a14 125) 0 = am_at (a 125) 0 := hk17.1
      have hm19 := am_mn.trans hp0 hk17.1
      have t20 : f14 11718 = f 11718 := hk17.2.1 11718 rfl
      have t21 : f14 11757 = f 11757 := hk17.2.1 11757 rfl
      have t22 : f14 11763 = f 11763 := hk17.2.1 11763 rfl
      have t23 : f14 11741 = f 11741 := hk17.2.1 11741 rfl
      have t24 : f14 11755 = f 11755 := hk17.2.1 11755 rfl
      have t25 : f14 11709 = f 11709 := hk17.2.1 11709 rfl
      have t26 : f14 11750 = f 11750 := hk17.2.1 11750 rfl
      have t27 : f14 11753 = f 11753 := hk17.2.1 11753 rfl
      refine am_raload_n rfl rfl rfl ?_
      refine am_rgetf (S1 := [.ref 152]) rfl rfl ?_
      refine am_riload_n rfl rfl rfl ?_
      refine am_raload_n rfl rfl rfl ?_
      have q28 := am_Rg11750 hI16.1.1
      refine am_rgetf (S1 := [am_iv (f14 11750), am_iv x1, .ref 152]) rfl rfl ?_
      have q29 : (a14 152).length = 64 := am_Rl152 (am_RL 152 rfl hI16.1.1)
      have i30 : am_ib (a14 152) x1 := by unfold am_ib; omega
      have hl31 : am_LR 152 ((a14 152).set x1.toNat (f14 11750)) := am_RS152 (am_RL 152 rfl hI16.1.1) (by omega) (by omega)
      refine am_riastore (l := a14 152) (h1 := am_enc f14 (am_ud a14 152 ((a14 152).set x1.toNat (f14 11750))) w e) rfl am_ge152 i30 (am_sa152 _) ?_
      have q32 := am_Rg11701 hI16.1.1
      have J33 := am_Ra152 hI16 hl31
      have m34 : am_mn fz az f14 (am_ud a14 152 ((a14 152).set x1.toNat (f14 11750))) := am_mn_a rfl rfl hm19
      have q35 := am_Rg11713 hI16.1.1
      have q36 := am_Rg11718 hI16.1.1
      have q37 := am_Rg11757 hI16.1.1
      have q38 := am_Rg11763 hI16.1.1
      have q39 := am_Rg11741 hI16.1.1
      have q40 := am_Rg11755 hI16.1.1
      have q41 := am_Rg11709 hI16.1.1
      exact am_eret rfl rfl ⟨J33, m34, (show f14 11713 = z11713 by omega), (show f14 11718 = z11718 by omega), (show f14 11757 = z11757 by omega), (show f14 11763 = z11763 by omega), (show f14 11741 = z11741 by omega), (show f14 11755 = z11755 by omega), (show f14 11709 = z11709 by omega), (show zph + 1 ≤ am_ph f14 a14 + 1 * (f14 11701) by omega), (show zp0 + 1 ≤ am_at (a14 124) 0 + 1 * (f14 11701) + 1 * z11713 by omega)⟩
    · refine am_raload_n rfl rfl rfl ?_
      have ok42 : f 11701 = 0 ∧ am_at (a 124) (f 11713) < am_at (a 125) (f 11713) := am_PK.ok hq12.2.2.1 (by omega)
      refine am_evirtualV (m := am_m122) (As := [.ref 117]) (S1 := []) rfl rfl rfl rfl rfl rfl rfl rfl rfl rfl (am_TE.void (am_ct123  (by omega) hI (show am_at (a 124) ((f 11713)) < am_at (a 125) ((f 11713)) by omega)) (fun f43 a43 hq44 => ?_) (fun _ _ _ h => h))
      obtain ⟨hI45, hk46, hq44⟩ := hq44
      replace hq44 : f43 11701 = ((f 11701)) ∧ f43 11713 = ((f 11713)) ∧ am_ph f43 a43 = (am_ph f a ) + 1 ∧ (((f 11713)) = 0 → am_at (a43 124) 0 = (am_at (a 124) 0) + 1) := hq44
      have mm47 : f 11701 ≤ f43 11701 ∧ am_ph f a ≤ am_ph f43 a43 ∧ am_at (a 124) 0 ≤ am_at (a43 124) 0 ∧ am_at (a43 125) 0 = am_at (a 125) 0 := hk46.1
      have hm48 := am_mn.trans hp0 hk46.1
      have t49 : f43 11718 = f 11718 := hk46.2.1 11718 rfl
      have t50 : f43 11757 = f 11757 := hk46.2.1 11757 rfl
      have t51 : f43 11763 = f 11763 := hk46.2.1 11763 rfl
      have t52 : f43 11741 = f 11741 := hk46.2.1 11741 rfl
      have t53 : f43 11755 = f 11755 := hk46.2.1 11755 rfl
      have t54 : f43 11709 = f 11709 := hk46.2.1 11709 rfl
      have t55 : f43 11750 = f 11750 := hk46.2.1 11750 rfl
      have t56 : f43 11753 = f 11753 := hk46.2.1 11753 rfl
      refine am_raload_n rfl rfl rfl ?_
      have q57 := am_Rg11701 hI45.1.1
      have q58 := am_Rg11750 hI45.1.1
      have q59 := am_Rg11753 hI45.1.1
      have q60 := am_Rg11713 hI45.1.1
      refine am_evirtualV (m := am_m141) (As := [.ref 117]) (S1 := []) rfl rfl rfl rfl rfl rfl rfl rfl rfl rfl (am_TE.void (am_ct142  (by omega) hI45 (show 2 * (f43 11750) + 1 ≤ am_at (a43 124) 0 + 400 * (f43 11701) by omega) (show (f43 11753) + 1 ≤ am_ph f43 a43  + 3000 * (f43 11701) by omega) (show (f43 11750) ≤ 190 by omega) (show (f43 11713) ≤ 16 * (f43 11701) by omega)) (fun f61 a61 hq62 => ?_) (fun _ _ _ h => h))
      obtain ⟨hI63, hk64, hq62⟩ := hq62
      replace hq62 : f61 11713 = ((f43 11713)) ∧ f61 11718 = ((f43 11718)) ∧ f61 11757 = ((f43 11757)) ∧ f61 11763 = ((f43 11763)) ∧ f61 11741 = ((f43 11741)) ∧ f61 11755 = ((f43 11755)) ∧ f61 11709 = ((f43 11709)) ∧ f61 11750 ≤ ((f43 11750)) + 1 ∧ (am_at (a43 124) 0) ≤ am_at (a61 124) 0 := hq62
      have mm65 : f43 11701 ≤ f61 11701 ∧ am_ph f43 a43 ≤ am_ph f61 a61 ∧ am_at (a43 124) 0 ≤ am_at (a61 124) 0 ∧ am_at (a61 125) 0 = am_at (a43 125) 0 := hk64
      have hm66 := am_mn.trans hm48 hk64
      refine am_rgoto rfl rfl ?_
      have q67 := am_Rg11701 hI63.1.1
      have q68 := am_Rg11713 hI63.1.1
      have q69 := am_Rg11718 hI63.1.1
      have q70 := am_Rg11757 hI63.1.1
      have q71 := am_Rg11763 hI63.1.1
      have q72 := am_Rg11741 hI63.1.1
      have q73 := am_Rg11755 hI63.1.1
      have q74 := am_Rg11709 hI63.1.1
      exact ih (by omega) hI63 hm66 (by omega) (by omega) (by omega) (by omega) (by omega) (by omega) (by omega) (by omega) (by omega) (by omega) (by omega) (by omega) (by omega) (by omega) (by omega) (by omega) (by omega)
set_option maxRecDepth 100000 in
set_option maxHeartbeats 4000000 in
theorem am_ct141 {X : List Value} {w : Value} {e : Nat} {g : aF} {h : aA} {E : Nat → aF → aA → Prop} {d : Nat} {y1 : Int} {f : aF} {a : aA} (hd : 4 ≤ d) (hI : am_RV g h f a) (hp0 : (-2147483648 ≤ y1 ∧ y1 ≤ 2147483647)) (hp1 : 0 ≤ y1) (hp2 : y1 < 64) (hp3 : f 11713 ≤ 16 * f 11701) (hp4 : f 11750 ≤ 181) :
    am_TE X d am_m140 0 (lv_args 0 [.ref 117, am_iv y1]) [] f a w e (am_QV (fun f1 a1 => am_RV g h f1 a1 ∧ am_mn f a f1 a1 ∧ f1 11713 = (f 11713) ∧ f1 11718 = (f 11718) ∧ f1 11757 = (f 11757) ∧ f1 11763 = (f 11763) ∧ f1 11741 = (f 11741) ∧ f1 11755 = (f 11755) ∧ f1 11709 = (f 11709) ∧ (am_ph f a) + 1 ≤ am_ph f1 a1 + 1 * (f1 11701) ∧ (am_at (a 124) 0) + 1 ≤ am_at (a1 124) 0 + 1 * (f1 11701) + 1 * (f 11713))) E := by
  obtain ⟨d, rfl⟩ : ∃ d0, d = d0 + 1 := ⟨d - 1, by omega⟩
  have q1 := am_RV_ph hI
  have q2 := am_RV_p0 hI
  have q3 := am_Rg11701 hI.1.1
  have q4 := am_Rg11713 hI.1.1
  have q5 := am_Rg11750 hI.1.1
  have q13 := hI.2.2.2.2.2.2.2.2.1
  have q3 := hI.2.2.2.1
  have q20 := hI.2.2.1 0 (by omega) (by omega)
  have q12 := hI.2.2.2.2.2.2.2.2.2.2
  refine am_raload_n rfl rfl rfl ?_
  refine am_evirtualI (m := am_m121) (As := [.ref 117]) (S1 := []) rfl rfl rfl rfl rfl rfl rfl rfl rfl rfl (am_TE.int (am_ct122  (by omega) hI) (fun b6 f6 a6 hq7 => ?_) (fun _ _ _ h => h))
  obtain ⟨rfl, rfl, hq7⟩ := hq7
  refine am_ristore_n (L1 := [(0, .ref 117), (1, am_iv y1), (2, am_iv b6)]) rfl rfl rfl rfl rfl ?_
  refine am_raload_n rfl rfl rfl ?_
  refine am_rgetf (S1 := [.ref 147]) rfl rfl ?_
  refine am_riload_n rfl rfl rfl ?_
  refine am_riconst rfl ?_
  have q8 : (a 147).length = 64 := am_Rl147 (am_RL 147 rfl hI.1.1)
  have i9 : am_ib (a 147) y1 := by unfold am_ib; omega
  have hl10 : am_LR 147 ((a 147).set y1.toNat ((-1))) := am_RS147 (am_RL 147 rfl hI.1.1) (by omega) (by omega)
  refine am_riastore (l := a 147) (h1 := am_enc f (am_ud a 147 ((a 147).set y1.toNat ((-1)))) w e) rfl am_ge147 i9 (am_sa147 _) ?_
  refine am_riload_n rfl rfl rfl ?_
  refine am_rbipush rfl (by decide) ?_
  refine am_ric_ne rfl rfl (by unfold am_rg; omega) (by unfold am_rg; omega) (fun hc11 => ?_) (fun hc11 => ?_)
  · refine am_riload_n rfl rfl rfl ?_
    refine am_rbipush rfl (by decide) ?_
    refine am_ric_ne rfl rfl (by unfold am_rg; omega) (by unfold am_rg; omega) (fun hc12 => ?_) (fun hc12 => ?_)
    · refine am_riload_n rfl rfl rfl ?_
      refine am_rbipush rfl (by decide) ?_
      refine am_ric_ne rfl rfl (by unfold am_rg; omega) (by unfold am_rg; omega) (fun hc13 => ?_) (fun hc13 => ?_)
      · refine am_raload_n rfl rfl rfl ?_
        refine am_rbipush rfl (by decide) ?_
        have J14 := am_Ra147 hI hl10
        refine am_evirtualV (m := am_m123) (As := [.ref 117, am_iv 40]) (S1 := []) rfl rfl rfl rfl rfl rfl rfl rfl rfl rfl (am_TE.void (am_ct124 (y1 := 40) (by omega) J14 (by omega) (show 0 ≤ 40 by omega)) (fun f15 a15 hq16 => ?_) (fun _ _ _ h => h))
        have m19 : am_mn f a f (am_ud a 147 ((a 147).set y1.toNat ((-1)))) := am_mn_a rfl rfl (am_mn.refl f a)
        obtain ⟨hI17, hk18, hq16⟩ := hq16
        replace hq16 : f15 11713 = ((f 11713)) ∧ (am_ph f a ) + 1 ≤ am_ph f15 a15 + 1 * (f15 11701) ∧ (am_at (a 124) 0) + 1 ≤ am_at (a15 124) 0 + 1 * (f15 11701) + 1 * ((f 11713)) := hq16
        have mm20 : f 11701 ≤ f15 11701 ∧ am_ph f a ≤ am_ph f15 a15 ∧ am_at (a 124) 0 ≤ am_at (a15 124) 0 ∧ am_at (a15 125) 0 = am_at (a 125) 0 := hk18.1
        have hm21 := am_mn.trans m19 hk18.1
        have t22 : f15 11718 = f 11718 := hk18.2.1 11718 rfl
        have t23 : f15 11757 = f 11757 := hk18.2.1 11757 rfl
        have t24 : f15 11763 = f 11763 := hk18.2.1 11763 rfl
        have t25 : f15 11741 = f 11741 := hk18.2.1 11741 rfl
        have t26 : f15 11755 = f 11755 := hk18.2.1 11755 rfl
        have t27 : f15 11709 = f 11709 := hk18.2.1 11709 rfl
        have t28 : f15 11750 = f 11750 := hk18.2.1 11750 rfl
        have t29 : f15 11753 = f 11753 := hk18.2.1 11753 rfl
        refine am_raload_n rfl rfl rfl ?_
        refine am_rgetf (S1 := [.ref 147]) rfl rfl ?_
        refine am_riload_n rfl rfl rfl ?_
        refine am_riconst rfl ?_
        have q30 : (a15 147).length = 64 := am_Rl147 (am_RL 147 rfl hI17.1.1)
        have i31 : am_ib (a15 147) y1 := by unfold am_ib; omega
        have hl32 : am_LR 147 ((a15 147).set y1.toNat 4) := am_RS147 (am_RL 147 rfl hI17.1.1) (by omega) (by omega)
        refine am_riastore (l := a15 147) (h1 := am_enc f15 (am_ud a15 147 ((a15 147).set y1.toNat 4)) w e) rfl am_ge147 i31 (am_sa147 _) ?_
        refine am_raload_n rfl rfl rfl ?_
        have J33 := am_Ra147 hI17 hl32
        have q34 := am_Rg11701 hI17.1.1
        have q35 := am_Rg11750 hI17.1.1
        have q36 := am_Rg11753 hI17.1.1
        have q37 := am_Rg11713 hI17.1.1
        refine am_evirtualV (m := am_m141) (As := [.ref 117]) (S1 := []) rfl rfl rfl rfl rfl rfl rfl rfl rfl rfl (am_TE.void (am_ct142  (by omega) J33 (show 2 * (f15 11750) + 1 ≤ am_at (a15 124) 0 + 400 * (f15 11701) by omega) (show (f15 11753) + 1 ≤ am_ph f15 a15  + 3000 * (f15 11701) by omega) (show (f15 11750) ≤ 190 by omega) (show (f15 11713) ≤ 16 * (f15 11701) by omega)) (fun f38 a38 hq39 => ?_) (fun _ _ _ h => h))
        have m42 : am_mn f a f15 (am_ud a15 147 ((a15 147).set y1.toNat 4)) := am_mn_a rfl rfl hm21
        obtain ⟨hI40, hk41, hq39⟩ := hq39
        replace hq39 : f38 11713 = ((f15 11713)) ∧ f38 11718 = ((f15 11718)) ∧ f38 11757 = ((f15 11757)) ∧ f38 11763 = ((f15 11763)) ∧ f38 11741 = ((f15 11741)) ∧ f38 11755 = ((f15 11755)) ∧ f38 11709 = ((f15 11709)) ∧ f38 11750 ≤ ((f15 11750)) + 1 ∧ (am_at (a15 124) 0) ≤ am_at (a38 124) 0 := hq39
        have mm43 : f15 11701 ≤ f38 11701 ∧ am_ph f15 a15 ≤ am_ph f38 a38 ∧ am_at (a15 124) 0 ≤ am_at (a38 124) 0 ∧ am_at (a38 125) 0 = am_at (a15 125) 0 := hk41
        have hm44 := am_mn.trans m42 hk41
        have q45 := am_Rg11701 hI40.1.1
        have q46 := am_Rg11713 hI40.1.1
        have q47 := am_Rg11718 hI40.1.1
        have q48 := am_Rg11757 hI40.1.1
        have q49 := am_Rg11763 hI40.1.1
        have q50 := am_Rg11741 hI40.1.1
        have q51 := am_Rg11755 hI40.1.1
        have q52 := am_Rg11709 hI40.1.1
        exact am_T.drop (L1 := [(0, .ref 117), (1, am_iv y1)]) (am_ct141_121 hd (_ + 1) (Nat.lt_succ_self _) hI40 hm44 (by omega) (by omega) (by omega) (by omega) (by omega) (by omega) (by omega) (by omega) (by omega) (by omega) (by omega) (by omega) (by omega) (by omega) (by omega) (by omega) (by omega)) (by simp)
      · refine am_raload_n rfl rfl rfl ?_
        refine am_rldc2 rfl rfl ?_
        have J53 := am_Ra147 hI hl10
        refine am_evirtualV (m := am_m124) (As := [.ref 117, .long (22040072686355790)]) (S1 := []) rfl rfl rfl rfl rfl rfl rfl rfl rfl rfl (am_TE.void (am_ct125 (y1 := 22040072686355790) (by omega) J53 (by decide)) (fun f54 a54 hq55 => ?_) (fun _ _ _ h => h))
        have m58 : am_mn f a f (am_ud a 147 ((a 147).set y1.toNat ((-1)))) := am_mn_a rfl rfl (am_mn.refl f a)
        obtain ⟨hI56, hk57, hq55⟩ := hq55
        replace hq55 : f54 11713 = ((f 11713)) ∧ (am_ph f a ) + 1 ≤ am_ph f54 a54 + 1 * (f54 11701) ∧ (am_at (a 124) 0) + 1 ≤ am_at (a54 124) 0 + 1 * (f54 11701) + 1 * ((f 11713)) := hq55
        have mm59 : f 11701 ≤ f54 11701 ∧ am_ph f a ≤ am_ph f54 a54 ∧ am_at (a 124) 0 ≤ am_at (a54 124) 0 ∧ am_at (a54 125) 0 = am_at (a 125) 0 := hk57.1
        have hm60 := am_mn.trans m58 hk57.1
        have t61 : f54 11718 = f 11718 := hk57.2.1 11718 rfl
        have t62 : f54 11757 = f 11757 := hk57.2.1 11757 rfl
        have t63 : f54 11763 = f 11763 := hk57.2.1 11763 rfl
        have t64 : f54 11741 = f 11741 := hk57.2.1 11741 rfl
        have t65 : f54 11755 = f 11755 := hk57.2.1 11755 rfl
        have t66 : f54 11709 = f 11709 := hk57.2.1 11709 rfl
        have t67 : f54 11750 = f 11750 := hk57.2.1 11750 rfl
        have t68 : f54 11753 = f 11753 := hk57.2.1 11753 rfl
        refine am_raload_n rfl rfl rfl ?_
        refine am_rgetf (S1 := [.ref 147]) rfl rfl ?_
        refine am_riload_n rfl rfl rfl ?_
        refine am_riconst rfl ?_
        have q69 : (a54 147).length = 64 := am_Rl147 (am_RL 147 rfl hI56.1.1)
        have i70 : am_ib (a54 147) y1 := by unfold am_ib; omega
        have hl71 : am_LR 147 ((a54 147).set y1.toNat 3) := am_RS147 (am_RL 147 rfl hI56.1.1) (by omega) (by omega)
        refine am_riastore (l := a54 147) (h1 := am_enc f54 (am_ud a54 147 ((a54 147).set y1.toNat 3)) w e) rfl am_ge147 i70 (am_sa147 _) ?_
        refine am_rgoto rfl rfl ?_
        refine am_raload_n rfl rfl rfl ?_
        refine am_rgetf (S1 := [.ref 152]) rfl rfl ?_
        refine am_riload_n rfl rfl rfl ?_
        refine am_raload_n rfl rfl rfl ?_
        have q72 := am_Rg11750 hI56.1.1
        refine am_rgetf (S1 := [am_iv (f54 11750), am_iv y1, .ref 152]) rfl rfl ?_
        have q73 : (a54 152).length = 64 := am_Rl152 (am_RL 152 rfl hI56.1.1)
        have i74 : am_ib (a54 152) y1 := by unfold am_ib; omega
        have hl75 : am_LR 152 ((a54 152).set y1.toNat (f54 11750)) := am_RS152 (am_RL 152 rfl hI56.1.1) (by omega) (by omega)
        refine am_riastore (l := a54 152) (h1 := am_enc f54 (am_ud (am_ud a54 147 ((a54 147).set y1.toNat 3)) 152 ((a54 152).set y1.toNat (f54 11750))) w e) rfl am_ge152 i74 (am_sa152 _) ?_
        have q76 := am_Rg11701 hI56.1.1
        have J77 := am_Ra147 hI56 hl71
        have J78 := am_Ra152 J77 hl75
        have m79 : am_mn f a f54 (am_ud a54 147 ((a54 147).set y1.toNat 3)) := am_mn_a rfl rfl hm60
        have m80 : am_mn f a f54 (am_ud (am_ud a54 147 ((a54 147).set y1.toNat 3)) 152 ((a54 152).set y1.toNat (f54 11750))) := am_mn_a rfl rfl m79
        have q81 := am_Rg11713 hI56.1.1
        have q82 := am_Rg11718 hI56.1.1
        have q83 := am_Rg11757 hI56.1.1
        have q84 := am_Rg11763 hI56.1.1
        have q85 := am_Rg11741 hI56.1.1
        have q86 := am_Rg11755 hI56.1.1
        have q87 := am_Rg11709 hI56.1.1
        exact am_eret rfl rfl ⟨J78, m80, (show f54 11713 = (f 11713) by omega), (show f54 11718 = (f 11718) by omega), (show f54 11757 = (f 11757) by omega), (show f54 11763 = (f 11763) by omega), (show f54 11741 = (f 11741) by omega), (show f54 11755 = (f 11755) by omega), (show f54 11709 = (f 11709) by omega), (show (am_ph f a) + 1 ≤ am_ph f54 a54 + 1 * (f54 11701) by omega), (show (am_at (a 124) 0) + 1 ≤ am_at (a54 124) 0 + 1 * (f54 11701) + 1 * (f 11713) by omega)⟩
    · refine am_raload_n rfl rfl rfl ?_
      refine am_rldc2 rfl rfl ?_
      have J88 := am_Ra147 hI hl10
      refine am_evirtualV (m := am_m124) (As := [.ref 117, .long (18756)]) (S1 := []) rfl rfl rfl rfl rfl rfl rfl rfl rfl rfl (am_TE.void (am_ct125 (y1 := 18756) (by omega) J88 (by decide)) (fun f89 a89 hq90 => ?_) (fun _ _ _ h => h))
      have m93 : am_mn f a f (am_ud a 147 ((a 147).set y1.toNat ((-1)))) := am_mn_a rfl rfl (am_mn.refl f a)
      obtain ⟨hI91, hk92, hq90⟩ := hq90
      replace hq90 : f89 11713 = ((f 11713)) ∧ (am_ph f a ) + 1 ≤ am_ph f89 a89 + 1 * (f89 11701) ∧ (am_at (a 124) 0) + 1 ≤ am_at (a89 124) 0 + 1 * (f89 11701) + 1 * ((f 11713)) := hq90
      have mm94 : f 11701 ≤ f89 11701 ∧ am_ph f a ≤ am_ph f89 a89 ∧ am_at (a 124) 0 ≤ am_at (a89 124) 0 ∧ am_at (a89 125) 0 = am_at (a 125) 0 := hk92.1
      have hm95 := am_mn.trans m93 hk92.1
      have t96 : f89 11718 = f 11718 := hk92.2.1 11718 rfl
      have t97 : f89 11757 = f 11757 := hk92.2.1 11757 rfl
      have t98 : f89 11763 = f 11763 := hk92.2.1 11763 rfl
      have t99 : f89 11741 = f 11741 := hk92.2.1 11741 rfl
      have t100 : f89 11755 = f 11755 := hk92.2.1 11755 rfl
      have t101 : f89 11709 = f 11709 := hk92.2.1 11709 rfl
      have t102 : f89 11750 = f 11750 := hk92.2.1 11750 rfl
      have t103 : f89 11753 = f 11753 := hk92.2.1 11753 rfl
      refine am_raload_n rfl rfl rfl ?_
      refine am_rgetf (S1 := [.ref 147]) rfl rfl ?_
      refine am_riload_n rfl rfl rfl ?_
      refine am_riconst rfl ?_
      have q104 : (a89 147).length = 64 := am_Rl147 (am_RL 147 rfl hI91.1.1)
      have i105 : am_ib (a89 147) y1 := by unfold am_ib; omega
      have hl106 : am_LR 147 ((a89 147).set y1.toNat 1) := am_RS147 (am_RL 147 rfl hI91.1.1) (by omega) (by omega)
      refine am_riastore (l := a89 147) (h1 := am_enc f89 (am_ud a89 147 ((a89 147).set y1.toNat 1)) w e) rfl am_ge147 i105 (am_sa147 _) ?_
      refine am_raload_n rfl rfl rfl ?_
      have J107 := am_Ra147 hI91 hl106
      refine am_evirtualI (m := am_m121) (As := [.ref 117]) (S1 := []) rfl rfl rfl rfl rfl rfl rfl rfl rfl rfl (am_TE.int (am_ct122  (by omega) J107) (fun b108 f108 a108 hq109 => ?_) (fun _ _ _ h => h))
      obtain ⟨rfl, rfl, hq109⟩ := hq109
      replace hq109 : (-2147483648 ≤ b108 ∧ b108 ≤ 2147483647) ∧ -1 ≤ b108 ∧ am_PK b108 f89 (am_ud a89 147 ((a89 147).set y1.toNat 1)) ∧ b108 = am_pk f89 (am_ud a89 147 ((a89 147).set y1.toNat 1)) := hq109
      refine am_rbipush rfl (by decide) ?_
      refine am_ric_ne rfl rfl (by unfold am_rg; omega) (by unfold am_rg; omega) (fun hc110 => ?_) (fun hc110 => ?_)
      · refine am_raload_n rfl rfl rfl ?_
        refine am_rgetf (S1 := [.ref 152]) rfl rfl ?_
        refine am_riload_n rfl rfl rfl ?_
        refine am_raload_n rfl rfl rfl ?_
        have q111 := am_Rg11750 hI91.1.1
        refine am_rgetf (S1 := [am_iv (f89 11750), am_iv y1, .ref 152]) rfl rfl ?_
        have q112 : (a89 152).length = 64 := am_Rl152 (am_RL 152 rfl hI91.1.1)
        have i113 : am_ib (a89 152) y1 := by unfold am_ib; omega
        have hl114 : am_LR 152 ((a89 152).set y1.toNat (f89 11750)) := am_RS152 (am_RL 152 rfl hI91.1.1) (by omega) (by omega)
        refine am_riastore (l := a89 152) (h1 := am_enc f89 (am_ud (am_ud a89 147 ((a89 147).set y1.toNat 1)) 152 ((a89 152).set y1.toNat (f89 11750))) w e) rfl am_ge152 i113 (am_sa152 _) ?_
        have q115 := am_Rg11701 hI91.1.1
        have J116 := am_Ra147 hI91 hl106
        have J117 := am_Ra152 J116 hl114
        have m118 : am_mn f a f89 (am_ud a89 147 ((a89 147).set y1.toNat 1)) := am_mn_a rfl rfl hm95
        have m119 : am_mn f a f89 (am_ud (am_ud a89 147 ((a89 147).set y1.toNat 1)) 152 ((a89 152).set y1.toNat (f89 11750))) := am_mn_a rfl rfl m118
        have q120 := am_Rg11713 hI91.1.1
        have q121 := am_Rg11718 hI91.1.1
        have q122 := am_Rg11757 hI91.1.1
        have q123 := am_Rg11763 hI91.1.1
        have q124 := am_Rg11741 hI91.1.1
        have q125 := am_Rg11755 hI91.1.1
        have q126 := am_Rg11709 hI91.1.1
        exact am_eret rfl rfl ⟨J117, m119, (show f89 11713 = (f 11713) by omega), (show f89 11718 = (f 11718) by omega), (show f89 11757 = (f 11757) by omega), (show f89 11763 = (f 11763) by omega), (show f89 11741 = (f 11741) by omega), (show f89 11755 = (f 11755) by omega), (show f89 11709 = (f 11709) by omega), (show (am_ph f a) + 1 ≤ am_ph f89 a89 + 1 * (f89 11701) by omega), (show (am_at (a 124) 0) + 1 ≤ am_at (a89 124) 0 + 1 * (f89 11701) + 1 * (f 11713) by omega)⟩
      · refine am_raload_n rfl rfl rfl ?_
        refine am_rldc2 rfl rfl ?_
        refine am_evirtualV (m := am_m124) (As := [.ref 117, .long (5391686)]) (S1 := []) rfl rfl rfl rfl rfl rfl rfl rfl rfl rfl (am_TE.void (am_ct125 (y1 := 5391686) (by omega) J107 (by decide)) (fun f127 a127 hq128 => ?_) (fun _ _ _ h => h))
        have m131 : am_mn f a f89 (am_ud a89 147 ((a89 147).set y1.toNat 1)) := am_mn_a rfl rfl hm95
        obtain ⟨hI129, hk130, hq128⟩ := hq128
        replace hq128 : f127 11713 = ((f89 11713)) ∧ (am_ph f89 a89 ) + 1 ≤ am_ph f127 a127 + 1 * (f127 11701) ∧ (am_at (a89 124) 0) + 1 ≤ am_at (a127 124) 0 + 1 * (f127 11701) + 1 * ((f89 11713)) := hq128
        have mm132 : f89 11701 ≤ f127 11701 ∧ am_ph f89 a89 ≤ am_ph f127 a127 ∧ am_at (a89 124) 0 ≤ am_at (a127 124) 0 ∧ am_at (a127 125) 0 = am_at (a89 125) 0 := hk130.1
        have hm133 := am_mn.trans m131 hk130.1
        have t134 : f127 11718 = f89 11718 := hk130.2.1 11718 rfl
        have t135 : f127 11757 = f89 11757 := hk130.2.1 11757 rfl
        have t136 : f127 11763 = f89 11763 := hk130.2.1 11763 rfl
        have t137 : f127 11741 = f89 11741 := hk130.2.1 11741 rfl
        have t138 : f127 11755 = f89 11755 := hk130.2.1 11755 rfl
        have t139 : f127 11709 = f89 11709 := hk130.2.1 11709 rfl
        have t140 : f127 11750 = f89 11750 := hk130.2.1 11750 rfl
        have t141 : f127 11753 = f89 11753 := hk130.2.1 11753 rfl
        refine am_raload_n rfl rfl rfl ?_
        refine am_rgetf (S1 := [.ref 147]) rfl rfl ?_
        refine am_riload_n rfl rfl rfl ?_
        refine am_riconst rfl ?_
        have q142 : (a127 147).length = 64 := am_Rl147 (am_RL 147 rfl hI129.1.1)
        have i143 : am_ib (a127 147) y1 := by unfold am_ib; omega
        have hl144 : am_LR 147 ((a127 147).set y1.toNat 2) := am_RS147 (am_RL 147 rfl hI129.1.1) (by omega) (by omega)
        refine am_riastore (l := a127 147) (h1 := am_enc f127 (am_ud a127 147 ((a127 147).set y1.toNat 2)) w e) rfl am_ge147 i143 (am_sa147 _) ?_
        refine am_rgoto rfl rfl ?_
        refine am_raload_n rfl rfl rfl ?_
        refine am_rgetf (S1 := [.ref 152]) rfl rfl ?_
        refine am_riload_n rfl rfl rfl ?_
        refine am_raload_n rfl rfl rfl ?_
        have q145 := am_Rg11750 hI129.1.1
        refine am_rgetf (S1 := [am_iv (f127 11750), am_iv y1, .ref 152]) rfl rfl ?_
        have q146 : (a127 152).length = 64 := am_Rl152 (am_RL 152 rfl hI129.1.1)
        have i147 : am_ib (a127 152) y1 := by unfold am_ib; omega
        have hl148 : am_LR 152 ((a127 152).set y1.toNat (f127 11750)) := am_RS152 (am_RL 152 rfl hI129.1.1) (by omega) (by omega)
        refine am_riastore (l := a127 152) (h1 := am_enc f127 (am_ud (am_ud a127 147 ((a127 147).set y1.toNat 2)) 152 ((a127 152).set y1.toNat (f127 11750))) w e) rfl am_ge152 i147 (am_sa152 _) ?_
        have q149 := am_Rg11701 hI129.1.1
        have J150 := am_Ra147 hI129 hl144
        have J151 := am_Ra152 J150 hl148
        have m152 : am_mn f a f127 (am_ud a127 147 ((a127 147).set y1.toNat 2)) := am_mn_a rfl rfl hm133
        have m153 : am_mn f a f127 (am_ud (am_ud a127 147 ((a127 147).set y1.toNat 2)) 152 ((a127 152).set y1.toNat (f127 11750))) := am_mn_a rfl rfl m152
        have q154 := am_Rg11713 hI129.1.1
        have q155 := am_Rg11718 hI129.1.1
        have q156 := am_Rg11757 hI129.1.1
        have q157 := am_Rg11763 hI129.1.1
        have q158 := am_Rg11741 hI129.1.1
        have q159 := am_Rg11755 hI129.1.1
        have q160 := am_Rg11709 hI129.1.1
        exact am_eret rfl rfl ⟨J151, m153, (show f127 11713 = (f 11713) by omega), (show f127 11718 = (f 11718) by omega), (show f127 11757 = (f 11757) by omega), (show f127 11763 = (f 11763) by omega), (show f127 11741 = (f 11741) by omega), (show f127 11755 = (f 11755) by omega), (show f127 11709 = (f 11709) by omega), (show (am_ph f a) + 1 ≤ am_ph f127 a127 + 1 * (f127 11701) by omega), (show (am_at (a 124) 0) + 1 ≤ am_at (a127 124) 0 + 1 * (f127 11701) + 1 * (f 11713) by omega)⟩
  · refine am_raload_n rfl rfl rfl ?_
    refine am_rldc2 rfl rfl ?_
    have J161 := am_Ra147 hI hl10
    refine am_evirtualV (m := am_m124) (As := [.ref 117, .long (288907940929)]) (S1 := []) rfl rfl rfl rfl rfl rfl rfl rfl rfl rfl (am_TE.void (am_ct125 (y1 := 288907940929) (by omega) J161 (by decide)) (fun f162 a162 hq163 => ?_) (fun _ _ _ h => h))
    have m166 : am_mn f a f (am_ud a 147 ((a 147).set y1.toNat ((-1)))) := am_mn_a rfl rfl (am_mn.refl f a)
    obtain ⟨hI164, hk165, hq163⟩ := hq163
    replace hq163 : f162 11713 = ((f 11713)) ∧ (am_ph f a ) + 1 ≤ am_ph f162 a162 + 1 * (f162 11701) ∧ (am_at (a 124) 0) + 1 ≤ am_at (a162 124) 0 + 1 * (f162 11701) + 1 * ((f 11713)) := hq163
    have mm167 : f 11701 ≤ f162 11701 ∧ am_ph f a ≤ am_ph f162 a162 ∧ am_at (a 124) 0 ≤ am_at (a162 124) 0 ∧ am_at (a162 125) 0 = am_at (a 125) 0 := hk165.1
    have hm168 := am_mn.trans m166 hk165.1
    have t169 : f162 11718 = f 11718 := hk165.2.1 11718 rfl
    have t170 : f162 11757 = f 11757 := hk165.2.1 11757 rfl
    have t171 : f162 11763 = f 11763 := hk165.2.1 11763 rfl
    have t172 : f162 11741 = f 11741 := hk165.2.1 11741 rfl
    have t173 : f162 11755 = f 11755 := hk165.2.1 11755 rfl
    have t174 : f162 11709 = f 11709 := hk165.2.1 11709 rfl
    have t175 : f162 11750 = f 11750 := hk165.2.1 11750 rfl
    have t176 : f162 11753 = f 11753 := hk165.2.1 11753 rfl
    refine am_raload_n rfl rfl rfl ?_
    refine am_rgetf (S1 := [.ref 147]) rfl rfl ?_
    refine am_riload_n rfl rfl rfl ?_
    refine am_riconst rfl ?_
    have q177 : (a162 147).length = 64 := am_Rl147 (am_RL 147 rfl hI164.1.1)
    have i178 : am_ib (a162 147) y1 := by unfold am_ib; omega
    have hl179 : am_LR 147 ((a162 147).set y1.toNat 0) := am_RS147 (am_RL 147 rfl hI164.1.1) (by omega) (by omega)
    refine am_riastore (l := a162 147) (h1 := am_enc f162 (am_ud a162 147 ((a162 147).set y1.toNat 0)) w e) rfl am_ge147 i178 (am_sa147 _) ?_
    refine am_rgoto rfl rfl ?_
    refine am_raload_n rfl rfl rfl ?_
    refine am_rgetf (S1 := [.ref 152]) rfl rfl ?_
    refine am_riload_n rfl rfl rfl ?_
    refine am_raload_n rfl rfl rfl ?_
    have q180 := am_Rg11750 hI164.1.1
    refine am_rgetf (S1 := [am_iv (f162 11750), am_iv y1, .ref 152]) rfl rfl ?_
    have q181 : (a162 152).length = 64 := am_Rl152 (am_RL 152 rfl hI164.1.1)
    have i182 : am_ib (a162 152) y1 := by unfold am_ib; omega
    have hl183 : am_LR 152 ((a162 152).set y1.toNat (f162 11750)) := am_RS152 (am_RL 152 rfl hI164.1.1) (by omega) (by omega)
    refine am_riastore (l := a162 152) (h1 := am_enc f162 (am_ud (am_ud a162 147 ((a162 147).set y1.toNat 0)) 152 ((a162 152).set y1.toNat (f162 11750))) w e) rfl am_ge152 i182 (am_sa152 _) ?_
    have q184 := am_Rg11701 hI164.1.1
    have J185 := am_Ra147 hI164 hl179
    have J186 := am_Ra152 J185 hl183
    have m187 : am_mn f a f162 (am_ud a162 147 ((a162 147).set y1.toNat 0)) := am_mn_a rfl rfl hm168
    have m188 : am_mn f a f162 (am_ud (am_ud a162 147 ((a162 147).set y1.toNat 0)) 152 ((a162 152).set y1.toNat (f162 11750))) := am_mn_a rfl rfl m187
    have q189 := am_Rg11713 hI164.1.1
    have q190 := am_Rg11718 hI164.1.1
    have q191 := am_Rg11757 hI164.1.1
    have q192 := am_Rg11763 hI164.1.1
    have q193 := am_Rg11741 hI164.1.1
    have q194 := am_Rg11755 hI164.1.1
    have q195 := am_Rg11709 hI164.1.1
    exact am_eret rfl rfl ⟨J186, m188, (show f162 11713 = (f 11713) by omega), (show f162 11718 = (f 11718) by omega), (show f162 11757 = (f 11757) by omega), (show f162 11763 = (f 11763) by omega), (show f162 11741 = (f 11741) by omega), (show f162 11755 = (f 11755) by omega), (show f162 11709 = (f 11709) by omega), (show (am_ph f a) + 1 ≤ am_ph f162 a162 + 1 * (f162 11701) by omega), (show (am_at (a 124) 0) + 1 ≤ am_at (a162 124) 0 + 1 * (f162 11701) + 1 * (f 11713) by omega)⟩
set_option maxRecDepth 100000 in
set_option maxHeartbeats 4000000 in
theorem am_ct144_295 {X : List Value} {w : Value} {e : Nat} {g : aF} {h : aA} {E : Nat → aF → aA → Prop} {d : Nat} {z11718 : Int} {z11757 : Int} {z11763 : Int} {z11713 : Int} {zph : Int} {zp0 : Int} {fz : aF} {az : aA} {f : aF} {a : aA} {x3 : Int} (hd : 6 ≤ d + 1) (hI : am_RV g h f a) (hp0 : am_mn fz az f a) (hp1 : (-2147483648 ≤ x3 ∧ x3 ≤ 2147483647)) (hp2 : (x3 = 0 ∨ x3 = 1)) (hp3 : zp0 + 6 ≤ am_at (a 124) 0 + 6 * f 11701 + 6 * z11713) (hp4 : zph + 1 ≤ am_ph f a + f 11701) (hp5 : 6 * f 11741 ≤ zp0 + 360 * f 11701) (hp6 : z11713 ≤ 16 * f 11701) (hp7 : z11713 ≤ f 11713) (hp8 : f 11713 ≤ z11713 + 16 * f 11701) (hp9 : f 11753 + f 11755 ≤ am_ph f a) (hp10 : f 11718 = z11718) (hp11 : f 11757 = z11757) (hp12 : f 11763 = z11763) (hp13 : zph ≤ am_ph f a) (hp14 : zp0 ≤ am_at (a 124) 0) (hp15 : zph ≥ 0) (hp16 : zp0 ≥ 0) :
    am_TE X (d + 1) am_m143 295 [(0, .ref 117), (3, am_iv x3)] [] f a w e (am_QV (fun f1 a1 => am_RV g h f1 a1 ∧ am_mn fz az f1 a1 ∧ f1 11718 = z11718 ∧ f1 11757 = z11757 ∧ f1 11763 = z11763 ∧ zph + 1 ≤ am_ph f1 a1 + 1 * (f1 11701) ∧ zp0 + 1 ≤ am_at (a1 124) 0 + 1 * (f1 11701) + 1 * z11713 ∧ z11713 ≤ f1 11713 ∧ f1 11713 ≤ z11713 + 16 * f1 11701)) E := by
  have q1 := am_RV_ph hI
  have q2 := am_RV_p0 hI
  have q3 := am_Rg11701 hI.1.1
  have q4 := am_Rg11741 hI.1.1
  have q5 := am_Rg11713 hI.1.1
  have q6 := am_Rg11753 hI.1.1
  have q7 := am_Rg11755 hI.1.1
  have q8 := am_Rg11718 hI.1.1
  have q9 := am_Rg11757 hI.1.1
  have q10 := am_Rg11763 hI.1.1
  have q20 := hI.2.2.1 0 (by omega) (by omega)
  have q12 := hI.2.2.2.2.2.2.2.2.2.2
  refine am_raload_n rfl rfl rfl ?_
  refine am_rdup rfl rfl ?_
  refine am_rgetf (S1 := [am_iv (f 11753), .ref 117]) rfl rfl ?_
  refine am_riload_n rfl rfl rfl ?_
  refine am_rif_eq rfl rfl (by unfold am_rg; omega) (fun hc11 => ?_) (fun hc11 => ?_)
  · refine am_raload_n rfl rfl rfl ?_
    refine am_rgetf (S1 := [am_iv (f 11755), am_iv (f 11753), .ref 117]) rfl rfl ?_
    refine am_riadd rfl ?_
    refine am_rputf (S1 := []) (h1 := am_enc (am_ud f 11753 ((f 11753) + (f 11755))) a w e) rfl (am_pfB rfl am_ge117 rfl (am_sf11753 _)) (by rw [am_enc_len, am_enc_len]) ?_
    refine am_raload_n rfl rfl rfl ?_
    refine am_rdup rfl rfl ?_
    refine am_rgetf (S1 := [am_iv (f 11741), .ref 117]) rfl rfl ?_
    refine am_riload_n rfl rfl rfl ?_
    refine am_rif_ne rfl rfl (by unfold am_rg; omega) (fun hc12 => ?_) (fun hc12 => ?_)
    · refine am_riconst rfl ?_
      refine am_rgoto rfl rfl ?_
      refine am_riadd rfl ?_
      refine am_rputf (S1 := []) (h1 := am_enc (am_ud (am_ud f 11753 ((f 11753) + (f 11755))) 11741 ((f 11741) + 0)) a w e) rfl (am_pfB rfl am_ge117 rfl (am_sf11741 _)) (by rw [am_enc_len, am_enc_len]) ?_
      have J13 := am_Rf11753 (v := (f 11753) + (f 11755)) hI (by omega) (by omega) (show (f 11753) + (f 11755) ≤ am_ph f a by omega)
      have J14 := am_Rf11741 (v := (f 11741) + 0) J13 (by omega) (by omega) (fun z => by have z : f 11701 = 0 := z; show 6 * ((f 11741) + 0) ≤ am_at (a 124) 0; omega)
      have m15 : am_mn fz az (am_ud f 11753 ((f 11753) + (f 11755))) a := am_mn_f rfl rfl rfl hp0
      have m16 : am_mn fz az (am_ud (am_ud f 11753 ((f 11753) + (f 11755))) 11741 ((f 11741) + 0)) a := am_mn_f rfl rfl rfl m15
      exact am_eret rfl rfl ⟨J14, m16, (show f 11718 = z11718 by omega), (show f 11757 = z11757 by omega), (show f 11763 = z11763 by omega), (show zph + 1 ≤ am_ph f a + 1 * (f 11701) by omega), (show zp0 + 1 ≤ am_at (a 124) 0 + 1 * (f 11701) + 1 * z11713 by omega), (show z11713 ≤ f 11713 by omega), (show f 11713 ≤ z11713 + 16 * f 11701 by omega)⟩
    · refine am_raload_n rfl rfl rfl ?_
      refine am_rgetf (S1 := [am_iv (f 11701), am_iv (f 11741), .ref 117]) rfl rfl ?_
      refine am_rif_eq rfl rfl (by unfold am_rg; omega) (fun hc17 => ?_) (fun hc17 => ?_)
      · refine am_riconst rfl ?_
        refine am_riadd rfl ?_
        refine am_rputf (S1 := []) (h1 := am_enc (am_ud (am_ud f 11753 ((f 11753) + (f 11755))) 11741 ((f 11741) + 1)) a w e) rfl (am_pfB rfl am_ge117 rfl (am_sf11741 _)) (by rw [am_enc_len, am_enc_len]) ?_
        have J18 := am_Rf11753 (v := (f 11753) + (f 11755)) hI (by omega) (by omega) (show (f 11753) + (f 11755) ≤ am_ph f a by omega)
        have J19 := am_Rf11741 (v := (f 11741) + 1) J18 (by omega) (by omega) (fun z => by have z : f 11701 = 0 := z; show 6 * ((f 11741) + 1) ≤ am_at (a 124) 0; omega)
        have m20 : am_mn fz az (am_ud f 11753 ((f 11753) + (f 11755))) a := am_mn_f rfl rfl rfl hp0
        have m21 : am_mn fz az (am_ud (am_ud f 11753 ((f 11753) + (f 11755))) 11741 ((f 11741) + 1)) a := am_mn_f rfl rfl rfl m20
        exact am_eret rfl rfl ⟨J19, m21, (show f 11718 = z11718 by omega), (show f 11757 = z11757 by omega), (show f 11763 = z11763 by omega), (show zph + 1 ≤ am_ph f a + 1 * (f 11701) by omega), (show zp0 + 1 ≤ am_at (a 124) 0 + 1 * (f 11701) + 1 * z11713 by omega), (show z11713 ≤ f 11713 by omega), (show f 11713 ≤ z11713 + 16 * f 11701 by omega)⟩
      · refine am_riconst rfl ?_
        refine am_rgoto rfl rfl ?_
        refine am_riadd rfl ?_
        refine am_rputf (S1 := []) (h1 := am_enc (am_ud (am_ud f 11753 ((f 11753) + (f 11755))) 11741 ((f 11741) + 0)) a w e) rfl (am_pfB rfl am_ge117 rfl (am_sf11741 _)) (by rw [am_enc_len, am_enc_len]) ?_
        have J22 := am_Rf11753 (v := (f 11753) + (f 11755)) hI (by omega) (by omega) (show (f 11753) + (f 11755) ≤ am_ph f a by omega)
        have J23 := am_Rf11741 (v := (f 11741) + 0) J22 (by omega) (by omega) (fun z => by have z : f 11701 = 0 := z; show 6 * ((f 11741) + 0) ≤ am_at (a 124) 0; omega)
        have m24 : am_mn fz az (am_ud f 11753 ((f 11753) + (f 11755))) a := am_mn_f rfl rfl rfl hp0
        have m25 : am_mn fz az (am_ud (am_ud f 11753 ((f 11753) + (f 11755))) 11741 ((f 11741) + 0)) a := am_mn_f rfl rfl rfl m24
        exact am_eret rfl rfl ⟨J23, m25, (show f 11718 = z11718 by omega), (show f 11757 = z11757 by omega), (show f 11763 = z11763 by omega), (show zph + 1 ≤ am_ph f a + 1 * (f 11701) by omega), (show zp0 + 1 ≤ am_at (a 124) 0 + 1 * (f 11701) + 1 * z11713 by omega), (show z11713 ≤ f 11713 by omega), (show f 11713 ≤ z11713 + 16 * f 11701 by omega)⟩
  · refine am_riconst rfl ?_
    refine am_rgoto rfl rfl ?_
    refine am_riadd rfl ?_
    refine am_rputf (S1 := []) (h1 := am_enc (am_ud f 11753 ((f 11753) + 0)) a w e) rfl (am_pfB rfl am_ge117 rfl (am_sf11753 _)) (by rw [am_enc_len, am_enc_len]) ?_
    refine am_raload_n rfl rfl rfl ?_
    refine am_rdup rfl rfl ?_
    refine am_rgetf (S1 := [am_iv (f 11741), .ref 117]) rfl rfl ?_
    refine am_riload_n rfl rfl rfl ?_
    refine am_rif_ne rfl rfl (by unfold am_rg; omega) (fun hc26 => ?_) (fun hc26 => ?_)
    · refine am_riconst rfl ?_
      refine am_rgoto rfl rfl ?_
      refine am_riadd rfl ?_
      refine am_rputf (S1 := []) (h1 := am_enc (am_ud (am_ud f 11753 ((f 11753) + 0)) 11741 ((f 11741) + 0)) a w e) rfl (am_pfB rfl am_ge117 rfl (am_sf11741 _)) (by rw [am_enc_len, am_enc_len]) ?_
      have J27 := am_Rf11753 (v := (f 11753) + 0) hI (by omega) (by omega) (show (f 11753) + 0 ≤ am_ph f a by omega)
      have J28 := am_Rf11741 (v := (f 11741) + 0) J27 (by omega) (by omega) (fun z => by have z : f 11701 = 0 := z; show 6 * ((f 11741) + 0) ≤ am_at (a 124) 0; omega)
      have m29 : am_mn fz az (am_ud f 11753 ((f 11753) + 0)) a := am_mn_f rfl rfl rfl hp0
      have m30 : am_mn fz az (am_ud (am_ud f 11753 ((f 11753) + 0)) 11741 ((f 11741) + 0)) a := am_mn_f rfl rfl rfl m29
      exact am_eret rfl rfl ⟨J28, m30, (show f 11718 = z11718 by omega), (show f 11757 = z11757 by omega), (show f 11763 = z11763 by omega), (show zph + 1 ≤ am_ph f a + 1 * (f 11701) by omega), (show zp0 + 1 ≤ am_at (a 124) 0 + 1 * (f 11701) + 1 * z11713 by omega), (show z11713 ≤ f 11713 by omega), (show f 11713 ≤ z11713 + 16 * f 11701 by omega)⟩
    · refine am_raload_n rfl rfl rfl ?_
      refine am_rgetf (S1 := [am_iv (f 11701), am_iv (f 11741), .ref 117]) rfl rfl ?_
      refine am_rif_eq rfl rfl (by unfold am_rg; omega) (fun hc31 => ?_) (fun hc31 => ?_)
      · refine am_riconst rfl ?_
        refine am_riadd rfl ?_
        refine am_rputf (S1 := []) (h1 := am_enc (am_ud (am_ud f 11753 ((f 11753) + 0)) 11741 ((f 11741) + 1)) a w e) rfl (am_pfB rfl am_ge117 rfl (am_sf11741 _)) (by rw [am_enc_len, am_enc_len]) ?_
        have J32 := am_Rf11753 (v := (f 11753) + 0) hI (by omega) (by omega) (show (f 11753) + 0 ≤ am_ph f a by omega)
        have J33 := am_Rf11741 (v := (f 11741) + 1) J32 (by omega) (by omega) (fun z => by have z : f 11701 = 0 := z; show 6 * ((f 11741) + 1) ≤ am_at (a 124) 0; omega)
        have m34 : am_mn fz az (am_ud f 11753 ((f 11753) + 0)) a := am_mn_f rfl rfl rfl hp0
        have m35 : am_mn fz az (am_ud (am_ud f 11753 ((f 11753) + 0)) 11741 ((f 11741) + 1)) a := am_mn_f rfl rfl rfl m34
        exact am_eret rfl rfl ⟨J33, m35, (show f 11718 = z11718 by omega), (show f 11757 = z11757 by omega), (show f 11763 = z11763 by omega), (show zph + 1 ≤ am_ph f a + 1 * (f 11701) by omega), (show zp0 + 1 ≤ am_at (a 124) 0 + 1 * (f 11701) + 1 * z11713 by omega), (show z11713 ≤ f 11713 by omega), (show f 11713 ≤ z11713 + 16 * f 11701 by omega)⟩
      · refine am_riconst rfl ?_
        refine am_rgoto rfl rfl ?_
        refine am_riadd rfl ?_
        refine am_rputf (S1 := []) (h1 := am_enc (am_ud (am_ud f 11753 ((f 11753) + 0)) 11741 ((f 11741) + 0)) a w e) rfl (am_pfB rfl am_ge117 rfl (am_sf11741 _)) (by rw [am_enc_len, am_enc_len]) ?_
        have J36 := am_Rf11753 (v := (f 11753) + 0) hI (by omega) (by omega) (show (f 11753) + 0 ≤ am_ph f a by omega)
        have J37 := am_Rf11741 (v := (f 11741) + 0) J36 (by omega) (by omega) (fun z => by have z : f 11701 = 0 := z; show 6 * ((f 11741) + 0) ≤ am_at (a 124) 0; omega)
        have m38 : am_mn fz az (am_ud f 11753 ((f 11753) + 0)) a := am_mn_f rfl rfl rfl hp0
        have m39 : am_mn fz az (am_ud (am_ud f 11753 ((f 11753) + 0)) 11741 ((f 11741) + 0)) a := am_mn_f rfl rfl rfl m38
        exact am_eret rfl rfl ⟨J37, m39, (show f 11718 = z11718 by omega), (show f 11757 = z11757 by omega), (show f 11763 = z11763 by omega), (show zph + 1 ≤ am_ph f a + 1 * (f 11701) by omega), (show zp0 + 1 ≤ am_at (a 124) 0 + 1 * (f 11701) + 1 * z11713 by omega), (show z11713 ≤ f 11713 by omega), (show f 11713 ≤ z11713 + 16 * f 11701 by omega)⟩
set_option maxRecDepth 100000 in
set_option maxHeartbeats 4000000 in
theorem am_ct144_257 {X : List Value} {w : Value} {e : Nat} {g : aF} {h : aA} {E : Nat → aF → aA → Prop} {d : Nat} {z11718 : Int} {z11757 : Int} {z11763 : Int} {z11713 : Int} {zph : Int} {zp0 : Int} {fz : aF} {az : aA} (hd : 6 ≤ d + 1) (n : Nat) :
    ∀ {f : aF} {a : aA} {x3 : Int} {x5 : Int}, (f 11755 - x5).toNat < n → am_RV g h f a → am_mn fz az f a → (-2147483648 ≤ x3 ∧ x3 ≤ 2147483647) → (-2147483648 ≤ x5 ∧ x5 ≤ 2147483647) → 0 ≤ x5 → (x3 = 0 ∨ x3 = 1) → zp0 + 6 ≤ am_at (a 124) 0 + 6 * f 11701 + 6 * z11713 → zph + 1 ≤ am_ph f a + f 11701 → 6 * f 11741 ≤ zp0 + 360 * f 11701 → z11713 ≤ 16 * f 11701 → z11713 ≤ f 11713 → f 11713 ≤ z11713 + 16 * f 11701 → f 11753 + f 11755 ≤ am_ph f a → f 11718 = z11718 → f 11757 = z11757 → f 11763 = z11763 → zph ≤ am_ph f a → zp0 ≤ am_at (a 124) 0 → zph ≥ 0 → zp0 ≥ 0 → am_TE X (d + 1) am_m143 257 [(0, .ref 117), (3, am_iv x3), (5, am_iv x5)] [] f a w e (am_QV (fun f1 a1 => am_RV g h f1 a1 ∧ am_mn fz az f1 a1 ∧ f1 11718 = z11718 ∧ f1 11757 = z11757 ∧ f1 11763 = z11763 ∧ zph + 1 ≤ am_ph f1 a1 + 1 * (f1 11701) ∧ zp0 + 1 ≤ am_at (a1 124) 0 + 1 * (f1 11701) + 1 * z11713 ∧ z11713 ≤ f1 11713 ∧ f1 11713 ≤ z11713 + 16 * f1 11701)) E := by
  induction n with
  | zero => intros; omega
  | succ n ih =>
    intro f a x3 x5 hn hI hp0 hp1 hp2 hp3 hp4 hp5 hp6 hp7 hp8 hp9 hp10 hp11 hp12 hp13 hp14 hp15 hp16 hp17 hp18
    have q1 := am_RV_ph hI
    have q2 := am_RV_p0 hI
    have q3 := am_Rg11701 hI.1.1
    have q4 := am_Rg11741 hI.1.1
    have q5 := am_Rg11713 hI.1.1
    have q6 := am_Rg11753 hI.1.1
    have q7 := am_Rg11755 hI.1.1
    have q8 := am_Rg11718 hI.1.1
    have q9 := am_Rg11757 hI.1.1
    have q10 := am_Rg11763 hI.1.1
    refine am_riload rfl rfl rfl ?_
    refine am_raload_n rfl rfl rfl ?_
    refine am_rgetf (S1 := [am_iv (f 11755), am_iv x5]) rfl rfl ?_
    refine am_ric_ge rfl rfl (by unfold am_rg; omega) (by unfold am_rg; omega) (fun hc11 => ?_) (fun hc11 => ?_)
    · exact am_T.drop (L1 := [(0, .ref 117), (3, am_iv x3)]) (am_ct144_295 hd hI hp0 (by omega) (by omega) (by omega) (by omega) (by omega) (by omega) (by omega) (by omega) (by omega) (by omega) (by omega) (by omega) (by omega) (by omega) (by omega) (by omega)) (by simp)
    · refine am_riload_n rfl rfl rfl ?_
      refine am_rif_ne rfl rfl (by unfold am_rg; omega) (fun hc12 => ?_) (fun hc12 => ?_)
      · exact am_T.drop (L1 := [(0, .ref 117), (3, am_iv x3)]) (am_ct144_295 hd hI hp0 (by omega) (by omega) (by omega) (by omega) (by omega) (by omega) (by omega) (by omega) (by omega) (by omega) (by omega) (by omega) (by omega) (by omega) (by omega) (by omega)) (by simp)
      · refine am_raload_n rfl rfl rfl ?_
        refine am_rgetf (S1 := [.ref 155]) rfl rfl ?_
        refine am_raload_n rfl rfl rfl ?_
        refine am_rgetf (S1 := [am_iv (f 11753), .ref 155]) rfl rfl ?_
        refine am_riload rfl rfl rfl ?_
        refine am_riadd rfl ?_
        refine am_raload_n rfl rfl rfl ?_
        refine am_rgetf (S1 := [.ref 156, am_iv ((f 11753) + x5), .ref 155]) rfl rfl ?_
        refine am_riload rfl rfl rfl ?_
        have q13 : (a 156).length = 2600 := am_Rl156 (am_RL 156 rfl hI.1.1)
        have i14 : am_ib (a 156) x5 := by unfold am_ib; omega
        have q15 := am_Rb156 (am_RL 156 rfl hI.1.1) i14
        refine am_riaload (l := a 156) rfl am_ge156 i14 ?_
        have q16 : (a 155).length = 3200 := am_Rl155 (am_RL 155 rfl hI.1.1)
        have i17 : am_ib (a 155) ((f 11753) + x5) := by unfold am_ib; omega
        have hl18 : am_LR 155 ((a 155).set ((f 11753) + x5).toNat (am_at (a 156) x5)) := am_RS155 (am_RL 155 rfl hI.1.1) (by omega) (by omega)
        refine am_riastore (l := a 155) (h1 := am_enc f (am_ud a 155 ((a 155).set ((f 11753) + x5).toNat (am_at (a 156) x5))) w e) rfl am_ge155 i17 (am_sa155 _) ?_
        refine am_riinc (L1 := [(0, .ref 117), (3, am_iv x3), (5, am_iv (x5 + 1))]) rfl rfl rfl rfl rfl ?_
        refine am_rgoto rfl rfl ?_
        have J19 := am_Ra155 hI hl18
        have m20 : am_mn fz az f (am_ud a 155 ((a 155).set ((f 11753) + x5).toNat (am_at (a 156) x5))) := am_mn_a rfl rfl hp0
        exact ih (show ((f 11755) - (x5 + 1)).toNat < n by omega) J19 m20 (show (-2147483648 ≤ x3 ∧ x3 ≤ 2147483647) by omega) (show (-2147483648 ≤ (x5 + 1) ∧ (x5 + 1) ≤ 2147483647) by omega) (show 0 ≤ (x5 + 1) by omega) (show (x3 = 0 ∨ x3 = 1) by omega) (show zp0 + 6 ≤ am_at (a 124) 0 + 6 * (f 11701) + 6 * z11713 by omega) (show zph + 1 ≤ am_ph f a  + (f 11701) by omega) (show 6 * (f 11741) ≤ zp0 + 360 * (f 11701) by omega) (show z11713 ≤ 16 * (f 11701) by omega) (show z11713 ≤ (f 11713) by omega) (show (f 11713) ≤ z11713 + 16 * (f 11701) by omega) (show (f 11753) + (f 11755) ≤ am_ph f a  by omega) (show (f 11718) = z11718 by omega) (show (f 11757) = z11757 by omega) (show (f 11763) = z11763 by omega) (show zph ≤ am_ph f a  by omega) (show zp0 ≤ am_at (a 124) 0 by omega) (show zph ≥ 0 by omega) (show zp0 ≥ 0 by omega)
set_option maxRecDepth 100000 in
set_option maxHeartbeats 4000000 in
theorem am_ct144_234 {X : List Value} {w : Value} {e : Nat} {g : aF} {h : aA} {E : Nat → aF → aA → Prop} {d : Nat} {z11718 : Int} {z11757 : Int} {z11763 : Int} {z11713 : Int} {zph : Int} {zp0 : Int} {fz : aF} {az : aA} {f : aF} {a : aA} {x2 : Int} {x3 : Int} (hd : 6 ≤ d + 1) (hI : am_RV g h f a) (hp0 : am_mn fz az f a) (hp1 : (-2147483648 ≤ x2 ∧ x2 ≤ 2147483647)) (hp2 : (-2147483648 ≤ x3 ∧ x3 ≤ 2147483647)) (hp3 : 0 ≤ x2) (hp4 : x2 ≤ 60) (hp5 : (x3 = 0 ∨ x3 = 1)) (hp6 : zp0 + 6 ≤ am_at (a 124) 0 + 6 * f 11701 + 6 * z11713) (hp7 : zph + 1 ≤ am_ph f a + f 11701) (hp8 : 6 * f 11741 ≤ zp0 + 360 * f 11701) (hp9 : z11713 ≤ 16 * f 11701) (hp10 : z11713 ≤ f 11713) (hp11 : f 11713 ≤ z11713 + 16 * f 11701) (hp12 : f 11753 + f 11755 ≤ am_ph f a) (hp13 : f 11718 = z11718) (hp14 : f 11757 = z11757) (hp15 : f 11763 = z11763) (hp16 : zph ≤ am_ph f a) (hp17 : zp0 ≤ am_at (a 124) 0) (hp18 : zph ≥ 0) (hp19 : zp0 ≥ 0) :
    am_TE X (d + 1) am_m143 234 [(0, .ref 117), (2, am_iv x2), (3, am_iv x3)] [] f a w e (am_QV (fun f1 a1 => am_RV g h f1 a1 ∧ am_mn fz az f1 a1 ∧ f1 11718 = z11718 ∧ f1 11757 = z11757 ∧ f1 11763 = z11763 ∧ zph + 1 ≤ am_ph f1 a1 + 1 * (f1 11701) ∧ zp0 + 1 ≤ am_at (a1 124) 0 + 1 * (f1 11701) + 1 * z11713 ∧ z11713 ≤ f1 11713 ∧ f1 11713 ≤ z11713 + 16 * f1 11701)) E := by
  have q1 := am_RV_ph hI
  have q2 := am_RV_p0 hI
  have q3 := am_Rg11701 hI.1.1
  have q4 := am_Rg11741 hI.1.1
  have q5 := am_Rg11713 hI.1.1
  have q6 := am_Rg11753 hI.1.1
  have q7 := am_Rg11755 hI.1.1
  have q8 := am_Rg11718 hI.1.1
  have q9 := am_Rg11757 hI.1.1
  have q10 := am_Rg11763 hI.1.1
  refine am_raload_n rfl rfl rfl ?_
  refine am_rgetf (S1 := [.ref 149]) rfl rfl ?_
  refine am_riload_n rfl rfl rfl ?_
  refine am_raload_n rfl rfl rfl ?_
  refine am_rgetf (S1 := [am_iv (f 11753), am_iv x2, .ref 149]) rfl rfl ?_
  have q11 : (a 149).length = 64 := am_Rl149 (am_RL 149 rfl hI.1.1)
  have i12 : am_ib (a 149) x2 := by unfold am_ib; omega
  have hl13 : am_LR 149 ((a 149).set x2.toNat (f 11753)) := am_RS149 (am_RL 149 rfl hI.1.1) (by omega) (by omega)
  refine am_riastore (l := a 149) (h1 := am_enc f (am_ud a 149 ((a 149).set x2.toNat (f 11753))) w e) rfl am_ge149 i12 (am_sa149 _) ?_
  refine am_raload_n rfl rfl rfl ?_
  refine am_rgetf (S1 := [.ref 150]) rfl rfl ?_
  refine am_riload_n rfl rfl rfl ?_
  refine am_raload_n rfl rfl rfl ?_
  refine am_rgetf (S1 := [am_iv (f 11755), am_iv x2, .ref 150]) rfl rfl ?_
  have q14 : (a 150).length = 64 := am_Rl150 (am_RL 150 rfl hI.1.1)
  have i15 : am_ib (a 150) x2 := by unfold am_ib; omega
  have hl16 : am_LR 150 ((a 150).set x2.toNat (f 11755)) := am_RS150 (am_RL 150 rfl hI.1.1) (by omega) (by omega)
  refine am_riastore (l := a 150) (h1 := am_enc f (am_ud (am_ud a 149 ((a 149).set x2.toNat (f 11753))) 150 ((a 150).set x2.toNat (f 11755))) w e) rfl am_ge150 i15 (am_sa150 _) ?_
  refine am_riconst rfl ?_
  refine am_ristore (L1 := [(0, .ref 117), (2, am_iv x2), (3, am_iv x3), (5, am_iv 0)]) rfl rfl rfl rfl rfl ?_
  have J17 : am_RV g h f (am_ud (am_ud a 149 ((a 149).set x2.toNat (f 11753))) 150 ((a 150).set x2.toNat (f 11755))) := by
    have u0 := am_Ka149 hI.1.1 hl13
    have u1 := am_Ka150 u0 hl16
    exact ⟨⟨u1, am_R3_both hI.1.2.1 (by assumption) (by assumption) (by omega), hI.1.2.2⟩, hI.2⟩
  have m18 : am_mn fz az f (am_ud a 149 ((a 149).set x2.toNat (f 11753))) := am_mn_a rfl rfl hp0
  have m19 : am_mn fz az f (am_ud (am_ud a 149 ((a 149).set x2.toNat (f 11753))) 150 ((a 150).set x2.toNat (f 11755))) := am_mn_a rfl rfl m18
  exact am_T.drop (L1 := [(0, .ref 117), (3, am_iv x3), (5, am_iv 0)]) (am_ct144_257 hd (_ + 1) (Nat.lt_succ_self _) J17 m19 (show (-2147483648 ≤ x3 ∧ x3 ≤ 2147483647) by omega) (show (-2147483648 ≤ 0 ∧ 0 ≤ 2147483647) by omega) (show 0 ≤ 0 by omega) (show (x3 = 0 ∨ x3 = 1) by omega) (show zp0 + 6 ≤ am_at (a 124) 0 + 6 * (f 11701) + 6 * z11713 by omega) (show zph + 1 ≤ am_ph f a  + (f 11701) by omega) (show 6 * (f 11741) ≤ zp0 + 360 * (f 11701) by omega) (show z11713 ≤ 16 * (f 11701) by omega) (show z11713 ≤ (f 11713) by omega) (show (f 11713) ≤ z11713 + 16 * (f 11701) by omega) (show (f 11753) + (f 11755) ≤ am_ph f a  by omega) (show (f 11718) = z11718 by omega) (show (f 11757) = z11757 by omega) (show (f 11763) = z11763 by omega) (show zph ≤ am_ph f a  by omega) (show zp0 ≤ am_at (a 124) 0 by omega) (show zph ≥ 0 by omega) (show zp0 ≥ 0 by omega)) (by simp)
set_option maxRecDepth 100000 in
set_option maxHeartbeats 4000000 in
theorem am_ct144_221 {X : List Value} {w : Value} {e : Nat} {g : aF} {h : aA} {E : Nat → aF → aA → Prop} {d : Nat} {z11718 : Int} {z11757 : Int} {z11763 : Int} {z11713 : Int} {zph : Int} {zp0 : Int} {fz : aF} {az : aA} {f : aF} {a : aA} {x2 : Int} {x3 : Int} (hd : 6 ≤ d + 1) (hI : am_RV g h f a) (hp0 : am_mn fz az f a) (hp1 : (-2147483648 ≤ x2 ∧ x2 ≤ 2147483647)) (hp2 : (-2147483648 ≤ x3 ∧ x3 ≤ 2147483647)) (hp3 : 0 ≤ x2) (hp4 : x2 ≤ 60) (hp5 : (x3 = 0 ∨ x3 = 1)) (hp6 : zp0 + 6 ≤ am_at (a 124) 0 + 6 * f 11701 + 6 * z11713) (hp7 : zph + 1 ≤ am_ph f a + f 11701) (hp8 : 6 * f 11741 ≤ zp0 + 360 * f 11701) (hp9 : z11713 ≤ 16 * f 11701) (hp10 : z11713 ≤ f 11713) (hp11 : f 11713 ≤ z11713 + 16 * f 11701) (hp12 : f 11753 + f 11755 ≤ am_ph f a) (hp13 : f 11718 = z11718) (hp14 : f 11757 = z11757) (hp15 : f 11763 = z11763) (hp16 : zph ≤ am_ph f a) (hp17 : zp0 ≤ am_at (a 124) 0) (hp18 : zph ≥ 0) (hp19 : zp0 ≥ 0) :
    am_TE X (d + 1) am_m143 221 [(0, .ref 117), (2, am_iv x2), (3, am_iv x3)] [] f a w e (am_QV (fun f1 a1 => am_RV g h f1 a1 ∧ am_mn fz az f1 a1 ∧ f1 11718 = z11718 ∧ f1 11757 = z11757 ∧ f1 11763 = z11763 ∧ zph + 1 ≤ am_ph f1 a1 + 1 * (f1 11701) ∧ zp0 + 1 ≤ am_at (a1 124) 0 + 1 * (f1 11701) + 1 * z11713 ∧ z11713 ≤ f1 11713 ∧ f1 11713 ≤ z11713 + 16 * f1 11701)) E := by
  have q1 := am_RV_ph hI
  have q2 := am_RV_p0 hI
  have q3 := am_Rg11701 hI.1.1
  have q4 := am_Rg11741 hI.1.1
  have q5 := am_Rg11713 hI.1.1
  have q6 := am_Rg11753 hI.1.1
  have q7 := am_Rg11755 hI.1.1
  have q8 := am_Rg11718 hI.1.1
  have q9 := am_Rg11757 hI.1.1
  have q10 := am_Rg11763 hI.1.1
  refine am_raload_n rfl rfl rfl ?_
  refine am_rgetf (S1 := [.ref 147]) rfl rfl ?_
  refine am_riload_n rfl rfl rfl ?_
  have q11 : (a 147).length = 64 := am_Rl147 (am_RL 147 rfl hI.1.1)
  have i12 : am_ib (a 147) x2 := by unfold am_ib; omega
  have q13 := am_Rb147 (am_RL 147 rfl hI.1.1) i12
  refine am_riaload (l := a 147) rfl am_ge147 i12 ?_
  refine am_rif_eq rfl rfl (by unfold am_rg; omega) (fun hc14 => ?_) (fun hc14 => ?_)
  · exact am_ct144_234 hd hI hp0 (by omega) (by omega) (by omega) (by omega) (by omega) (by omega) (by omega) (by omega) (by omega) (by omega) (by omega) (by omega) (by omega) (by omega) (by omega) (by omega) (by omega) (by omega) (by omega)
  · refine am_raload_n rfl rfl rfl ?_
    refine am_evirtualV (m := am_m135) (As := [.ref 117]) (S1 := []) rfl rfl rfl rfl rfl rfl rfl rfl rfl rfl (am_TE.void (am_ct136  (by omega) hI) (fun f15 a15 hq16 => ?_) (fun _ _ _ h => h))
    obtain ⟨hI17, hk18, hq16⟩ := hq16
    replace hq16 : f15 11701 = ((f 11701)) ∧ f15 11713 = ((f 11713)) ∧ f15 11709 = ((f 11709)) ∧ f15 11718 = ((f 11718)) ∧ f15 11741 = ((f 11741)) ∧ f15 11750 = ((f 11750)) ∧ f15 11753 = ((f 11753)) ∧ f15 11757 = ((f 11757)) ∧ f15 11763 = ((f 11763)) ∧ f15 11755 ≤ ((f 11755)) ∧ am_ph f15 a15 = (am_ph f a ) ∧ am_at (a15 124) 0 = (am_at (a 124) 0) := hq16
    have mm19 : f 11701 ≤ f15 11701 ∧ am_ph f a ≤ am_ph f15 a15 ∧ am_at (a 124) 0 ≤ am_at (a15 124) 0 ∧ am_at (a15 125) 0 = am_at (a 125) 0 := hk18
    have hm20 := am_mn.trans hp0 hk18
    have q21 := am_Rg11701 hI17.1.1
    have q22 := am_Rg11741 hI17.1.1
    have q23 := am_Rg11713 hI17.1.1
    have q24 := am_Rg11753 hI17.1.1
    have q25 := am_Rg11755 hI17.1.1
    have q26 := am_Rg11718 hI17.1.1
    have q27 := am_Rg11757 hI17.1.1
    have q28 := am_Rg11763 hI17.1.1
    exact am_ct144_234 hd hI17 hm20 (by omega) (by omega) (by omega) (by omega) (by omega) (by omega) (by omega) (by omega) (by omega) (by omega) (by omega) (by omega) (by omega) (by omega) (by omega) (by omega) (by omega) (by omega) (by omega)
set_option maxRecDepth 100000 in
set_option maxHeartbeats 4000000 in
theorem am_ct144_204 {X : List Value} {w : Value} {e : Nat} {g : aF} {h : aA} {E : Nat → aF → aA → Prop} {d : Nat} {z11718 : Int} {z11757 : Int} {z11763 : Int} {z11713 : Int} {zph : Int} {zp0 : Int} {fz : aF} {az : aA} {f : aF} {a : aA} {x2 : Int} {x3 : Int} {x4 : Int} (hd : 6 ≤ d + 1) (hI : am_RV g h f a) (hp0 : am_mn fz az f a) (hp1 : (-2147483648 ≤ x2 ∧ x2 ≤ 2147483647)) (hp2 : (-2147483648 ≤ x3 ∧ x3 ≤ 2147483647)) (hp3 : (-2147483648 ≤ x4 ∧ x4 ≤ 2147483647)) (hp4 : 0 ≤ x2) (hp5 : x2 ≤ 60) (hp6 : (x3 = 0 ∨ x3 = 1)) (hp7 : (x4 = 0 ∨ x4 = 1)) (hp8 : zp0 + 6 ≤ am_at (a 124) 0 + 6 * f 11701 + 6 * z11713 + 2 * x4) (hp9 : zph + 1 ≤ am_ph f a + f 11701) (hp10 : 6 * f 11741 ≤ zp0 + 360 * f 11701) (hp11 : z11713 ≤ 16 * f 11701) (hp12 : f 11713 = z11713) (hp13 : f 11718 = z11718) (hp14 : f 11757 = z11757) (hp15 : f 11763 = z11763) (hp16 : zph ≤ am_ph f a) (hp17 : zp0 ≤ am_at (a 124) 0) (hp18 : zph ≥ 0) (hp19 : zp0 ≥ 0) :
    am_TE X (d + 1) am_m143 204 [(0, .ref 117), (2, am_iv x2), (3, am_iv x3), (4, am_iv x4)] [] f a w e (am_QV (fun f1 a1 => am_RV g h f1 a1 ∧ am_mn fz az f1 a1 ∧ f1 11718 = z11718 ∧ f1 11757 = z11757 ∧ f1 11763 = z11763 ∧ zph + 1 ≤ am_ph f1 a1 + 1 * (f1 11701) ∧ zp0 + 1 ≤ am_at (a1 124) 0 + 1 * (f1 11701) + 1 * z11713 ∧ z11713 ≤ f1 11713 ∧ f1 11713 ≤ z11713 + 16 * f1 11701)) E := by
  have q1 := am_RV_ph hI
  have q2 := am_RV_p0 hI
  have q3 := am_Rg11701 hI.1.1
  have q4 := am_Rg11741 hI.1.1
  have q5 := am_Rg11713 hI.1.1
  have q6 := am_Rg11718 hI.1.1
  have q7 := am_Rg11757 hI.1.1
  have q8 := am_Rg11763 hI.1.1
  have q3 := hI.2.2.2.1
  refine am_riload rfl rfl rfl ?_
  refine am_rif_eq rfl rfl (by unfold am_rg; omega) (fun hc9 => ?_) (fun hc9 => ?_)
  · refine am_raload_n rfl rfl rfl ?_
    refine am_riconst rfl ?_
    refine am_rputf (S1 := []) (h1 := am_enc (am_ud f 11755 0) a w e) rfl (am_pfB rfl am_ge117 rfl (am_sf11755 _)) (by rw [am_enc_len, am_enc_len]) ?_
    have J10 := am_Rf11755 (v := 0) hI (by omega) (by omega)
    have m11 : am_mn fz az (am_ud f 11755 0) a := am_mn_f rfl rfl rfl hp0
    have q12 := am_Rg11753 hI.1.1
    exact am_T.drop (L1 := [(0, .ref 117), (2, am_iv x2), (3, am_iv x3)]) (am_ct144_221 hd J10 m11 (show (-2147483648 ≤ x2 ∧ x2 ≤ 2147483647) by omega) (show (-2147483648 ≤ x3 ∧ x3 ≤ 2147483647) by omega) (show 0 ≤ x2 by omega) (show x2 ≤ 60 by omega) (show (x3 = 0 ∨ x3 = 1) by omega) (show zp0 + 6 ≤ am_at (a 124) 0 + 6 * (f 11701) + 6 * z11713 by omega) (show zph + 1 ≤ am_ph f a  + (f 11701) by omega) (show 6 * (f 11741) ≤ zp0 + 360 * (f 11701) by omega) (show z11713 ≤ 16 * (f 11701) by omega) (show z11713 ≤ (f 11713) by omega) (show (f 11713) ≤ z11713 + 16 * (f 11701) by omega) (show (f 11753) + (0) ≤ am_ph f a  by omega) (show (f 11718) = z11718 by omega) (show (f 11757) = z11757 by omega) (show (f 11763) = z11763 by omega) (show zph ≤ am_ph f a  by omega) (show zp0 ≤ am_at (a 124) 0 by omega) (show zph ≥ 0 by omega) (show zp0 ≥ 0 by omega)) (by simp)
  · refine am_raload_n rfl rfl rfl ?_
    refine am_evirtualV (m := am_m134) (As := [.ref 117]) (S1 := []) rfl rfl rfl rfl rfl rfl rfl rfl rfl rfl (am_TE.void (am_ct135  (by omega) hI) (fun f13 a13 hq14 => ?_) (fun _ _ _ h => h))
    obtain ⟨hI15, hk16, hq14⟩ := hq14
    replace hq14 : f13 11709 = ((f 11709)) ∧ f13 11718 = ((f 11718)) ∧ f13 11741 = ((f 11741)) ∧ f13 11750 = ((f 11750)) ∧ f13 11753 = ((f 11753)) ∧ f13 11757 = ((f 11757)) ∧ f13 11763 = ((f 11763)) ∧ ((f 11713)) ≤ f13 11713 ∧ f13 11713 ≤ ((f 11713)) + 16 * f13 11701 ∧ 0 ≤ f13 11755 ∧ f13 11755 ≤ am_ph f13 a13 - (am_ph f a ) ∧ (am_ph f a ) + 1 ≤ am_ph f13 a13 + f13 11701 ∧ (am_at (a 124) 0) + 2 ≤ am_at (a13 124) 0 + 2 * f13 11701 + 2 * ((f 11713)) := hq14
    have mm17 : f 11701 ≤ f13 11701 ∧ am_ph f a ≤ am_ph f13 a13 ∧ am_at (a 124) 0 ≤ am_at (a13 124) 0 ∧ am_at (a13 125) 0 = am_at (a 125) 0 := hk16
    have hm18 := am_mn.trans hp0 hk16
    refine am_rgoto rfl rfl ?_
    have q19 := am_Rg11701 hI15.1.1
    have q20 := am_Rg11741 hI15.1.1
    have q21 := am_Rg11713 hI15.1.1
    have q22 := am_Rg11753 hI15.1.1
    have q23 := am_Rg11755 hI15.1.1
    have q24 := am_Rg11718 hI15.1.1
    have q25 := am_Rg11757 hI15.1.1
    have q26 := am_Rg11763 hI15.1.1
    exact am_T.drop (L1 := [(0, .ref 117), (2, am_iv x2), (3, am_iv x3)]) (am_ct144_221 hd hI15 hm18 (by omega) (by omega) (by omega) (by omega) (by omega) (by omega) (by omega) (by omega) (by omega) (by omega) (by omega) (by omega) (by omega) (by omega) (by omega) (by omega) (by omega) (by omega) (by omega)) (by simp)
set_option maxRecDepth 100000 in
set_option maxHeartbeats 4000000 in
theorem am_ct144_81 {X : List Value} {w : Value} {e : Nat} {g : aF} {h : aA} {E : Nat → aF → aA → Prop} {d : Nat} {z11718 : Int} {z11757 : Int} {z11763 : Int} {z11713 : Int} {zph : Int} {zp0 : Int} {fz : aF} {az : aA} {f : aF} {a : aA} {x2 : Int} {x3 : Int} {x4 : Int} (hd : 6 ≤ d + 1) (hI : am_RV g h f a) (hp0 : am_mn fz az f a) (hp1 : (-2147483648 ≤ x2 ∧ x2 ≤ 2147483647)) (hp2 : (-2147483648 ≤ x3 ∧ x3 ≤ 2147483647)) (hp3 : (-2147483648 ≤ x4 ∧ x4 ≤ 2147483647)) (hp4 : 0 ≤ x2) (hp5 : x2 ≤ 60) (hp6 : (x3 = 0 ∨ x3 = 1)) (hp7 : (x4 = 0 ∨ x4 = 1)) (hp8 : zp0 + 4 ≤ am_at (a 124) 0 + 6 * f 11701 + 6 * z11713) (hp9 : zph + 1 ≤ am_ph f a + f 11701) (hp10 : 6 * f 11741 ≤ zp0 + 360 * f 11701) (hp11 : z11713 ≤ 16 * f 11701) (hp12 : f 11713 = z11713) (hp13 : f 11718 = z11718) (hp14 : f 11757 = z11757) (hp15 : f 11763 = z11763) (hp16 : zph ≤ am_ph f a) (hp17 : zp0 ≤ am_at (a 124) 0) (hp18 : zph ≥ 0) (hp19 : zp0 ≥ 0) :
    am_TE X (d + 1) am_m143 81 [(0, .ref 117), (2, am_iv x2), (3, am_iv x3), (4, am_iv x4)] [] f a w e (am_QV (fun f1 a1 => am_RV g h f1 a1 ∧ am_mn fz az f1 a1 ∧ f1 11718 = z11718 ∧ f1 11757 = z11757 ∧ f1 11763 = z11763 ∧ zph + 1 ≤ am_ph f1 a1 + 1 * (f1 11701) ∧ zp0 + 1 ≤ am_at (a1 124) 0 + 1 * (f1 11701) + 1 * z11713 ∧ z11713 ≤ f1 11713 ∧ f1 11713 ≤ z11713 + 16 * f1 11701)) E := by
  have q1 := am_RV_ph hI
  have q2 := am_RV_p0 hI
  have q3 := am_Rg11701 hI.1.1
  have q4 := am_Rg11741 hI.1.1
  have q5 := am_Rg11713 hI.1.1
  have q6 := am_Rg11718 hI.1.1
  have q7 := am_Rg11757 hI.1.1
  have q8 := am_Rg11763 hI.1.1
  refine am_raload_n rfl rfl rfl ?_
  refine am_rgetf (S1 := [.ref 148]) rfl rfl ?_
  refine am_riload_n rfl rfl rfl ?_
  refine am_riconst rfl ?_
  have q9 : (a 148).length = 64 := am_Rl148 (am_RL 148 rfl hI.1.1)
  have i10 : am_ib (a 148) x2 := by unfold am_ib; omega
  have hl11 : am_LR 148 ((a 148).set x2.toNat 3) := am_RS148 (am_RL 148 rfl hI.1.1) (by omega) (by omega)
  refine am_riastore (l := a 148) (h1 := am_enc f (am_ud a 148 ((a 148).set x2.toNat 3)) w e) rfl am_ge148 i10 (am_sa148 _) ?_
  refine am_riload rfl rfl rfl ?_
  refine am_rif_ne rfl rfl (by unfold am_rg; omega) (fun hc12 => ?_) (fun hc12 => ?_)
  · have J13 := am_Ra148 hI hl11
    have m14 : am_mn fz az f (am_ud a 148 ((a 148).set x2.toNat 3)) := am_mn_a rfl rfl hp0
    exact am_ct144_204 hd J13 m14 (show (-2147483648 ≤ x2 ∧ x2 ≤ 2147483647) by omega) (show (-2147483648 ≤ x3 ∧ x3 ≤ 2147483647) by omega) (show (-2147483648 ≤ x4 ∧ x4 ≤ 2147483647) by omega) (show 0 ≤ x2 by omega) (show x2 ≤ 60 by omega) (show (x3 = 0 ∨ x3 = 1) by omega) (show (x4 = 0 ∨ x4 = 1) by omega) (show zp0 + 6 ≤ am_at (a 124) 0 + 6 * (f 11701) + 6 * z11713 + 2 * x4 by omega) (show zph + 1 ≤ am_ph f a  + (f 11701) by omega) (show 6 * (f 11741) ≤ zp0 + 360 * (f 11701) by omega) (show z11713 ≤ 16 * (f 11701) by omega) (show (f 11713) = z11713 by omega) (show (f 11718) = z11718 by omega) (show (f 11757) = z11757 by omega) (show (f 11763) = z11763 by omega) (show zph ≤ am_ph f a  by omega) (show zp0 ≤ am_at (a 124) 0 by omega) (show zph ≥ 0 by omega) (show zp0 ≥ 0 by omega)
  · refine am_raload_n rfl rfl rfl ?_
    refine am_rbipush rfl (by decide) ?_
    have J15 := am_Ra148 hI hl11
    refine am_evirtualV (m := am_m123) (As := [.ref 117, am_iv 35]) (S1 := []) rfl rfl rfl rfl rfl rfl rfl rfl rfl rfl (am_TE.void (am_ct124 (y1 := 35) (by omega) J15 (by omega) (show 0 ≤ 35 by omega)) (fun f16 a16 hq17 => ?_) (fun _ _ _ h => h))
    have m20 : am_mn fz az f (am_ud a 148 ((a 148).set x2.toNat 3)) := am_mn_a rfl rfl hp0
    obtain ⟨hI18, hk19, hq17⟩ := hq17
    replace hq17 : f16 11713 = ((f 11713)) ∧ (am_ph f a ) + 1 ≤ am_ph f16 a16 + 1 * (f16 11701) ∧ (am_at (a 124) 0) + 1 ≤ am_at (a16 124) 0 + 1 * (f16 11701) + 1 * ((f 11713)) := hq17
    have mm21 : f 11701 ≤ f16 11701 ∧ am_ph f a ≤ am_ph f16 a16 ∧ am_at (a 124) 0 ≤ am_at (a16 124) 0 ∧ am_at (a16 125) 0 = am_at (a 125) 0 := hk19.1
    have hm22 := am_mn.trans m20 hk19.1
    have t23 : f16 11718 = f 11718 := hk19.2.1 11718 rfl
    have t24 : f16 11757 = f 11757 := hk19.2.1 11757 rfl
    have t25 : f16 11763 = f 11763 := hk19.2.1 11763 rfl
    have t26 : f16 11741 = f 11741 := hk19.2.1 11741 rfl
    have t27 : f16 11750 = f 11750 := hk19.2.1 11750 rfl
    have t28 : f16 11753 = f 11753 := hk19.2.1 11753 rfl
    have t29 : f16 11755 = f 11755 := hk19.2.1 11755 rfl
    refine am_raload_n rfl rfl rfl ?_
    refine am_rgetf (S1 := [.ref 148]) rfl rfl ?_
    refine am_riload_n rfl rfl rfl ?_
    refine am_raload_n rfl rfl rfl ?_
    refine am_evirtualI (m := am_m121) (As := [.ref 117]) (S1 := [am_iv x2, .ref 148]) rfl rfl rfl rfl rfl rfl rfl rfl rfl rfl (am_TE.int (am_ct122  (by omega) hI18) (fun b30 f30 a30 hq31 => ?_) (fun _ _ _ h => h))
    obtain ⟨rfl, rfl, hq31⟩ := hq31
    refine am_rbipush rfl (by decide) ?_
    refine am_ric_ne rfl rfl (by unfold am_rg; omega) (by unfold am_rg; omega) (fun hc32 => ?_) (fun hc32 => ?_)
    · refine am_raload_n rfl rfl rfl ?_
      refine am_evirtualI (m := am_m121) (As := [.ref 117]) (S1 := [am_iv x2, .ref 148]) rfl rfl rfl rfl rfl rfl rfl rfl rfl rfl (am_TE.int (am_ct122  (by omega) hI18) (fun b33 f33 a33 hq34 => ?_) (fun _ _ _ h => h))
      obtain ⟨rfl, rfl, hq34⟩ := hq34
      refine am_rbipush rfl (by decide) ?_
      refine am_ric_ne rfl rfl (by unfold am_rg; omega) (by unfold am_rg; omega) (fun hc35 => ?_) (fun hc35 => ?_)
      · refine am_riconst rfl ?_
        have q36 : (a16 148).length = 64 := am_Rl148 (am_RL 148 rfl hI18.1.1)
        have i37 : am_ib (a16 148) x2 := by unfold am_ib; omega
        have hl38 : am_LR 148 ((a16 148).set x2.toNat 2) := am_RS148 (am_RL 148 rfl hI18.1.1) (by omega) (by omega)
        refine am_riastore (l := a16 148) (h1 := am_enc f16 (am_ud a16 148 ((a16 148).set x2.toNat 2)) w e) rfl am_ge148 i37 (am_sa148 _) ?_
        refine am_raload_n rfl rfl rfl ?_
        refine am_rgetf (S1 := [.ref 148]) rfl rfl ?_
        refine am_riload_n rfl rfl rfl ?_
        have q39 : ((a16 148).set x2.toNat 2).length = 64 := am_Rl148 hl38
        have i40 : am_ib ((a16 148).set x2.toNat 2) x2 := by unfold am_ib; omega
        have q41 := am_Rb148 hl38 i40
        refine am_riaload (l := (a16 148).set x2.toNat 2) rfl am_ge148 i40 ?_
        refine am_rif_ne rfl rfl (by unfold am_rg; omega) (fun hc42 => ?_) (fun hc42 => ?_)
        · refine am_raload_n rfl rfl rfl ?_
          refine am_rgetf (S1 := [.ref 148]) rfl rfl ?_
          refine am_riload_n rfl rfl rfl ?_
          have i43 : am_ib ((a16 148).set x2.toNat 2) x2 := by unfold am_ib; omega
          refine am_riaload (l := (a16 148).set x2.toNat 2) rfl am_ge148 i43 ?_
          refine am_riconst rfl ?_
          refine am_ric_ne rfl rfl (by unfold am_rg; omega) (by unfold am_rg; omega) (fun hc44 => ?_) (fun hc44 => ?_)
          · refine am_raload_n rfl rfl rfl ?_
            refine am_rldc2 rfl rfl ?_
            have J45 := am_Ra148 hI18 hl38
            refine am_evirtualV (m := am_m124) (As := [.ref 117, .long (301878232388)]) (S1 := []) rfl rfl rfl rfl rfl rfl rfl rfl rfl rfl (am_TE.void (am_ct125 (y1 := 301878232388) (by omega) J45 (by decide)) (fun f46 a46 hq47 => ?_) (fun _ _ _ h => h))
            have m50 : am_mn fz az f16 (am_ud a16 148 ((a16 148).set x2.toNat 2)) := am_mn_a rfl rfl hm22
            obtain ⟨hI48, hk49, hq47⟩ := hq47
            replace hq47 : f46 11713 = ((f16 11713)) ∧ (am_ph f16 a16 ) + 1 ≤ am_ph f46 a46 + 1 * (f46 11701) ∧ (am_at (a16 124) 0) + 1 ≤ am_at (a46 124) 0 + 1 * (f46 11701) + 1 * ((f16 11713)) := hq47
            have mm51 : f16 11701 ≤ f46 11701 ∧ am_ph f16 a16 ≤ am_ph f46 a46 ∧ am_at (a16 124) 0 ≤ am_at (a46 124) 0 ∧ am_at (a46 125) 0 = am_at (a16 125) 0 := hk49.1
            have hm52 := am_mn.trans m50 hk49.1
            have t53 : f46 11718 = f16 11718 := hk49.2.1 11718 rfl
            have t54 : f46 11757 = f16 11757 := hk49.2.1 11757 rfl
            have t55 : f46 11763 = f16 11763 := hk49.2.1 11763 rfl
            have t56 : f46 11741 = f16 11741 := hk49.2.1 11741 rfl
            have t57 : f46 11750 = f16 11750 := hk49.2.1 11750 rfl
            have t58 : f46 11753 = f16 11753 := hk49.2.1 11753 rfl
            have t59 : f46 11755 = f16 11755 := hk49.2.1 11755 rfl
            refine am_raload_n rfl rfl rfl ?_
            refine am_rgetf (S1 := [.ref 148]) rfl rfl ?_
            refine am_riload_n rfl rfl rfl ?_
            have q60 : (a46 148).length = 64 := am_Rl148 (am_RL 148 rfl hI48.1.1)
            have i61 : am_ib (a46 148) x2 := by unfold am_ib; omega
            have q62 := am_Rb148 (am_RL 148 rfl hI48.1.1) i61
            refine am_riaload (l := a46 148) rfl am_ge148 i61 ?_
            refine am_riconst rfl ?_
            refine am_ric_ne rfl rfl (by unfold am_rg; omega) (by unfold am_rg; omega) (fun hc63 => ?_) (fun hc63 => ?_)
            · refine am_riconst rfl ?_
              refine am_ristore (L1 := [(0, .ref 117), (2, am_iv x2), (3, am_iv x3), (4, am_iv 0)]) rfl rfl rfl rfl rfl ?_
              refine am_riload rfl rfl rfl ?_
              refine am_rif_eq rfl rfl (by unfold am_rg; omega) (fun hc64 => ?_) (fun hc64 => ?_)
              rotate_left
              · exfalso; omega
              have q65 := am_Rg11701 hI48.1.1
              have q66 := am_Rg11741 hI48.1.1
              have q67 := am_Rg11713 hI48.1.1
              have q68 := am_Rg11718 hI48.1.1
              have q69 := am_Rg11757 hI48.1.1
              have q70 := am_Rg11763 hI48.1.1
              exact am_ct144_204 hd hI48 hm52 (by omega) (by omega) (by omega) (by omega) (by omega) (by omega) (by omega) (by omega) (by omega) (by omega) (by omega) (by omega) (by omega) (by omega) (by omega) (by omega) (by omega) (by omega) (by omega)
            · refine am_riconst rfl ?_
              refine am_rgoto rfl rfl ?_
              refine am_ristore (L1 := [(0, .ref 117), (2, am_iv x2), (3, am_iv x3), (4, am_iv 1)]) rfl rfl rfl rfl rfl ?_
              refine am_riload rfl rfl rfl ?_
              refine am_rif_eq rfl rfl (by unfold am_rg; omega) (fun hc71 => ?_) (fun hc71 => ?_)
              · exfalso; omega
              refine am_raload_n rfl rfl rfl ?_
              refine am_evirtualV (m := am_m126) (As := [.ref 117]) (S1 := []) rfl rfl rfl rfl rfl rfl rfl rfl rfl rfl (am_TE.void (am_ct127  (by omega) hI48) (fun f72 a72 hq73 => ?_) (fun _ _ _ h => h))
              obtain ⟨hI74, hk75, hq73⟩ := hq73
              replace hq73 : f72 11713 = ((f46 11713)) ∧ (am_ph f46 a46 ) + 1 ≤ am_ph f72 a72 + 1 * (f72 11701) ∧ (am_at (a46 124) 0) + 1 ≤ am_at (a72 124) 0 + 1 * (f72 11701) + 1 * ((f46 11713)) := hq73
              have mm76 : f46 11701 ≤ f72 11701 ∧ am_ph f46 a46 ≤ am_ph f72 a72 ∧ am_at (a46 124) 0 ≤ am_at (a72 124) 0 ∧ am_at (a72 125) 0 = am_at (a46 125) 0 := hk75.1
              have hm77 := am_mn.trans hm52 hk75.1
              have t78 : f72 11718 = f46 11718 := hk75.2.1 11718 rfl
              have t79 : f72 11757 = f46 11757 := hk75.2.1 11757 rfl
              have t80 : f72 11763 = f46 11763 := hk75.2.1 11763 rfl
              have t81 : f72 11741 = f46 11741 := hk75.2.1 11741 rfl
              have t82 : f72 11750 = f46 11750 := hk75.2.1 11750 rfl
              have t83 : f72 11753 = f46 11753 := hk75.2.1 11753 rfl
              have t84 : f72 11755 = f46 11755 := hk75.2.1 11755 rfl
              have q85 := am_Rg11701 hI74.1.1
              have q86 := am_Rg11741 hI74.1.1
              have q87 := am_Rg11713 hI74.1.1
              have q88 := am_Rg11718 hI74.1.1
              have q89 := am_Rg11757 hI74.1.1
              have q90 := am_Rg11763 hI74.1.1
              exact am_ct144_204 hd hI74 hm77 (by omega) (by omega) (by omega) (by omega) (by omega) (by omega) (by omega) (by omega) (by omega) (by omega) (by omega) (by omega) (by omega) (by omega) (by omega) (by omega) (by omega) (by omega) (by omega)
          · refine am_raload_n rfl rfl rfl ?_
            refine am_rldc2 rfl rfl ?_
            have J91 := am_Ra148 hI18 hl38
            refine am_evirtualV (m := am_m124) (As := [.ref 117, .long (20632680572470596)]) (S1 := []) rfl rfl rfl rfl rfl rfl rfl rfl rfl rfl (am_TE.void (am_ct125 (y1 := 20632680572470596) (by omega) J91 (by decide)) (fun f92 a92 hq93 => ?_) (fun _ _ _ h => h))
            have m96 : am_mn fz az f16 (am_ud a16 148 ((a16 148).set x2.toNat 2)) := am_mn_a rfl rfl hm22
            obtain ⟨hI94, hk95, hq93⟩ := hq93
            replace hq93 : f92 11713 = ((f16 11713)) ∧ (am_ph f16 a16 ) + 1 ≤ am_ph f92 a92 + 1 * (f92 11701) ∧ (am_at (a16 124) 0) + 1 ≤ am_at (a92 124) 0 + 1 * (f92 11701) + 1 * ((f16 11713)) := hq93
            have mm97 : f16 11701 ≤ f92 11701 ∧ am_ph f16 a16 ≤ am_ph f92 a92 ∧ am_at (a16 124) 0 ≤ am_at (a92 124) 0 ∧ am_at (a92 125) 0 = am_at (a16 125) 0 := hk95.1
            have hm98 := am_mn.trans m96 hk95.1
            have t99 : f92 11718 = f16 11718 := hk95.2.1 11718 rfl
            have t100 : f92 11757 = f16 11757 := hk95.2.1 11757 rfl
            have t101 : f92 11763 = f16 11763 := hk95.2.1 11763 rfl
            have t102 : f92 11741 = f16 11741 := hk95.2.1 11741 rfl
            have t103 : f92 11750 = f16 11750 := hk95.2.1 11750 rfl
            have t104 : f92 11753 = f16 11753 := hk95.2.1 11753 rfl
            have t105 : f92 11755 = f16 11755 := hk95.2.1 11755 rfl
            refine am_rgoto rfl rfl ?_
            refine am_raload_n rfl rfl rfl ?_
            refine am_rgetf (S1 := [.ref 148]) rfl rfl ?_
            refine am_riload_n rfl rfl rfl ?_
            have q106 : (a92 148).length = 64 := am_Rl148 (am_RL 148 rfl hI94.1.1)
            have i107 : am_ib (a92 148) x2 := by unfold am_ib; omega
            have q108 := am_Rb148 (am_RL 148 rfl hI94.1.1) i107
            refine am_riaload (l := a92 148) rfl am_ge148 i107 ?_
            refine am_riconst rfl ?_
            refine am_ric_ne rfl rfl (by unfold am_rg; omega) (by unfold am_rg; omega) (fun hc109 => ?_) (fun hc109 => ?_)
            · refine am_riconst rfl ?_
              refine am_ristore (L1 := [(0, .ref 117), (2, am_iv x2), (3, am_iv x3), (4, am_iv 0)]) rfl rfl rfl rfl rfl ?_
              refine am_riload rfl rfl rfl ?_
              refine am_rif_eq rfl rfl (by unfold am_rg; omega) (fun hc110 => ?_) (fun hc110 => ?_)
              rotate_left
              · exfalso; omega
              have q111 := am_Rg11701 hI94.1.1
              have q112 := am_Rg11741 hI94.1.1
              have q113 := am_Rg11713 hI94.1.1
              have q114 := am_Rg11718 hI94.1.1
              have q115 := am_Rg11757 hI94.1.1
              have q116 := am_Rg11763 hI94.1.1
              exact am_ct144_204 hd hI94 hm98 (by omega) (by omega) (by omega) (by omega) (by omega) (by omega) (by omega) (by omega) (by omega) (by omega) (by omega) (by omega) (by omega) (by omega) (by omega) (by omega) (by omega) (by omega) (by omega)
            · refine am_riconst rfl ?_
              refine am_rgoto rfl rfl ?_
              refine am_ristore (L1 := [(0, .ref 117), (2, am_iv x2), (3, am_iv x3), (4, am_iv 1)]) rfl rfl rfl rfl rfl ?_
              refine am_riload rfl rfl rfl ?_
              refine am_rif_eq rfl rfl (by unfold am_rg; omega) (fun hc117 => ?_) (fun hc117 => ?_)
              · exfalso; omega
              refine am_raload_n rfl rfl rfl ?_
              refine am_evirtualV (m := am_m126) (As := [.ref 117]) (S1 := []) rfl rfl rfl rfl rfl rfl rfl rfl rfl rfl (am_TE.void (am_ct127  (by omega) hI94) (fun f118 a118 hq119 => ?_) (fun _ _ _ h => h))
              obtain ⟨hI120, hk121, hq119⟩ := hq119
              replace hq119 : f118 11713 = ((f92 11713)) ∧ (am_ph f92 a92 ) + 1 ≤ am_ph f118 a118 + 1 * (f118 11701) ∧ (am_at (a92 124) 0) + 1 ≤ am_at (a118 124) 0 + 1 * (f118 11701) + 1 * ((f92 11713)) := hq119
              have mm122 : f92 11701 ≤ f118 11701 ∧ am_ph f92 a92 ≤ am_ph f118 a118 ∧ am_at (a92 124) 0 ≤ am_at (a118 124) 0 ∧ am_at (a118 125) 0 = am_at (a92 125) 0 := hk121.1
              have hm123 := am_mn.trans hm98 hk121.1
              have t124 : f118 11718 = f92 11718 := hk121.2.1 11718 rfl
              have t125 : f118 11757 = f92 11757 := hk121.2.1 11757 rfl
              have t126 : f118 11763 = f92 11763 := hk121.2.1 11763 rfl
              have t127 : f118 11741 = f92 11741 := hk121.2.1 11741 rfl
              have t128 : f118 11750 = f92 11750 := hk121.2.1 11750 rfl
              have t129 : f118 11753 = f92 11753 := hk121.2.1 11753 rfl
              have t130 : f118 11755 = f92 11755 := hk121.2.1 11755 rfl
              have q131 := am_Rg11701 hI120.1.1
              have q132 := am_Rg11741 hI120.1.1
              have q133 := am_Rg11713 hI120.1.1
              have q134 := am_Rg11718 hI120.1.1
              have q135 := am_Rg11757 hI120.1.1
              have q136 := am_Rg11763 hI120.1.1
              exact am_ct144_204 hd hI120 hm123 (by omega) (by omega) (by omega) (by omega) (by omega) (by omega) (by omega) (by omega) (by omega) (by omega) (by omega) (by omega) (by omega) (by omega) (by omega) (by omega) (by omega) (by omega) (by omega)
        · refine am_raload_n rfl rfl rfl ?_
          refine am_rldc2 rfl rfl ?_
          have J137 := am_Ra148 hI18 hl38
          refine am_evirtualV (m := am_m124) (As := [.ref 117, .long (5928233911247324484)]) (S1 := []) rfl rfl rfl rfl rfl rfl rfl rfl rfl rfl (am_TE.void (am_ct125 (y1 := 5928233911247324484) (by omega) J137 (by decide)) (fun f138 a138 hq139 => ?_) (fun _ _ _ h => h))
          have m142 : am_mn fz az f16 (am_ud a16 148 ((a16 148).set x2.toNat 2)) := am_mn_a rfl rfl hm22
          obtain ⟨hI140, hk141, hq139⟩ := hq139
          replace hq139 : f138 11713 = ((f16 11713)) ∧ (am_ph f16 a16 ) + 1 ≤ am_ph f138 a138 + 1 * (f138 11701) ∧ (am_at (a16 124) 0) + 1 ≤ am_at (a138 124) 0 + 1 * (f138 11701) + 1 * ((f16 11713)) := hq139
          have mm143 : f16 11701 ≤ f138 11701 ∧ am_ph f16 a16 ≤ am_ph f138 a138 ∧ am_at (a16 124) 0 ≤ am_at (a138 124) 0 ∧ am_at (a138 125) 0 = am_at (a16 125) 0 := hk141.1
          have hm144 := am_mn.trans m142 hk141.1
          have t145 : f138 11718 = f16 11718 := hk141.2.1 11718 rfl
          have t146 : f138 11757 = f16 11757 := hk141.2.1 11757 rfl
          have t147 : f138 11763 = f16 11763 := hk141.2.1 11763 rfl
          have t148 : f138 11741 = f16 11741 := hk141.2.1 11741 rfl
          have t149 : f138 11750 = f16 11750 := hk141.2.1 11750 rfl
          have t150 : f138 11753 = f16 11753 := hk141.2.1 11753 rfl
          have t151 : f138 11755 = f16 11755 := hk141.2.1 11755 rfl
          refine am_rgoto rfl rfl ?_
          refine am_raload_n rfl rfl rfl ?_
          refine am_rgetf (S1 := [.ref 148]) rfl rfl ?_
          refine am_riload_n rfl rfl rfl ?_
          have q152 : (a138 148).length = 64 := am_Rl148 (am_RL 148 rfl hI140.1.1)
          have i153 : am_ib (a138 148) x2 := by unfold am_ib; omega
          have q154 := am_Rb148 (am_RL 148 rfl hI140.1.1) i153
          refine am_riaload (l := a138 148) rfl am_ge148 i153 ?_
          refine am_riconst rfl ?_
          refine am_ric_ne rfl rfl (by unfold am_rg; omega) (by unfold am_rg; omega) (fun hc155 => ?_) (fun hc155 => ?_)
          · refine am_riconst rfl ?_
            refine am_ristore (L1 := [(0, .ref 117), (2, am_iv x2), (3, am_iv x3), (4, am_iv 0)]) rfl rfl rfl rfl rfl ?_
            refine am_riload rfl rfl rfl ?_
            refine am_rif_eq rfl rfl (by unfold am_rg; omega) (fun hc156 => ?_) (fun hc156 => ?_)
            rotate_left
            · exfalso; omega
            have q157 := am_Rg11701 hI140.1.1
            have q158 := am_Rg11741 hI140.1.1
            have q159 := am_Rg11713 hI140.1.1
            have q160 := am_Rg11718 hI140.1.1
            have q161 := am_Rg11757 hI140.1.1
            have q162 := am_Rg11763 hI140.1.1
            exact am_ct144_204 hd hI140 hm144 (by omega) (by omega) (by omega) (by omega) (by omega) (by omega) (by omega) (by omega) (by omega) (by omega) (by omega) (by omega) (by omega) (by omega) (by omega) (by omega) (by omega) (by omega) (by omega)
          · refine am_riconst rfl ?_
            refine am_rgoto rfl rfl ?_
            refine am_ristore (L1 := [(0, .ref 117), (2, am_iv x2), (3, am_iv x3), (4, am_iv 1)]) rfl rfl rfl rfl rfl ?_
            refine am_riload rfl rfl rfl ?_
            refine am_rif_eq rfl rfl (by unfold am_rg; omega) (fun hc163 => ?_) (fun hc163 => ?_)
            · exfalso; omega
            refine am_raload_n rfl rfl rfl ?_
            refine am_evirtualV (m := am_m126) (As := [.ref 117]) (S1 := []) rfl rfl rfl rfl rfl rfl rfl rfl rfl rfl (am_TE.void (am_ct127  (by omega) hI140) (fun f164 a164 hq165 => ?_) (fun _ _ _ h => h))
            obtain ⟨hI166, hk167, hq165⟩ := hq165
            replace hq165 : f164 11713 = ((f138 11713)) ∧ (am_ph f138 a138 ) + 1 ≤ am_ph f164 a164 + 1 * (f164 11701) ∧ (am_at (a138 124) 0) + 1 ≤ am_at (a164 124) 0 + 1 * (f164 11701) + 1 * ((f138 11713)) := hq165
            have mm168 : f138 11701 ≤ f164 11701 ∧ am_ph f138 a138 ≤ am_ph f164 a164 ∧ am_at (a138 124) 0 ≤ am_at (a164 124) 0 ∧ am_at (a164 125) 0 = am_at (a138 125) 0 := hk167.1
            have hm169 := am_mn.trans hm144 hk167.1
            have t170 : f164 11718 = f138 11718 := hk167.2.1 11718 rfl
            have t171 : f164 11757 = f138 11757 := hk167.2.1 11757 rfl
            have t172 : f164 11763 = f138 11763 := hk167.2.1 11763 rfl
            have t173 : f164 11741 = f138 11741 := hk167.2.1 11741 rfl
            have t174 : f164 11750 = f138 11750 := hk167.2.1 11750 rfl
            have t175 : f164 11753 = f138 11753 := hk167.2.1 11753 rfl
            have t176 : f164 11755 = f138 11755 := hk167.2.1 11755 rfl
            have q177 := am_Rg11701 hI166.1.1
            have q178 := am_Rg11741 hI166.1.1
            have q179 := am_Rg11713 hI166.1.1
            have q180 := am_Rg11718 hI166.1.1
            have q181 := am_Rg11757 hI166.1.1
            have q182 := am_Rg11763 hI166.1.1
            exact am_ct144_204 hd hI166 hm169 (by omega) (by omega) (by omega) (by omega) (by omega) (by omega) (by omega) (by omega) (by omega) (by omega) (by omega) (by omega) (by omega) (by omega) (by omega) (by omega) (by omega) (by omega) (by omega)
      · refine am_riconst rfl ?_
        refine am_rgoto rfl rfl ?_
        have q183 : (a16 148).length = 64 := am_Rl148 (am_RL 148 rfl hI18.1.1)
        have i184 : am_ib (a16 148) x2 := by unfold am_ib; omega
        have hl185 : am_LR 148 ((a16 148).set x2.toNat 1) := am_RS148 (am_RL 148 rfl hI18.1.1) (by omega) (by omega)
        refine am_riastore (l := a16 148) (h1 := am_enc f16 (am_ud a16 148 ((a16 148).set x2.toNat 1)) w e) rfl am_ge148 i184 (am_sa148 _) ?_
        refine am_raload_n rfl rfl rfl ?_
        refine am_rgetf (S1 := [.ref 148]) rfl rfl ?_
        refine am_riload_n rfl rfl rfl ?_
        have q186 : ((a16 148).set x2.toNat 1).length = 64 := am_Rl148 hl185
        have i187 : am_ib ((a16 148).set x2.toNat 1) x2 := by unfold am_ib; omega
        have q188 := am_Rb148 hl185 i187
        refine am_riaload (l := (a16 148).set x2.toNat 1) rfl am_ge148 i187 ?_
        refine am_rif_ne rfl rfl (by unfold am_rg; omega) (fun hc189 => ?_) (fun hc189 => ?_)
        · refine am_raload_n rfl rfl rfl ?_
          refine am_rgetf (S1 := [.ref 148]) rfl rfl ?_
          refine am_riload_n rfl rfl rfl ?_
          have i190 : am_ib ((a16 148).set x2.toNat 1) x2 := by unfold am_ib; omega
          refine am_riaload (l := (a16 148).set x2.toNat 1) rfl am_ge148 i190 ?_
          refine am_riconst rfl ?_
          refine am_ric_ne rfl rfl (by unfold am_rg; omega) (by unfold am_rg; omega) (fun hc191 => ?_) (fun hc191 => ?_)
          · refine am_raload_n rfl rfl rfl ?_
            refine am_rldc2 rfl rfl ?_
            have J192 := am_Ra148 hI18 hl185
            refine am_evirtualV (m := am_m124) (As := [.ref 117, .long (301878232388)]) (S1 := []) rfl rfl rfl rfl rfl rfl rfl rfl rfl rfl (am_TE.void (am_ct125 (y1 := 301878232388) (by omega) J192 (by decide)) (fun f193 a193 hq194 => ?_) (fun _ _ _ h => h))
            have m197 : am_mn fz az f16 (am_ud a16 148 ((a16 148).set x2.toNat 1)) := am_mn_a rfl rfl hm22
            obtain ⟨hI195, hk196, hq194⟩ := hq194
            replace hq194 : f193 11713 = ((f16 11713)) ∧ (am_ph f16 a16 ) + 1 ≤ am_ph f193 a193 + 1 * (f193 11701) ∧ (am_at (a16 124) 0) + 1 ≤ am_at (a193 124) 0 + 1 * (f193 11701) + 1 * ((f16 11713)) := hq194
            have mm198 : f16 11701 ≤ f193 11701 ∧ am_ph f16 a16 ≤ am_ph f193 a193 ∧ am_at (a16 124) 0 ≤ am_at (a193 124) 0 ∧ am_at (a193 125) 0 = am_at (a16 125) 0 := hk196.1
            have hm199 := am_mn.trans m197 hk196.1
            have t200 : f193 11718 = f16 11718 := hk196.2.1 11718 rfl
            have t201 : f193 11757 = f16 11757 := hk196.2.1 11757 rfl
            have t202 : f193 11763 = f16 11763 := hk196.2.1 11763 rfl
            have t203 : f193 11741 = f16 11741 := hk196.2.1 11741 rfl
            have t204 : f193 11750 = f16 11750 := hk196.2.1 11750 rfl
            have t205 : f193 11753 = f16 11753 := hk196.2.1 11753 rfl
            have t206 : f193 11755 = f16 11755 := hk196.2.1 11755 rfl
            refine am_raload_n rfl rfl rfl ?_
            refine am_rgetf (S1 := [.ref 148]) rfl rfl ?_
            refine am_riload_n rfl rfl rfl ?_
            have q207 : (a193 148).length = 64 := am_Rl148 (am_RL 148 rfl hI195.1.1)
            have i208 : am_ib (a193 148) x2 := by unfold am_ib; omega
            have q209 := am_Rb148 (am_RL 148 rfl hI195.1.1) i208
            refine am_riaload (l := a193 148) rfl am_ge148 i208 ?_
            refine am_riconst rfl ?_
            refine am_ric_ne rfl rfl (by unfold am_rg; omega) (by unfold am_rg; omega) (fun hc210 => ?_) (fun hc210 => ?_)
            · refine am_riconst rfl ?_
              refine am_ristore (L1 := [(0, .ref 117), (2, am_iv x2), (3, am_iv x3), (4, am_iv 0)]) rfl rfl rfl rfl rfl ?_
              refine am_riload rfl rfl rfl ?_
              refine am_rif_eq rfl rfl (by unfold am_rg; omega) (fun hc211 => ?_) (fun hc211 => ?_)
              rotate_left
              · exfalso; omega
              have q212 := am_Rg11701 hI195.1.1
              have q213 := am_Rg11741 hI195.1.1
              have q214 := am_Rg11713 hI195.1.1
              have q215 := am_Rg11718 hI195.1.1
              have q216 := am_Rg11757 hI195.1.1
              have q217 := am_Rg11763 hI195.1.1
              exact am_ct144_204 hd hI195 hm199 (by omega) (by omega) (by omega) (by omega) (by omega) (by omega) (by omega) (by omega) (by omega) (by omega) (by omega) (by omega) (by omega) (by omega) (by omega) (by omega) (by omega) (by omega) (by omega)
            · refine am_riconst rfl ?_
              refine am_rgoto rfl rfl ?_
              refine am_ristore (L1 := [(0, .ref 117), (2, am_iv x2), (3, am_iv x3), (4, am_iv 1)]) rfl rfl rfl rfl rfl ?_
              refine am_riload rfl rfl rfl ?_
              refine am_rif_eq rfl rfl (by unfold am_rg; omega) (fun hc218 => ?_) (fun hc218 => ?_)
              · exfalso; omega
              refine am_raload_n rfl rfl rfl ?_
              refine am_evirtualV (m := am_m126) (As := [.ref 117]) (S1 := []) rfl rfl rfl rfl rfl rfl rfl rfl rfl rfl (am_TE.void (am_ct127  (by omega) hI195) (fun f219 a219 hq220 => ?_) (fun _ _ _ h => h))
              obtain ⟨hI221, hk222, hq220⟩ := hq220
              replace hq220 : f219 11713 = ((f193 11713)) ∧ (am_ph f193 a193 ) + 1 ≤ am_ph f219 a219 + 1 * (f219 11701) ∧ (am_at (a193 124) 0) + 1 ≤ am_at (a219 124) 0 + 1 * (f219 11701) + 1 * ((f193 11713)) := hq220
              have mm223 : f193 11701 ≤ f219 11701 ∧ am_ph f193 a193 ≤ am_ph f219 a219 ∧ am_at (a193 124) 0 ≤ am_at (a219 124) 0 ∧ am_at (a219 125) 0 = am_at (a193 125) 0 := hk222.1
              have hm224 := am_mn.trans hm199 hk222.1
              have t225 : f219 11718 = f193 11718 := hk222.2.1 11718 rfl
              have t226 : f219 11757 = f193 11757 := hk222.2.1 11757 rfl
              have t227 : f219 11763 = f193 11763 := hk222.2.1 11763 rfl
              have t228 : f219 11741 = f193 11741 := hk222.2.1 11741 rfl
              have t229 : f219 11750 = f193 11750 := hk222.2.1 11750 rfl
              have t230 : f219 11753 = f193 11753 := hk222.2.1 11753 rfl
              have t231 : f219 11755 = f193 11755 := hk222.2.1 11755 rfl
              have q232 := am_Rg11701 hI221.1.1
              have q233 := am_Rg11741 hI221.1.1
              have q234 := am_Rg11713 hI221.1.1
              have q235 := am_Rg11718 hI221.1.1
              have q236 := am_Rg11757 hI221.1.1
              have q237 := am_Rg11763 hI221.1.1
              exact am_ct144_204 hd hI221 hm224 (by omega) (by omega) (by omega) (by omega) (by omega) (by omega) (by omega) (by omega) (by omega) (by omega) (by omega) (by omega) (by omega) (by omega) (by omega) (by omega) (by omega) (by omega) (by omega)
          · refine am_raload_n rfl rfl rfl ?_
            refine am_rldc2 rfl rfl ?_
            have J238 := am_Ra148 hI18 hl185
            refine am_evirtualV (m := am_m124) (As := [.ref 117, .long (20632680572470596)]) (S1 := []) rfl rfl rfl rfl rfl rfl rfl rfl rfl rfl (am_TE.void (am_ct125 (y1 := 20632680572470596) (by omega) J238 (by decide)) (fun f239 a239 hq240 => ?_) (fun _ _ _ h => h))
            have m243 : am_mn fz az f16 (am_ud a16 148 ((a16 148).set x2.toNat 1)) := am_mn_a rfl rfl hm22
            obtain ⟨hI241, hk242, hq240⟩ := hq240
            replace hq240 : f239 11713 = ((f16 11713)) ∧ (am_ph f16 a16 ) + 1 ≤ am_ph f239 a239 + 1 * (f239 11701) ∧ (am_at (a16 124) 0) + 1 ≤ am_at (a239 124) 0 + 1 * (f239 11701) + 1 * ((f16 11713)) := hq240
            have mm244 : f16 11701 ≤ f239 11701 ∧ am_ph f16 a16 ≤ am_ph f239 a239 ∧ am_at (a16 124) 0 ≤ am_at (a239 124) 0 ∧ am_at (a239 125) 0 = am_at (a16 125) 0 := hk242.1
            have hm245 := am_mn.trans m243 hk242.1
            have t246 : f239 11718 = f16 11718 := hk242.2.1 11718 rfl
            have t247 : f239 11757 = f16 11757 := hk242.2.1 11757 rfl
            have t248 : f239 11763 = f16 11763 := hk242.2.1 11763 rfl
            have t249 : f239 11741 = f16 11741 := hk242.2.1 11741 rfl
            have t250 : f239 11750 = f16 11750 := hk242.2.1 11750 rfl
            have t251 : f239 11753 = f16 11753 := hk242.2.1 11753 rfl
            have t252 : f239 11755 = f16 11755 := hk242.2.1 11755 rfl
            refine am_rgoto rfl rfl ?_
            refine am_raload_n rfl rfl rfl ?_
            refine am_rgetf (S1 := [.ref 148]) rfl rfl ?_
            refine am_riload_n rfl rfl rfl ?_
            have q253 : (a239 148).length = 64 := am_Rl148 (am_RL 148 rfl hI241.1.1)
            have i254 : am_ib (a239 148) x2 := by unfold am_ib; omega
            have q255 := am_Rb148 (am_RL 148 rfl hI241.1.1) i254
            refine am_riaload (l := a239 148) rfl am_ge148 i254 ?_
            refine am_riconst rfl ?_
            refine am_ric_ne rfl rfl (by unfold am_rg; omega) (by unfold am_rg; omega) (fun hc256 => ?_) (fun hc256 => ?_)
            · refine am_riconst rfl ?_
              refine am_ristore (L1 := [(0, .ref 117), (2, am_iv x2), (3, am_iv x3), (4, am_iv 0)]) rfl rfl rfl rfl rfl ?_
              refine am_riload rfl rfl rfl ?_
              refine am_rif_eq rfl rfl (by unfold am_rg; omega) (fun hc257 => ?_) (fun hc257 => ?_)
              rotate_left
              · exfalso; omega
              have q258 := am_Rg11701 hI241.1.1
              have q259 := am_Rg11741 hI241.1.1
              have q260 := am_Rg11713 hI241.1.1
              have q261 := am_Rg11718 hI241.1.1
              have q262 := am_Rg11757 hI241.1.1
              have q263 := am_Rg11763 hI241.1.1
              exact am_ct144_204 hd hI241 hm245 (by omega) (by omega) (by omega) (by omega) (by omega) (by omega) (by omega) (by omega) (by omega) (by omega) (by omega) (by omega) (by omega) (by omega) (by omega) (by omega) (by omega) (by omega) (by omega)
            · refine am_riconst rfl ?_
              refine am_rgoto rfl rfl ?_
              refine am_ristore (L1 := [(0, .ref 117), (2, am_iv x2), (3, am_iv x3), (4, am_iv 1)]) rfl rfl rfl rfl rfl ?_
              refine am_riload rfl rfl rfl ?_
              refine am_rif_eq rfl rfl (by unfold am_rg; omega) (fun hc264 => ?_) (fun hc264 => ?_)
              · exfalso; omega
              refine am_raload_n rfl rfl rfl ?_
              refine am_evirtualV (m := am_m126) (As := [.ref 117]) (S1 := []) rfl rfl rfl rfl rfl rfl rfl rfl rfl rfl (am_TE.void (am_ct127  (by omega) hI241) (fun f265 a265 hq266 => ?_) (fun _ _ _ h => h))
              obtain ⟨hI267, hk268, hq266⟩ := hq266
              replace hq266 : f265 11713 = ((f239 11713)) ∧ (am_ph f239 a239 ) + 1 ≤ am_ph f265 a265 + 1 * (f265 11701) ∧ (am_at (a239 124) 0) + 1 ≤ am_at (a265 124) 0 + 1 * (f265 11701) + 1 * ((f239 11713)) := hq266
              have mm269 : f239 11701 ≤ f265 11701 ∧ am_ph f239 a239 ≤ am_ph f265 a265 ∧ am_at (a239 124) 0 ≤ am_at (a265 124) 0 ∧ am_at (a265 125) 0 = am_at (a239 125) 0 := hk268.1
              have hm270 := am_mn.trans hm245 hk268.1
              have t271 : f265 11718 = f239 11718 := hk268.2.1 11718 rfl
              have t272 : f265 11757 = f239 11757 := hk268.2.1 11757 rfl
              have t273 : f265 11763 = f239 11763 := hk268.2.1 11763 rfl
              have t274 : f265 11741 = f239 11741 := hk268.2.1 11741 rfl
              have t275 : f265 11750 = f239 11750 := hk268.2.1 11750 rfl
              have t276 : f265 11753 = f239 11753 := hk268.2.1 11753 rfl
              have t277 : f265 11755 = f239 11755 := hk268.2.1 11755 rfl
              have q278 := am_Rg11701 hI267.1.1
              have q279 := am_Rg11741 hI267.1.1
              have q280 := am_Rg11713 hI267.1.1
              have q281 := am_Rg11718 hI267.1.1
              have q282 := am_Rg11757 hI267.1.1
              have q283 := am_Rg11763 hI267.1.1
              exact am_ct144_204 hd hI267 hm270 (by omega) (by omega) (by omega) (by omega) (by omega) (by omega) (by omega) (by omega) (by omega) (by omega) (by omega) (by omega) (by omega) (by omega) (by omega) (by omega) (by omega) (by omega) (by omega)
        · refine am_raload_n rfl rfl rfl ?_
          refine am_rldc2 rfl rfl ?_
          have J284 := am_Ra148 hI18 hl185
          refine am_evirtualV (m := am_m124) (As := [.ref 117, .long (5928233911247324484)]) (S1 := []) rfl rfl rfl rfl rfl rfl rfl rfl rfl rfl (am_TE.void (am_ct125 (y1 := 5928233911247324484) (by omega) J284 (by decide)) (fun f285 a285 hq286 => ?_) (fun _ _ _ h => h))
          have m289 : am_mn fz az f16 (am_ud a16 148 ((a16 148).set x2.toNat 1)) := am_mn_a rfl rfl hm22
          obtain ⟨hI287, hk288, hq286⟩ := hq286
          replace hq286 : f285 11713 = ((f16 11713)) ∧ (am_ph f16 a16 ) + 1 ≤ am_ph f285 a285 + 1 * (f285 11701) ∧ (am_at (a16 124) 0) + 1 ≤ am_at (a285 124) 0 + 1 * (f285 11701) + 1 * ((f16 11713)) := hq286
          have mm290 : f16 11701 ≤ f285 11701 ∧ am_ph f16 a16 ≤ am_ph f285 a285 ∧ am_at (a16 124) 0 ≤ am_at (a285 124) 0 ∧ am_at (a285 125) 0 = am_at (a16 125) 0 := hk288.1
          have hm291 := am_mn.trans m289 hk288.1
          have t292 : f285 11718 = f16 11718 := hk288.2.1 11718 rfl
          have t293 : f285 11757 = f16 11757 := hk288.2.1 11757 rfl
          have t294 : f285 11763 = f16 11763 := hk288.2.1 11763 rfl
          have t295 : f285 11741 = f16 11741 := hk288.2.1 11741 rfl
          have t296 : f285 11750 = f16 11750 := hk288.2.1 11750 rfl
          have t297 : f285 11753 = f16 11753 := hk288.2.1 11753 rfl
          have t298 : f285 11755 = f16 11755 := hk288.2.1 11755 rfl
          refine am_rgoto rfl rfl ?_
          refine am_raload_n rfl rfl rfl ?_
          refine am_rgetf (S1 := [.ref 148]) rfl rfl ?_
          refine am_riload_n rfl rfl rfl ?_
          have q299 : (a285 148).length = 64 := am_Rl148 (am_RL 148 rfl hI287.1.1)
          have i300 : am_ib (a285 148) x2 := by unfold am_ib; omega
          have q301 := am_Rb148 (am_RL 148 rfl hI287.1.1) i300
          refine am_riaload (l := a285 148) rfl am_ge148 i300 ?_
          refine am_riconst rfl ?_
          refine am_ric_ne rfl rfl (by unfold am_rg; omega) (by unfold am_rg; omega) (fun hc302 => ?_) (fun hc302 => ?_)
          · refine am_riconst rfl ?_
            refine am_ristore (L1 := [(0, .ref 117), (2, am_iv x2), (3, am_iv x3), (4, am_iv 0)]) rfl rfl rfl rfl rfl ?_
            refine am_riload rfl rfl rfl ?_
            refine am_rif_eq rfl rfl (by unfold am_rg; omega) (fun hc303 => ?_) (fun hc303 => ?_)
            rotate_left
            · exfalso; omega
            have q304 := am_Rg11701 hI287.1.1
            have q305 := am_Rg11741 hI287.1.1
            have q306 := am_Rg11713 hI287.1.1
            have q307 := am_Rg11718 hI287.1.1
            have q308 := am_Rg11757 hI287.1.1
            have q309 := am_Rg11763 hI287.1.1
            exact am_ct144_204 hd hI287 hm291 (by omega) (by omega) (by omega) (by omega) (by omega) (by omega) (by omega) (by omega) (by omega) (by omega) (by omega) (by omega) (by omega) (by omega) (by omega) (by omega) (by omega) (by omega) (by omega)
          · refine am_riconst rfl ?_
            refine am_rgoto rfl rfl ?_
            refine am_ristore (L1 := [(0, .ref 117), (2, am_iv x2), (3, am_iv x3), (4, am_iv 1)]) rfl rfl rfl rfl rfl ?_
            refine am_riload rfl rfl rfl ?_
            refine am_rif_eq rfl rfl (by unfold am_rg; omega) (fun hc310 => ?_) (fun hc310 => ?_)
            · exfalso; omega
            refine am_raload_n rfl rfl rfl ?_
            refine am_evirtualV (m := am_m126) (As := [.ref 117]) (S1 := []) rfl rfl rfl rfl rfl rfl rfl rfl rfl rfl (am_TE.void (am_ct127  (by omega) hI287) (fun f311 a311 hq312 => ?_) (fun _ _ _ h => h))
            obtain ⟨hI313, hk314, hq312⟩ := hq312
            replace hq312 : f311 11713 = ((f285 11713)) ∧ (am_ph f285 a285 ) + 1 ≤ am_ph f311 a311 + 1 * (f311 11701) ∧ (am_at (a285 124) 0) + 1 ≤ am_at (a311 124) 0 + 1 * (f311 11701) + 1 * ((f285 11713)) := hq312
            have mm315 : f285 11701 ≤ f311 11701 ∧ am_ph f285 a285 ≤ am_ph f311 a311 ∧ am_at (a285 124) 0 ≤ am_at (a311 124) 0 ∧ am_at (a311 125) 0 = am_at (a285 125) 0 := hk314.1
            have hm316 := am_mn.trans hm291 hk314.1
            have t317 : f311 11718 = f285 11718 := hk314.2.1 11718 rfl
            have t318 : f311 11757 = f285 11757 := hk314.2.1 11757 rfl
            have t319 : f311 11763 = f285 11763 := hk314.2.1 11763 rfl
            have t320 : f311 11741 = f285 11741 := hk314.2.1 11741 rfl
            have t321 : f311 11750 = f285 11750 := hk314.2.1 11750 rfl
            have t322 : f311 11753 = f285 11753 := hk314.2.1 11753 rfl
            have t323 : f311 11755 = f285 11755 := hk314.2.1 11755 rfl
            have q324 := am_Rg11701 hI313.1.1
            have q325 := am_Rg11741 hI313.1.1
            have q326 := am_Rg11713 hI313.1.1
            have q327 := am_Rg11718 hI313.1.1
            have q328 := am_Rg11757 hI313.1.1
            have q329 := am_Rg11763 hI313.1.1
            exact am_ct144_204 hd hI313 hm316 (by omega) (by omega) (by omega) (by omega) (by omega) (by omega) (by omega) (by omega) (by omega) (by omega) (by omega) (by omega) (by omega) (by omega) (by omega) (by omega) (by omega) (by omega) (by omega)
    · refine am_riconst rfl ?_
      refine am_rgoto rfl rfl ?_
      have q330 : (a16 148).length = 64 := am_Rl148 (am_RL 148 rfl hI18.1.1)
      have i331 : am_ib (a16 148) x2 := by unfold am_ib; omega
      have hl332 : am_LR 148 ((a16 148).set x2.toNat 0) := am_RS148 (am_RL 148 rfl hI18.1.1) (by omega) (by omega)
      refine am_riastore (l := a16 148) (h1 := am_enc f16 (am_ud a16 148 ((a16 148).set x2.toNat 0)) w e) rfl am_ge148 i331 (am_sa148 _) ?_
      refine am_raload_n rfl rfl rfl ?_
      refine am_rgetf (S1 := [.ref 148]) rfl rfl ?_
      refine am_riload_n rfl rfl rfl ?_
      have q333 : ((a16 148).set x2.toNat 0).length = 64 := am_Rl148 hl332
      have i334 : am_ib ((a16 148).set x2.toNat 0) x2 := by unfold am_ib; omega
      have q335 := am_Rb148 hl332 i334
      refine am_riaload (l := (a16 148).set x2.toNat 0) rfl am_ge148 i334 ?_
      refine am_rif_ne rfl rfl (by unfold am_rg; omega) (fun hc336 => ?_) (fun hc336 => ?_)
      · refine am_raload_n rfl rfl rfl ?_
        refine am_rgetf (S1 := [.ref 148]) rfl rfl ?_
        refine am_riload_n rfl rfl rfl ?_
        have i337 : am_ib ((a16 148).set x2.toNat 0) x2 := by unfold am_ib; omega
        refine am_riaload (l := (a16 148).set x2.toNat 0) rfl am_ge148 i337 ?_
        refine am_riconst rfl ?_
        refine am_ric_ne rfl rfl (by unfold am_rg; omega) (by unfold am_rg; omega) (fun hc338 => ?_) (fun hc338 => ?_)
        · refine am_raload_n rfl rfl rfl ?_
          refine am_rldc2 rfl rfl ?_
          have J339 := am_Ra148 hI18 hl332
          refine am_evirtualV (m := am_m124) (As := [.ref 117, .long (301878232388)]) (S1 := []) rfl rfl rfl rfl rfl rfl rfl rfl rfl rfl (am_TE.void (am_ct125 (y1 := 301878232388) (by omega) J339 (by decide)) (fun f340 a340 hq341 => ?_) (fun _ _ _ h => h))
          have m344 : am_mn fz az f16 (am_ud a16 148 ((a16 148).set x2.toNat 0)) := am_mn_a rfl rfl hm22
          obtain ⟨hI342, hk343, hq341⟩ := hq341
          replace hq341 : f340 11713 = ((f16 11713)) ∧ (am_ph f16 a16 ) + 1 ≤ am_ph f340 a340 + 1 * (f340 11701) ∧ (am_at (a16 124) 0) + 1 ≤ am_at (a340 124) 0 + 1 * (f340 11701) + 1 * ((f16 11713)) := hq341
          have mm345 : f16 11701 ≤ f340 11701 ∧ am_ph f16 a16 ≤ am_ph f340 a340 ∧ am_at (a16 124) 0 ≤ am_at (a340 124) 0 ∧ am_at (a340 125) 0 = am_at (a16 125) 0 := hk343.1
          have hm346 := am_mn.trans m344 hk343.1
          have t347 : f340 11718 = f16 11718 := hk343.2.1 11718 rfl
          have t348 : f340 11757 = f16 11757 := hk343.2.1 11757 rfl
          have t349 : f340 11763 = f16 11763 := hk343.2.1 11763 rfl
          have t350 : f340 11741 = f16 11741 := hk343.2.1 11741 rfl
          have t351 : f340 11750 = f16 11750 := hk343.2.1 11750 rfl
          have t352 : f340 11753 = f16 11753 := hk343.2.1 11753 rfl
          have t353 : f340 11755 = f16 11755 := hk343.2.1 11755 rfl
          refine am_raload_n rfl rfl rfl ?_
          refine am_rgetf (S1 := [.ref 148]) rfl rfl ?_
          refine am_riload_n rfl rfl rfl ?_
          have q354 : (a340 148).length = 64 := am_Rl148 (am_RL 148 rfl hI342.1.1)
          have i355 : am_ib (a340 148) x2 := by unfold am_ib; omega
          have q356 := am_Rb148 (am_RL 148 rfl hI342.1.1) i355
          refine am_riaload (l := a340 148) rfl am_ge148 i355 ?_
          refine am_riconst rfl ?_
          refine am_ric_ne rfl rfl (by unfold am_rg; omega) (by unfold am_rg; omega) (fun hc357 => ?_) (fun hc357 => ?_)
          · refine am_riconst rfl ?_
            refine am_ristore (L1 := [(0, .ref 117), (2, am_iv x2), (3, am_iv x3), (4, am_iv 0)]) rfl rfl rfl rfl rfl ?_
            refine am_riload rfl rfl rfl ?_
            refine am_rif_eq rfl rfl (by unfold am_rg; omega) (fun hc358 => ?_) (fun hc358 => ?_)
            rotate_left
            · exfalso; omega
            have q359 := am_Rg11701 hI342.1.1
            have q360 := am_Rg11741 hI342.1.1
            have q361 := am_Rg11713 hI342.1.1
            have q362 := am_Rg11718 hI342.1.1
            have q363 := am_Rg11757 hI342.1.1
            have q364 := am_Rg11763 hI342.1.1
            exact am_ct144_204 hd hI342 hm346 (by omega) (by omega) (by omega) (by omega) (by omega) (by omega) (by omega) (by omega) (by omega) (by omega) (by omega) (by omega) (by omega) (by omega) (by omega) (by omega) (by omega) (by omega) (by omega)
          · refine am_riconst rfl ?_
            refine am_rgoto rfl rfl ?_
            refine am_ristore (L1 := [(0, .ref 117), (2, am_iv x2), (3, am_iv x3), (4, am_iv 1)]) rfl rfl rfl rfl rfl ?_
            refine am_riload rfl rfl rfl ?_
            refine am_rif_eq rfl rfl (by unfold am_rg; omega) (fun hc365 => ?_) (fun hc365 => ?_)
            · exfalso; omega
            refine am_raload_n rfl rfl rfl ?_
            refine am_evirtualV (m := am_m126) (As := [.ref 117]) (S1 := []) rfl rfl rfl rfl rfl rfl rfl rfl rfl rfl (am_TE.void (am_ct127  (by omega) hI342) (fun f366 a366 hq367 => ?_) (fun _ _ _ h => h))
            obtain ⟨hI368, hk369, hq367⟩ := hq367
            replace hq367 : f366 11713 = ((f340 11713)) ∧ (am_ph f340 a340 ) + 1 ≤ am_ph f366 a366 + 1 * (f366 11701) ∧ (am_at (a340 124) 0) + 1 ≤ am_at (a366 124) 0 + 1 * (f366 11701) + 1 * ((f340 11713)) := hq367
            have mm370 : f340 11701 ≤ f366 11701 ∧ am_ph f340 a340 ≤ am_ph f366 a366 ∧ am_at (a340 124) 0 ≤ am_at (a366 124) 0 ∧ am_at (a366 125) 0 = am_at (a340 125) 0 := hk369.1
            have hm371 := am_mn.trans hm346 hk369.1
            have t372 : f366 11718 = f340 11718 := hk369.2.1 11718 rfl
            have t373 : f366 11757 = f340 11757 := hk369.2.1 11757 rfl
            have t374 : f366 11763 = f340 11763 := hk369.2.1 11763 rfl
            have t375 : f366 11741 = f340 11741 := hk369.2.1 11741 rfl
            have t376 : f366 11750 = f340 11750 := hk369.2.1 11750 rfl
            have t377 : f366 11753 = f340 11753 := hk369.2.1 11753 rfl
            have t378 : f366 11755 = f340 11755 := hk369.2.1 11755 rfl
            have q379 := am_Rg11701 hI368.1.1
            have q380 := am_Rg11741 hI368.1.1
            have q381 := am_Rg11713 hI368.1.1
            have q382 := am_Rg11718 hI368.1.1
            have q383 := am_Rg11757 hI368.1.1
            have q384 := am_Rg11763 hI368.1.1
            exact am_ct144_204 hd hI368 hm371 (by omega) (by omega) (by omega) (by omega) (by omega) (by omega) (by omega) (by omega) (by omega) (by omega) (by omega) (by omega) (by omega) (by omega) (by omega) (by omega) (by omega) (by omega) (by omega)
        · refine am_raload_n rfl rfl rfl ?_
          refine am_rldc2 rfl rfl ?_
          have J385 := am_Ra148 hI18 hl332
          refine am_evirtualV (m := am_m124) (As := [.ref 117, .long (20632680572470596)]) (S1 := []) rfl rfl rfl rfl rfl rfl rfl rfl rfl rfl (am_TE.void (am_ct125 (y1 := 20632680572470596) (by omega) J385 (by decide)) (fun f386 a386 hq387 => ?_) (fun _ _ _ h => h))
          have m390 : am_mn fz az f16 (am_ud a16 148 ((a16 148).set x2.toNat 0)) := am_mn_a rfl rfl hm22
          obtain ⟨hI388, hk389, hq387⟩ := hq387
          replace hq387 : f386 11713 = ((f16 11713)) ∧ (am_ph f16 a16 ) + 1 ≤ am_ph f386 a386 + 1 * (f386 11701) ∧ (am_at (a16 124) 0) + 1 ≤ am_at (a386 124) 0 + 1 * (f386 11701) + 1 * ((f16 11713)) := hq387
          have mm391 : f16 11701 ≤ f386 11701 ∧ am_ph f16 a16 ≤ am_ph f386 a386 ∧ am_at (a16 124) 0 ≤ am_at (a386 124) 0 ∧ am_at (a386 125) 0 = am_at (a16 125) 0 := hk389.1
          have hm392 := am_mn.trans m390 hk389.1
          have t393 : f386 11718 = f16 11718 := hk389.2.1 11718 rfl
          have t394 : f386 11757 = f16 11757 := hk389.2.1 11757 rfl
          have t395 : f386 11763 = f16 11763 := hk389.2.1 11763 rfl
          have t396 : f386 11741 = f16 11741 := hk389.2.1 11741 rfl
          have t397 : f386 11750 = f16 11750 := hk389.2.1 11750 rfl
          have t398 : f386 11753 = f16 11753 := hk389.2.1 11753 rfl
          have t399 : f386 11755 = f16 11755 := hk389.2.1 11755 rfl
          refine am_rgoto rfl rfl ?_
          refine am_raload_n rfl rfl rfl ?_
          refine am_rgetf (S1 := [.ref 148]) rfl rfl ?_
          refine am_riload_n rfl rfl rfl ?_
          have q400 : (a386 148).length = 64 := am_Rl148 (am_RL 148 rfl hI388.1.1)
          have i401 : am_ib (a386 148) x2 := by unfold am_ib; omega
          have q402 := am_Rb148 (am_RL 148 rfl hI388.1.1) i401
          refine am_riaload (l := a386 148) rfl am_ge148 i401 ?_
          refine am_riconst rfl ?_
          refine am_ric_ne rfl rfl (by unfold am_rg; omega) (by unfold am_rg; omega) (fun hc403 => ?_) (fun hc403 => ?_)
          · refine am_riconst rfl ?_
            refine am_ristore (L1 := [(0, .ref 117), (2, am_iv x2), (3, am_iv x3), (4, am_iv 0)]) rfl rfl rfl rfl rfl ?_
            refine am_riload rfl rfl rfl ?_
            refine am_rif_eq rfl rfl (by unfold am_rg; omega) (fun hc404 => ?_) (fun hc404 => ?_)
            rotate_left
            · exfalso; omega
            have q405 := am_Rg11701 hI388.1.1
            have q406 := am_Rg11741 hI388.1.1
            have q407 := am_Rg11713 hI388.1.1
            have q408 := am_Rg11718 hI388.1.1
            have q409 := am_Rg11757 hI388.1.1
            have q410 := am_Rg11763 hI388.1.1
            exact am_ct144_204 hd hI388 hm392 (by omega) (by omega) (by omega) (by omega) (by omega) (by omega) (by omega) (by omega) (by omega) (by omega) (by omega) (by omega) (by omega) (by omega) (by omega) (by omega) (by omega) (by omega) (by omega)
          · refine am_riconst rfl ?_
            refine am_rgoto rfl rfl ?_
            refine am_ristore (L1 := [(0, .ref 117), (2, am_iv x2), (3, am_iv x3), (4, am_iv 1)]) rfl rfl rfl rfl rfl ?_
            refine am_riload rfl rfl rfl ?_
            refine am_rif_eq rfl rfl (by unfold am_rg; omega) (fun hc411 => ?_) (fun hc411 => ?_)
            · exfalso; omega
            refine am_raload_n rfl rfl rfl ?_
            refine am_evirtualV (m := am_m126) (As := [.ref 117]) (S1 := []) rfl rfl rfl rfl rfl rfl rfl rfl rfl rfl (am_TE.void (am_ct127  (by omega) hI388) (fun f412 a412 hq413 => ?_) (fun _ _ _ h => h))
            obtain ⟨hI414, hk415, hq413⟩ := hq413
            replace hq413 : f412 11713 = ((f386 11713)) ∧ (am_ph f386 a386 ) + 1 ≤ am_ph f412 a412 + 1 * (f412 11701) ∧ (am_at (a386 124) 0) + 1 ≤ am_at (a412 124) 0 + 1 * (f412 11701) + 1 * ((f386 11713)) := hq413
            have mm416 : f386 11701 ≤ f412 11701 ∧ am_ph f386 a386 ≤ am_ph f412 a412 ∧ am_at (a386 124) 0 ≤ am_at (a412 124) 0 ∧ am_at (a412 125) 0 = am_at (a386 125) 0 := hk415.1
            have hm417 := am_mn.trans hm392 hk415.1
            have t418 : f412 11718 = f386 11718 := hk415.2.1 11718 rfl
            have t419 : f412 11757 = f386 11757 := hk415.2.1 11757 rfl
            have t420 : f412 11763 = f386 11763 := hk415.2.1 11763 rfl
            have t421 : f412 11741 = f386 11741 := hk415.2.1 11741 rfl
            have t422 : f412 11750 = f386 11750 := hk415.2.1 11750 rfl
            have t423 : f412 11753 = f386 11753 := hk415.2.1 11753 rfl
            have t424 : f412 11755 = f386 11755 := hk415.2.1 11755 rfl
            have q425 := am_Rg11701 hI414.1.1
            have q426 := am_Rg11741 hI414.1.1
            have q427 := am_Rg11713 hI414.1.1
            have q428 := am_Rg11718 hI414.1.1
            have q429 := am_Rg11757 hI414.1.1
            have q430 := am_Rg11763 hI414.1.1
            exact am_ct144_204 hd hI414 hm417 (by omega) (by omega) (by omega) (by omega) (by omega) (by omega) (by omega) (by omega) (by omega) (by omega) (by omega) (by omega) (by omega) (by omega) (by omega) (by omega) (by omega) (by omega) (by omega)
      · refine am_raload_n rfl rfl rfl ?_
        refine am_rldc2 rfl rfl ?_
        have J431 := am_Ra148 hI18 hl332
        refine am_evirtualV (m := am_m124) (As := [.ref 117, .long (5928233911247324484)]) (S1 := []) rfl rfl rfl rfl rfl rfl rfl rfl rfl rfl (am_TE.void (am_ct125 (y1 := 5928233911247324484) (by omega) J431 (by decide)) (fun f432 a432 hq433 => ?_) (fun _ _ _ h => h))
        have m436 : am_mn fz az f16 (am_ud a16 148 ((a16 148).set x2.toNat 0)) := am_mn_a rfl rfl hm22
        obtain ⟨hI434, hk435, hq433⟩ := hq433
        replace hq433 : f432 11713 = ((f16 11713)) ∧ (am_ph f16 a16 ) + 1 ≤ am_ph f432 a432 + 1 * (f432 11701) ∧ (am_at (a16 124) 0) + 1 ≤ am_at (a432 124) 0 + 1 * (f432 11701) + 1 * ((f16 11713)) := hq433
        have mm437 : f16 11701 ≤ f432 11701 ∧ am_ph f16 a16 ≤ am_ph f432 a432 ∧ am_at (a16 124) 0 ≤ am_at (a432 124) 0 ∧ am_at (a432 125) 0 = am_at (a16 125) 0 := hk435.1
        have hm438 := am_mn.trans m436 hk435.1
        have t439 : f432 11718 = f16 11718 := hk435.2.1 11718 rfl
        have t440 : f432 11757 = f16 11757 := hk435.2.1 11757 rfl
        have t441 : f432 11763 = f16 11763 := hk435.2.1 11763 rfl
        have t442 : f432 11741 = f16 11741 := hk435.2.1 11741 rfl
        have t443 : f432 11750 = f16 11750 := hk435.2.1 11750 rfl
        have t444 : f432 11753 = f16 11753 := hk435.2.1 11753 rfl
        have t445 : f432 11755 = f16 11755 := hk435.2.1 11755 rfl
        refine am_rgoto rfl rfl ?_
        refine am_raload_n rfl rfl rfl ?_
        refine am_rgetf (S1 := [.ref 148]) rfl rfl ?_
        refine am_riload_n rfl rfl rfl ?_
        have q446 : (a432 148).length = 64 := am_Rl148 (am_RL 148 rfl hI434.1.1)
        have i447 : am_ib (a432 148) x2 := by unfold am_ib; omega
        have q448 := am_Rb148 (am_RL 148 rfl hI434.1.1) i447
        refine am_riaload (l := a432 148) rfl am_ge148 i447 ?_
        refine am_riconst rfl ?_
        refine am_ric_ne rfl rfl (by unfold am_rg; omega) (by unfold am_rg; omega) (fun hc449 => ?_) (fun hc449 => ?_)
        · refine am_riconst rfl ?_
          refine am_ristore (L1 := [(0, .ref 117), (2, am_iv x2), (3, am_iv x3), (4, am_iv 0)]) rfl rfl rfl rfl rfl ?_
          refine am_riload rfl rfl rfl ?_
          refine am_rif_eq rfl rfl (by unfold am_rg; omega) (fun hc450 => ?_) (fun hc450 => ?_)
          rotate_left
          · exfalso; omega
          have q451 := am_Rg11701 hI434.1.1
          have q452 := am_Rg11741 hI434.1.1
          have q453 := am_Rg11713 hI434.1.1
          have q454 := am_Rg11718 hI434.1.1
          have q455 := am_Rg11757 hI434.1.1
          have q456 := am_Rg11763 hI434.1.1
          exact am_ct144_204 hd hI434 hm438 (by omega) (by omega) (by omega) (by omega) (by omega) (by omega) (by omega) (by omega) (by omega) (by omega) (by omega) (by omega) (by omega) (by omega) (by omega) (by omega) (by omega) (by omega) (by omega)
        · refine am_riconst rfl ?_
          refine am_rgoto rfl rfl ?_
          refine am_ristore (L1 := [(0, .ref 117), (2, am_iv x2), (3, am_iv x3), (4, am_iv 1)]) rfl rfl rfl rfl rfl ?_
          refine am_riload rfl rfl rfl ?_
          refine am_rif_eq rfl rfl (by unfold am_rg; omega) (fun hc457 => ?_) (fun hc457 => ?_)
          · exfalso; omega
          refine am_raload_n rfl rfl rfl ?_
          refine am_evirtualV (m := am_m126) (As := [.ref 117]) (S1 := []) rfl rfl rfl rfl rfl rfl rfl rfl rfl rfl (am_TE.void (am_ct127  (by omega) hI434) (fun f458 a458 hq459 => ?_) (fun _ _ _ h => h))
          obtain ⟨hI460, hk461, hq459⟩ := hq459
          replace hq459 : f458 11713 = ((f432 11713)) ∧ (am_ph f432 a432 ) + 1 ≤ am_ph f458 a458 + 1 * (f458 11701) ∧ (am_at (a432 124) 0) + 1 ≤ am_at (a458 124) 0 + 1 * (f458 11701) + 1 * ((f432 11713)) := hq459
          have mm462 : f432 11701 ≤ f458 11701 ∧ am_ph f432 a432 ≤ am_ph f458 a458 ∧ am_at (a432 124) 0 ≤ am_at (a458 124) 0 ∧ am_at (a458 125) 0 = am_at (a432 125) 0 := hk461.1
          have hm463 := am_mn.trans hm438 hk461.1
          have t464 : f458 11718 = f432 11718 := hk461.2.1 11718 rfl
          have t465 : f458 11757 = f432 11757 := hk461.2.1 11757 rfl
          have t466 : f458 11763 = f432 11763 := hk461.2.1 11763 rfl
          have t467 : f458 11741 = f432 11741 := hk461.2.1 11741 rfl
          have t468 : f458 11750 = f432 11750 := hk461.2.1 11750 rfl
          have t469 : f458 11753 = f432 11753 := hk461.2.1 11753 rfl
          have t470 : f458 11755 = f432 11755 := hk461.2.1 11755 rfl
          have q471 := am_Rg11701 hI460.1.1
          have q472 := am_Rg11741 hI460.1.1
          have q473 := am_Rg11713 hI460.1.1
          have q474 := am_Rg11718 hI460.1.1
          have q475 := am_Rg11757 hI460.1.1
          have q476 := am_Rg11763 hI460.1.1
          exact am_ct144_204 hd hI460 hm463 (by omega) (by omega) (by omega) (by omega) (by omega) (by omega) (by omega) (by omega) (by omega) (by omega) (by omega) (by omega) (by omega) (by omega) (by omega) (by omega) (by omega) (by omega) (by omega)
set_option maxRecDepth 100000 in
set_option maxHeartbeats 4000000 in
theorem am_ct144_42 {X : List Value} {w : Value} {e : Nat} {g : aF} {h : aA} {E : Nat → aF → aA → Prop} {d : Nat} {z11718 : Int} {z11757 : Int} {z11763 : Int} {z11713 : Int} {zph : Int} {zp0 : Int} {fz : aF} {az : aA} {f : aF} {a : aA} {x2 : Int} {x3 : Int} (hd : 6 ≤ d + 1) (hI : am_RV g h f a) (hp0 : am_mn fz az f a) (hp1 : (-2147483648 ≤ x2 ∧ x2 ≤ 2147483647)) (hp2 : (-2147483648 ≤ x3 ∧ x3 ≤ 2147483647)) (hp3 : 0 ≤ x2) (hp4 : x2 ≤ 60) (hp5 : (x3 = 0 ∨ x3 = 1)) (hp6 : zp0 + 1 ≤ am_at (a 124) 0 + 6 * f 11701 + 6 * z11713) (hp7 : zph + 1 ≤ am_ph f a + f 11701) (hp8 : 6 * f 11741 ≤ zp0 + 360 * f 11701) (hp9 : z11713 ≤ 16 * f 11701) (hp10 : f 11713 = z11713) (hp11 : f 11750 ≤ 181) (hp12 : f 11718 = z11718) (hp13 : f 11757 = z11757) (hp14 : f 11763 = z11763) (hp15 : zph ≤ am_ph f a) (hp16 : zp0 ≤ am_at (a 124) 0) (hp17 : zph ≥ 0) (hp18 : zp0 ≥ 0) :
    am_TE X (d + 1) am_m143 42 [(0, .ref 117), (2, am_iv x2), (3, am_iv x3)] [] f a w e (am_QV (fun f1 a1 => am_RV g h f1 a1 ∧ am_mn fz az f1 a1 ∧ f1 11718 = z11718 ∧ f1 11757 = z11757 ∧ f1 11763 = z11763 ∧ zph + 1 ≤ am_ph f1 a1 + 1 * (f1 11701) ∧ zp0 + 1 ≤ am_at (a1 124) 0 + 1 * (f1 11701) + 1 * z11713 ∧ z11713 ≤ f1 11713 ∧ f1 11713 ≤ z11713 + 16 * f1 11701)) E := by
  have q1 := am_RV_ph hI
  have q2 := am_RV_p0 hI
  have q3 := am_Rg11701 hI.1.1
  have q4 := am_Rg11741 hI.1.1
  have q5 := am_Rg11713 hI.1.1
  have q6 := am_Rg11750 hI.1.1
  have q7 := am_Rg11718 hI.1.1
  have q8 := am_Rg11757 hI.1.1
  have q9 := am_Rg11763 hI.1.1
  refine am_raload_n rfl rfl rfl ?_
  refine am_rgetf (S1 := [.ref 151]) rfl rfl ?_
  refine am_riload_n rfl rfl rfl ?_
  refine am_raload_n rfl rfl rfl ?_
  refine am_rgetf (S1 := [am_iv (f 11750), am_iv x2, .ref 151]) rfl rfl ?_
  have q10 : (a 151).length = 64 := am_Rl151 (am_RL 151 rfl hI.1.1)
  have i11 : am_ib (a 151) x2 := by unfold am_ib; omega
  have hl12 : am_LR 151 ((a 151).set x2.toNat (f 11750)) := am_RS151 (am_RL 151 rfl hI.1.1) (by omega) (by omega)
  refine am_riastore (l := a 151) (h1 := am_enc f (am_ud a 151 ((a 151).set x2.toNat (f 11750))) w e) rfl am_ge151 i11 (am_sa151 _) ?_
  refine am_raload_n rfl rfl rfl ?_
  have J13 := am_Ra151 hI hl12
  refine am_evirtualV (m := am_m126) (As := [.ref 117]) (S1 := []) rfl rfl rfl rfl rfl rfl rfl rfl rfl rfl (am_TE.void (am_ct127  (by omega) J13) (fun f14 a14 hq15 => ?_) (fun _ _ _ h => h))
  have m18 : am_mn fz az f (am_ud a 151 ((a 151).set x2.toNat (f 11750))) := am_mn_a rfl rfl hp0
  obtain ⟨hI16, hk17, hq15⟩ := hq15
  replace hq15 : f14 11713 = ((f 11713)) ∧ (am_ph f a ) + 1 ≤ am_ph f14 a14 + 1 * (f14 11701) ∧ (am_at (a 124) 0) + 1 ≤ am_at (a14 124) 0 + 1 * (f14 11701) + 1 * ((f 11713)) := hq15
  have mm19 : f 11701 ≤ f14 11701 ∧ am_ph f a ≤ am_ph f14 a14 ∧ am_at (a 124) 0 ≤ am_at (a14 124) 0 ∧ am_at (a14 125) 0 = am_at (a 125) 0 := hk17.1
  have hm20 := am_mn.trans m18 hk17.1
  have t21 : f14 11718 = f 11718 := hk17.2.1 11718 rfl
  have t22 : f14 11757 = f 11757 := hk17.2.1 11757 rfl
  have t23 : f14 11763 = f 11763 := hk17.2.1 11763 rfl
  have t24 : f14 11741 = f 11741 := hk17.2.1 11741 rfl
  have t25 : f14 11750 = f 11750 := hk17.2.1 11750 rfl
  have t26 : f14 11753 = f 11753 := hk17.2.1 11753 rfl
  have t27 : f14 11755 = f 11755 := hk17.2.1 11755 rfl
  refine am_raload_n rfl rfl rfl ?_
  refine am_riload_n rfl rfl rfl ?_
  have q28 := am_Rg11701 hI16.1.1
  have q29 := am_Rg11713 hI16.1.1
  have q30 := am_Rg11750 hI16.1.1
  refine am_evirtualV (m := am_m140) (As := [.ref 117, am_iv x2]) (S1 := []) rfl rfl rfl rfl rfl rfl rfl rfl rfl rfl (am_TE.void (am_ct141 (y1 := x2) (by omega) hI16 (by omega) (show 0 ≤ x2 by omega) (show x2 < 64 by omega) (show (f14 11713) ≤ 16 * (f14 11701) by omega) (show (f14 11750) ≤ 181 by omega)) (fun f31 a31 hq32 => ?_) (fun _ _ _ h => h))
  obtain ⟨hI33, hk34, hq32⟩ := hq32
  replace hq32 : f31 11713 = ((f14 11713)) ∧ f31 11718 = ((f14 11718)) ∧ f31 11757 = ((f14 11757)) ∧ f31 11763 = ((f14 11763)) ∧ f31 11741 = ((f14 11741)) ∧ f31 11755 = ((f14 11755)) ∧ f31 11709 = ((f14 11709)) ∧ (am_ph f14 a14 ) + 1 ≤ am_ph f31 a31 + 1 * (f31 11701) ∧ (am_at (a14 124) 0) + 1 ≤ am_at (a31 124) 0 + 1 * (f31 11701) + 1 * ((f14 11713)) := hq32
  have mm35 : f14 11701 ≤ f31 11701 ∧ am_ph f14 a14 ≤ am_ph f31 a31 ∧ am_at (a14 124) 0 ≤ am_at (a31 124) 0 ∧ am_at (a31 125) 0 = am_at (a14 125) 0 := hk34
  have hm36 := am_mn.trans hm20 hk34
  refine am_raload_n rfl rfl rfl ?_
  refine am_evirtualV (m := am_m126) (As := [.ref 117]) (S1 := []) rfl rfl rfl rfl rfl rfl rfl rfl rfl rfl (am_TE.void (am_ct127  (by omega) hI33) (fun f37 a37 hq38 => ?_) (fun _ _ _ h => h))
  obtain ⟨hI39, hk40, hq38⟩ := hq38
  replace hq38 : f37 11713 = ((f31 11713)) ∧ (am_ph f31 a31 ) + 1 ≤ am_ph f37 a37 + 1 * (f37 11701) ∧ (am_at (a31 124) 0) + 1 ≤ am_at (a37 124) 0 + 1 * (f37 11701) + 1 * ((f31 11713)) := hq38
  have mm41 : f31 11701 ≤ f37 11701 ∧ am_ph f31 a31 ≤ am_ph f37 a37 ∧ am_at (a31 124) 0 ≤ am_at (a37 124) 0 ∧ am_at (a37 125) 0 = am_at (a31 125) 0 := hk40.1
  have hm42 := am_mn.trans hm36 hk40.1
  have t43 : f37 11718 = f31 11718 := hk40.2.1 11718 rfl
  have t44 : f37 11757 = f31 11757 := hk40.2.1 11757 rfl
  have t45 : f37 11763 = f31 11763 := hk40.2.1 11763 rfl
  have t46 : f37 11741 = f31 11741 := hk40.2.1 11741 rfl
  have t47 : f37 11750 = f31 11750 := hk40.2.1 11750 rfl
  have t48 : f37 11753 = f31 11753 := hk40.2.1 11753 rfl
  have t49 : f37 11755 = f31 11755 := hk40.2.1 11755 rfl
  refine am_raload_n rfl rfl rfl ?_
  refine am_evirtualI (m := am_m121) (As := [.ref 117]) (S1 := []) rfl rfl rfl rfl rfl rfl rfl rfl rfl rfl (am_TE.int (am_ct122  (by omega) hI39) (fun b50 f50 a50 hq51 => ?_) (fun _ _ _ h => h))
  obtain ⟨rfl, rfl, hq51⟩ := hq51
  refine am_rbipush rfl (by decide) ?_
  refine am_ric_ne rfl rfl (by unfold am_rg; omega) (by unfold am_rg; omega) (fun hc52 => ?_) (fun hc52 => ?_)
  · refine am_riconst rfl ?_
    refine am_ristore (L1 := [(0, .ref 117), (2, am_iv x2), (3, am_iv x3), (4, am_iv 0)]) rfl rfl rfl rfl rfl ?_
    have q53 := am_Rg11701 hI39.1.1
    have q54 := am_Rg11741 hI39.1.1
    have q55 := am_Rg11713 hI39.1.1
    have q56 := am_Rg11718 hI39.1.1
    have q57 := am_Rg11757 hI39.1.1
    have q58 := am_Rg11763 hI39.1.1
    exact am_ct144_81 hd hI39 hm42 (by omega) (by omega) (by omega) (by omega) (by omega) (by omega) (by omega) (by omega) (by omega) (by omega) (by omega) (by omega) (by omega) (by omega) (by omega) (by omega) (by omega) (by omega) (by omega)
  · refine am_riconst rfl ?_
    refine am_rgoto rfl rfl ?_
    refine am_ristore (L1 := [(0, .ref 117), (2, am_iv x2), (3, am_iv x3), (4, am_iv 1)]) rfl rfl rfl rfl rfl ?_
    have q59 := am_Rg11701 hI39.1.1
    have q60 := am_Rg11741 hI39.1.1
    have q61 := am_Rg11713 hI39.1.1
    have q62 := am_Rg11718 hI39.1.1
    have q63 := am_Rg11757 hI39.1.1
    have q64 := am_Rg11763 hI39.1.1
    exact am_ct144_81 hd hI39 hm42 (by omega) (by omega) (by omega) (by omega) (by omega) (by omega) (by omega) (by omega) (by omega) (by omega) (by omega) (by omega) (by omega) (by omega) (by omega) (by omega) (by omega) (by omega) (by omega)
set_option maxRecDepth 100000 in
set_option maxHeartbeats 4000000 in
theorem am_ct144 {X : List Value} {w : Value} {e : Nat} {g : aF} {h : aA} {E : Nat → aF → aA → Prop} {d : Nat} {y1 : Int} {f : aF} {a : aA} (hd : 6 ≤ d) (hI : am_RV g h f a) (hp0 : (-2147483648 ≤ y1 ∧ y1 ≤ 2147483647)) (hp1 : f 11713 ≤ 16 * f 11701) (hp2 : f 11750 ≤ 181) :
    am_TE X d am_m143 0 (lv_args 0 [.ref 117, am_iv y1]) [] f a w e (am_QV (fun f1 a1 => am_RV g h f1 a1 ∧ am_mn f a f1 a1 ∧ f1 11718 = (f 11718) ∧ f1 11757 = (f 11757) ∧ f1 11763 = (f 11763) ∧ (am_ph f a) + 1 ≤ am_ph f1 a1 + 1 * (f1 11701) ∧ (am_at (a 124) 0) + 1 ≤ am_at (a1 124) 0 + 1 * (f1 11701) + 1 * (f 11713) ∧ (f 11713) ≤ f1 11713 ∧ f1 11713 ≤ (f 11713) + 16 * f1 11701)) E := by
  obtain ⟨d, rfl⟩ : ∃ d0, d = d0 + 1 := ⟨d - 1, by omega⟩
  have q1 := am_RV_ph hI
  have q2 := am_RV_p0 hI
  have q3 := am_Rg11701 hI.1.1
  have q4 := am_Rg11713 hI.1.1
  have q5 := am_Rg11750 hI.1.1
  have q10 := hI.2.2.2.2.2.2.2.1
  refine am_raload_n rfl rfl rfl ?_
  have q6 := am_Rg11741 hI.1.1
  refine am_rgetf (S1 := [am_iv (f 11741)]) rfl rfl ?_
  refine am_ristore_n (L1 := [(0, .ref 117), (1, am_iv y1), (2, am_iv (f 11741))]) rfl rfl rfl rfl rfl ?_
  refine am_raload_n rfl rfl rfl ?_
  refine am_rgetf (S1 := [.ref 145]) rfl rfl ?_
  refine am_riload_n rfl rfl rfl ?_
  refine am_riload_n rfl rfl rfl ?_
  have q7 : (a 145).length = 64 := am_Rl145 (am_RL 145 rfl hI.1.1)
  have i8 : am_ib (a 145) (f 11741) := by unfold am_ib; omega
  have hl9 : am_LR 145 ((a 145).set (f 11741).toNat y1) := am_RS145 (am_RL 145 rfl hI.1.1) (by omega) (by omega)
  refine am_riastore (l := a 145) (h1 := am_enc f (am_ud a 145 ((a 145).set (f 11741).toNat y1)) w e) rfl am_ge145 i8 (am_sa145 _) ?_
  refine am_raload_n rfl rfl rfl ?_
  refine am_rgetf (S1 := [.ref 146]) rfl rfl ?_
  refine am_riload_n rfl rfl rfl ?_
  refine am_raload_n rfl rfl rfl ?_
  have J10 := am_Ra145 hI hl9
  refine am_evirtualI (m := am_m127) (As := [.ref 117]) (S1 := [am_iv (f 11741), .ref 146]) rfl rfl rfl rfl rfl rfl rfl rfl rfl rfl (am_TE.int (am_ct128  (by omega) J10) (fun b11 f11 a11 hq12 => ?_) (fun _ _ _ h => h))
  have m15 : am_mn f a f (am_ud a 145 ((a 145).set (f 11741).toNat y1)) := am_mn_a rfl rfl (am_mn.refl f a)
  obtain ⟨hI13, hk14, hq12⟩ := hq12
  replace hq12 : (-2147483648 ≤ b11 ∧ b11 ≤ 2147483647) ∧ f11 11713 = ((f 11713)) ∧ (am_ph f a ) + 1 ≤ am_ph f11 a11 + 1 * (f11 11701) ∧ (am_at (a 124) 0) + 1 ≤ am_at (a11 124) 0 + 1 * (f11 11701) + 1 * ((f 11713)) ∧ (0 ≤ b11 ∧ b11 ≤ 25) := hq12
  have mm16 : f 11701 ≤ f11 11701 ∧ am_ph f a ≤ am_ph f11 a11 ∧ am_at (a 124) 0 ≤ am_at (a11 124) 0 ∧ am_at (a11 125) 0 = am_at (a 125) 0 := hk14.1
  have hm17 := am_mn.trans m15 hk14.1
  have t18 : f11 11718 = f 11718 := hk14.2.1 11718 rfl
  have t19 : f11 11757 = f 11757 := hk14.2.1 11757 rfl
  have t20 : f11 11763 = f 11763 := hk14.2.1 11763 rfl
  have t21 : f11 11741 = f 11741 := hk14.2.1 11741 rfl
  have t22 : f11 11750 = f 11750 := hk14.2.1 11750 rfl
  have t23 : f11 11753 = f 11753 := hk14.2.1 11753 rfl
  have t24 : f11 11755 = f 11755 := hk14.2.1 11755 rfl
  have q25 : (a11 146).length = 64 := am_Rl146 (am_RL 146 rfl hI13.1.1)
  have i26 : am_ib (a11 146) (f 11741) := by unfold am_ib; omega
  have hl27 : am_LR 146 ((a11 146).set (f 11741).toNat b11) := am_RS146 (am_RL 146 rfl hI13.1.1) (by omega) (by omega)
  refine am_riastore (l := a11 146) (h1 := am_enc f11 (am_ud a11 146 ((a11 146).set (f 11741).toNat b11)) w e) rfl am_ge146 i26 (am_sa146 _) ?_
  refine am_raload_n rfl rfl rfl ?_
  refine am_riload_n rfl rfl rfl ?_
  refine am_raload_n rfl rfl rfl ?_
  refine am_rgetf (S1 := [.ref 146, am_iv y1, .ref 117]) rfl rfl ?_
  refine am_riload_n rfl rfl rfl ?_
  have q28 : ((a11 146).set (f 11741).toNat b11).length = 64 := am_Rl146 hl27
  have i29 : am_ib ((a11 146).set (f 11741).toNat b11) (f 11741) := by unfold am_ib; omega
  have q30 := am_Rb146 hl27 i29
  refine am_riaload (l := (a11 146).set (f 11741).toNat b11) rfl am_ge146 i29 ?_
  have J31 := am_Ra146 hI13 hl27
  refine am_evirtualI (m := am_m144) (As := [.ref 117, am_iv y1, am_iv (am_at ((a11 146).set (f 11741).toNat b11) (f 11741))]) (S1 := []) rfl rfl rfl rfl rfl rfl rfl rfl rfl rfl (am_TE.int (am_ct145 (y1 := y1) (y2 := (am_at ((a11 146).set (f 11741).toNat b11) (f 11741))) (by omega) J31 (by omega) (by omega)) (fun b32 f32 a32 hq33 => ?_) (fun _ _ _ h => h))
  obtain ⟨rfl, rfl, hq33⟩ := hq33
  replace hq33 : (-2147483648 ≤ b32 ∧ b32 ≤ 2147483647) ∧ (-1 ≤ b32 ∧ b32 < (f11 11741)) := hq33
  refine am_rif_lt rfl rfl (by unfold am_rg; omega) (fun hc34 => ?_) (fun hc34 => ?_)
  · refine am_riconst rfl ?_
    refine am_ristore_n (L1 := [(0, .ref 117), (1, am_iv y1), (2, am_iv (f 11741)), (3, am_iv 0)]) rfl rfl rfl rfl rfl ?_
    have q35 := am_Rg11701 hI13.1.1
    have m36 : am_mn f a f11 (am_ud a11 146 ((a11 146).set (f 11741).toNat b11)) := am_mn_a rfl rfl hm17
    have q37 := am_Rg11741 hI13.1.1
    have q38 := am_Rg11713 hI13.1.1
    have q39 := am_Rg11750 hI13.1.1
    have q40 := am_Rg11718 hI13.1.1
    have q41 := am_Rg11757 hI13.1.1
    have q42 := am_Rg11763 hI13.1.1
    exact am_T.drop (L1 := [(0, .ref 117), (2, am_iv (f 11741)), (3, am_iv 0)]) (am_ct144_42 hd J31 m36 (show (-2147483648 ≤ (f 11741) ∧ (f 11741) ≤ 2147483647) by omega) (show (-2147483648 ≤ 0 ∧ 0 ≤ 2147483647) by omega) (show 0 ≤ (f 11741) by omega) (show (f 11741) ≤ 60 by omega) (show (0 = 0 ∨ 0 = 1) by omega) (show (am_at (a 124) 0) + 1 ≤ am_at (a11 124) 0 + 6 * (f11 11701) + 6 * (f 11713) by omega) (show (am_ph f a) + 1 ≤ am_ph f11 a11  + (f11 11701) by omega) (show 6 * (f11 11741) ≤ (am_at (a 124) 0) + 360 * (f11 11701) by omega) (show (f 11713) ≤ 16 * (f11 11701) by omega) (show (f11 11713) = (f 11713) by omega) (show (f11 11750) ≤ 181 by omega) (show (f11 11718) = (f 11718) by omega) (show (f11 11757) = (f 11757) by omega) (show (f11 11763) = (f 11763) by omega) (show (am_ph f a) ≤ am_ph f11 a11  by omega) (show (am_at (a 124) 0) ≤ am_at (a11 124) 0 by omega) (show (am_ph f a) ≥ 0 by omega) (show (am_at (a 124) 0) ≥ 0 by omega)) (by simp)
  · refine am_riconst rfl ?_
    refine am_rgoto rfl rfl ?_
    refine am_ristore_n (L1 := [(0, .ref 117), (1, am_iv y1), (2, am_iv (f 11741)), (3, am_iv 1)]) rfl rfl rfl rfl rfl ?_
    have q43 := am_Rg11701 hI13.1.1
    have m44 : am_mn f a f11 (am_ud a11 146 ((a11 146).set (f 11741).toNat b11)) := am_mn_a rfl rfl hm17
    have q45 := am_Rg11741 hI13.1.1
    have q46 := am_Rg11713 hI13.1.1
    have q47 := am_Rg11750 hI13.1.1
    have q48 := am_Rg11718 hI13.1.1
    have q49 := am_Rg11757 hI13.1.1
    have q50 := am_Rg11763 hI13.1.1
    exact am_T.drop (L1 := [(0, .ref 117), (2, am_iv (f 11741)), (3, am_iv 1)]) (am_ct144_42 hd J31 m44 (show (-2147483648 ≤ (f 11741) ∧ (f 11741) ≤ 2147483647) by omega) (show (-2147483648 ≤ 1 ∧ 1 ≤ 2147483647) by omega) (show 0 ≤ (f 11741) by omega) (show (f 11741) ≤ 60 by omega) (show (1 = 0 ∨ 1 = 1) by omega) (show (am_at (a 124) 0) + 1 ≤ am_at (a11 124) 0 + 6 * (f11 11701) + 6 * (f 11713) by omega) (show (am_ph f a) + 1 ≤ am_ph f11 a11  + (f11 11701) by omega) (show 6 * (f11 11741) ≤ (am_at (a 124) 0) + 360 * (f11 11701) by omega) (show (f 11713) ≤ 16 * (f11 11701) by omega) (show (f11 11713) = (f 11713) by omega) (show (f11 11750) ≤ 181 by omega) (show (f11 11718) = (f 11718) by omega) (show (f11 11757) = (f 11757) by omega) (show (f11 11763) = (f 11763) by omega) (show (am_ph f a) ≤ am_ph f11 a11  by omega) (show (am_at (a 124) 0) ≤ am_at (a11 124) 0 by omega) (show (am_ph f a) ≥ 0 by omega) (show (am_at (a 124) 0) ≥ 0 by omega)) (by simp)
set_option maxRecDepth 100000 in
set_option maxHeartbeats 4000000 in
theorem am_ct143_7 {X : List Value} {w : Value} {e : Nat} {g : aF} {h : aA} {E : Nat → aF → aA → Prop} {d : Nat} {z11718 : Int} {z11757 : Int} {z11763 : Int} {z11713 : Int} {fz : aF} {az : aA} (hd : 7 ≤ d + 1) (n : Nat) :
    ∀ {f : aF} {a : aA} {x1 : Int} {x2 : Int}, (2 * (8 * (3500 - am_ph f a) + 3 - f 11701) + x2).toNat < n → am_RV g h f a → am_mn fz az f a → (-2147483648 ≤ x1 ∧ x1 ≤ 2147483647) → (-2147483648 ≤ x2 ∧ x2 ≤ 2147483647) → 0 ≤ x1 → x1 ≤ 25 → (x2 = 0 ∨ x2 = 1) → z11713 ≤ 16 * f 11701 → z11713 ≤ f 11713 → f 11713 ≤ z11713 + 16 * f 11701 → f 11718 = z11718 → f 11757 = z11757 → f 11763 = z11763 → am_TE X (d + 1) am_m142 7 [(0, .ref 117), (1, am_iv x1), (2, am_iv x2)] [] f a w e (am_QV (fun f1 a1 => am_RV g h f1 a1 ∧ am_mn fz az f1 a1 ∧ f1 11718 = z11718 ∧ f1 11757 = z11757 ∧ f1 11763 = z11763 ∧ z11713 ≤ f1 11713 ∧ f1 11713 ≤ z11713 + 16 * f1 11701)) E := by
  induction n with
  | zero => intros; omega
  | succ n ih =>
    intro f a x1 x2 hn hI hp0 hp1 hp2 hp3 hp4 hp5 hp6 hp7 hp8 hp9 hp10 hp11
    have q1 := am_RV_ph hI
    have q2 := am_RV_p0 hI
    have q3 := am_Rg11701 hI.1.1
    have q4 := am_Rg11713 hI.1.1
    have q5 := am_Rg11718 hI.1.1
    have q6 := am_Rg11757 hI.1.1
    have q7 := am_Rg11763 hI.1.1
    have q13 := hI.2.2.2.2.2.2.2.2.1
    have q20 := hI.2.2.1 0 (by omega) (by omega)
    have q12 := hI.2.2.2.2.2.2.2.2.2.2
    refine am_riload_n rfl rfl rfl ?_
    refine am_rif_eq rfl rfl (by unfold am_rg; omega) (fun hc8 => ?_) (fun hc8 => ?_)
    · exact am_eret rfl rfl ⟨hI, hp0, (show f 11718 = z11718 by omega), (show f 11757 = z11757 by omega), (show f 11763 = z11763 by omega), (show z11713 ≤ f 11713 by omega), (show f 11713 ≤ z11713 + 16 * f 11701 by omega)⟩
    · refine am_raload_n rfl rfl rfl ?_
      refine am_rgetf (S1 := [am_iv (f 11701)]) rfl rfl ?_
      refine am_rif_ne rfl rfl (by unfold am_rg; omega) (fun hc9 => ?_) (fun hc9 => ?_)
      · exact am_eret rfl rfl ⟨hI, hp0, (show f 11718 = z11718 by omega), (show f 11757 = z11757 by omega), (show f 11763 = z11763 by omega), (show z11713 ≤ f 11713 by omega), (show f 11713 ≤ z11713 + 16 * f 11701 by omega)⟩
      · refine am_raload_n rfl rfl rfl ?_
        refine am_evirtualI (m := am_m125) (As := [.ref 117]) (S1 := []) rfl rfl rfl rfl rfl rfl rfl rfl rfl rfl (am_TE.int (am_ct126  (by omega) hI) (fun b10 f10 a10 hq11 => ?_) (fun _ _ _ h => h))
        obtain ⟨hI12, hk13, hq11⟩ := hq11
        replace hq11 : (b10 = 0 ∨ b10 = 1) ∧ f10 11701 = ((f 11701)) ∧ f10 11713 = ((f 11713)) ∧ f10 11701 ≤ 3 - 3 * b10 ∧ (am_ph f a ) + b10 ≤ am_ph f10 a10 ∧ (am_at (a 124) 0) + b10 ≤ am_at (a10 124) 0 + ((f 11713)) := hq11
        have mm14 : f 11701 ≤ f10 11701 ∧ am_ph f a ≤ am_ph f10 a10 ∧ am_at (a 124) 0 ≤ am_at (a10 124) 0 ∧ am_at (a10 125) 0 = am_at (a 125) 0 := hk13.1
        have hm15 := am_mn.trans hp0 hk13.1
        have t16 : f10 11718 = f 11718 := hk13.2.1 11718 rfl
        have t17 : f10 11757 = f 11757 := hk13.2.1 11757 rfl
        have t18 : f10 11763 = f 11763 := hk13.2.1 11763 rfl
        have t19 : f10 11750 = f 11750 := hk13.2.1 11750 rfl
        refine am_ristore_n (L1 := [(0, .ref 117), (1, am_iv x1), (2, am_iv x2), (3, am_iv b10)]) rfl rfl rfl rfl rfl ?_
        refine am_raload_n rfl rfl rfl ?_
        refine am_evirtualI (m := am_m121) (As := [.ref 117]) (S1 := []) rfl rfl rfl rfl rfl rfl rfl rfl rfl rfl (am_TE.int (am_ct122  (by omega) hI12) (fun b20 f20 a20 hq21 => ?_) (fun _ _ _ h => h))
        obtain ⟨rfl, rfl, hq21⟩ := hq21
        refine am_rbipush rfl (by decide) ?_
        refine am_ric_eq rfl rfl (by unfold am_rg; omega) (by unfold am_rg; omega) (fun hc22 => ?_) (fun hc22 => ?_)
        · refine am_riconst rfl ?_
          refine am_ristore_n (L1 := [(0, .ref 117), (1, am_iv x1), (2, am_iv 0), (3, am_iv b10)]) rfl rfl rfl rfl rfl ?_
          refine am_riload_n rfl rfl rfl ?_
          refine am_rif_eq rfl rfl (by unfold am_rg; omega) (fun hc23 => ?_) (fun hc23 => ?_)
          rotate_left
          · exfalso; omega
          refine am_rgoto rfl rfl ?_
          have q24 := am_Rg11701 hI12.1.1
          have q25 := am_Rg11713 hI12.1.1
          have q26 := am_Rg11718 hI12.1.1
          have q27 := am_Rg11757 hI12.1.1
          have q28 := am_Rg11763 hI12.1.1
          exact am_T.drop (L1 := [(0, .ref 117), (1, am_iv x1), (2, am_iv 0)]) (ih (by omega) hI12 hm15 (by omega) (by omega) (by omega) (by omega) (by omega) (by omega) (by omega) (by omega) (by omega) (by omega) (by omega)) (by simp)
        · refine am_riconst rfl ?_
          refine am_rgoto rfl rfl ?_
          refine am_ristore_n (L1 := [(0, .ref 117), (1, am_iv x1), (2, am_iv 1), (3, am_iv b10)]) rfl rfl rfl rfl rfl ?_
          refine am_riload_n rfl rfl rfl ?_
          refine am_rif_eq rfl rfl (by unfold am_rg; omega) (fun hc29 => ?_) (fun hc29 => ?_)
          · exfalso; omega
          refine am_riload_n rfl rfl rfl ?_
          refine am_rif_ne rfl rfl (by unfold am_rg; omega) (fun hc30 => ?_) (fun hc30 => ?_)
          · refine am_raload_n rfl rfl rfl ?_
            refine am_riload_n rfl rfl rfl ?_
            have q31 := am_Rg11701 hI12.1.1
            have q32 := am_Rg11713 hI12.1.1
            have q33 := am_Rg11750 hI12.1.1
            refine am_evirtualV (m := am_m143) (As := [.ref 117, am_iv x1]) (S1 := []) rfl rfl rfl rfl rfl rfl rfl rfl rfl rfl (am_TE.void (am_ct144 (y1 := x1) (by omega) hI12 (by omega) (show (f10 11713) ≤ 16 * (f10 11701) by omega) (show (f10 11750) ≤ 181 by omega)) (fun f34 a34 hq35 => ?_) (fun _ _ _ h => h))
            obtain ⟨hI36, hk37, hq35⟩ := hq35
            replace hq35 : f34 11718 = ((f10 11718)) ∧ f34 11757 = ((f10 11757)) ∧ f34 11763 = ((f10 11763)) ∧ (am_ph f10 a10 ) + 1 ≤ am_ph f34 a34 + 1 * (f34 11701) ∧ (am_at (a10 124) 0) + 1 ≤ am_at (a34 124) 0 + 1 * (f34 11701) + 1 * ((f10 11713)) ∧ ((f10 11713)) ≤ f34 11713 ∧ f34 11713 ≤ ((f10 11713)) + 16 * f34 11701 := hq35
            have mm38 : f10 11701 ≤ f34 11701 ∧ am_ph f10 a10 ≤ am_ph f34 a34 ∧ am_at (a10 124) 0 ≤ am_at (a34 124) 0 ∧ am_at (a34 125) 0 = am_at (a10 125) 0 := hk37
            have hm39 := am_mn.trans hm15 hk37
            refine am_rgoto rfl rfl ?_
            have q40 := am_Rg11701 hI36.1.1
            have q41 := am_Rg11713 hI36.1.1
            have q42 := am_Rg11718 hI36.1.1
            have q43 := am_Rg11757 hI36.1.1
            have q44 := am_Rg11763 hI36.1.1
            exact am_T.drop (L1 := [(0, .ref 117), (1, am_iv x1), (2, am_iv 1)]) (ih (by omega) hI36 hm39 (by omega) (by omega) (by omega) (by omega) (by omega) (by omega) (by omega) (by omega) (by omega) (by omega) (by omega)) (by simp)
          · refine am_raload_n rfl rfl rfl ?_
            refine am_riconst rfl ?_
            have q45 := am_Rg11701 hI12.1.1
            refine am_evirtualV (m := am_m116) (As := [.ref 117, am_iv 1]) (S1 := []) rfl rfl rfl rfl rfl rfl rfl rfl rfl rfl (am_TE.void (am_ct117 (y1 := 1) (by omega) (by omega) (show 1 ≤ 1 by omega) (show 1 ≤ 3 by omega) (show 0 ≤ (f10 11701) by omega) (show (f10 11701) ≤ 3 by omega)) (fun f46 a46 hq47 => ?_) (fun _ _ _ h => h))
            obtain ⟨v48, rfl, rfl, hq47⟩ := hq47
            replace hq47 : 0 < v48 ∧ v48 ≤ 3 ∧ f10 11701 ≤ v48 := hq47
            refine am_raload_n rfl rfl rfl ?_
            refine am_riload_n rfl rfl rfl ?_
            have J49 := am_Rf11701 (v := v48) hI12 (by omega) (by omega)
            have q50 := am_Rg11713 hI12.1.1
            have q51 := am_Rg11750 hI12.1.1
            refine am_evirtualV (m := am_m143) (As := [.ref 117, am_iv x1]) (S1 := []) rfl rfl rfl rfl rfl rfl rfl rfl rfl rfl (am_TE.void (am_ct144 (y1 := x1) (by omega) J49 (by omega) (show (f10 11713) ≤ 16 * (v48) by omega) (show (f10 11750) ≤ 181 by omega)) (fun f52 a52 hq53 => ?_) (fun _ _ _ h => h))
            have m56 : am_mn fz az (am_ud f10 11701 v48) a10 := am_mn.halt hm15 (by omega)
            obtain ⟨hI54, hk55, hq53⟩ := hq53
            replace hq53 : f52 11718 = ((f10 11718)) ∧ f52 11757 = ((f10 11757)) ∧ f52 11763 = ((f10 11763)) ∧ (am_ph f10 a10 ) + 1 ≤ am_ph f52 a52 + 1 * (f52 11701) ∧ (am_at (a10 124) 0) + 1 ≤ am_at (a52 124) 0 + 1 * (f52 11701) + 1 * ((f10 11713)) ∧ ((f10 11713)) ≤ f52 11713 ∧ f52 11713 ≤ ((f10 11713)) + 16 * f52 11701 := hq53
            have mm57 : v48 ≤ f52 11701 ∧ am_ph f10 a10 ≤ am_ph f52 a52 ∧ am_at (a10 124) 0 ≤ am_at (a52 124) 0 ∧ am_at (a52 125) 0 = am_at (a10 125) 0 := hk55
            have hm58 := am_mn.trans m56 hk55
            refine am_rgoto rfl rfl ?_
            have q59 := am_Rg11701 hI54.1.1
            have q60 := am_Rg11713 hI54.1.1
            have q61 := am_Rg11718 hI54.1.1
            have q62 := am_Rg11757 hI54.1.1
            have q63 := am_Rg11763 hI54.1.1
            exact am_T.drop (L1 := [(0, .ref 117), (1, am_iv x1), (2, am_iv 1)]) (ih (by omega) hI54 hm58 (by omega) (by omega) (by omega) (by omega) (by omega) (by omega) (by omega) (by omega) (by omega) (by omega) (by omega)) (by simp)
set_option maxRecDepth 100000 in
set_option maxHeartbeats 4000000 in
theorem am_ct143 {X : List Value} {w : Value} {e : Nat} {g : aF} {h : aA} {E : Nat → aF → aA → Prop} {d : Nat} {f : aF} {a : aA} (hd : 7 ≤ d) (hI : am_RV g h f a) (hp0 : f 11713 ≤ 16 * f 11701) :
    am_TE X d am_m142 0 (lv_args 0 [.ref 117]) [] f a w e (am_QV (fun f1 a1 => am_RV g h f1 a1 ∧ am_mn f a f1 a1 ∧ f1 11718 = (f 11718) ∧ f1 11757 = (f 11757) ∧ f1 11763 = (f 11763) ∧ (f 11713) ≤ f1 11713 ∧ f1 11713 ≤ (f 11713) + 16 * f1 11701)) E := by
  obtain ⟨d, rfl⟩ : ∃ d0, d = d0 + 1 := ⟨d - 1, by omega⟩
  have q1 := am_RV_ph hI
  have q2 := am_RV_p0 hI
  have q3 := am_Rg11701 hI.1.1
  have q4 := am_Rg11713 hI.1.1
  refine am_raload_n rfl rfl rfl ?_
  refine am_evirtualI (m := am_m127) (As := [.ref 117]) (S1 := []) rfl rfl rfl rfl rfl rfl rfl rfl rfl rfl (am_TE.int (am_ct128  (by omega) hI) (fun b5 f5 a5 hq6 => ?_) (fun _ _ _ h => h))
  obtain ⟨hI7, hk8, hq6⟩ := hq6
  replace hq6 : (-2147483648 ≤ b5 ∧ b5 ≤ 2147483647) ∧ f5 11713 = ((f 11713)) ∧ (am_ph f a ) + 1 ≤ am_ph f5 a5 + 1 * (f5 11701) ∧ (am_at (a 124) 0) + 1 ≤ am_at (a5 124) 0 + 1 * (f5 11701) + 1 * ((f 11713)) ∧ (0 ≤ b5 ∧ b5 ≤ 25) := hq6
  have mm9 : f 11701 ≤ f5 11701 ∧ am_ph f a ≤ am_ph f5 a5 ∧ am_at (a 124) 0 ≤ am_at (a5 124) 0 ∧ am_at (a5 125) 0 = am_at (a 125) 0 := hk8.1
  have hm10 := am_mn.trans (am_mn.refl f a) hk8.1
  have t11 : f5 11718 = f 11718 := hk8.2.1 11718 rfl
  have t12 : f5 11757 = f 11757 := hk8.2.1 11757 rfl
  have t13 : f5 11763 = f 11763 := hk8.2.1 11763 rfl
  have t14 : f5 11750 = f 11750 := hk8.2.1 11750 rfl
  refine am_ristore_n (L1 := [(0, .ref 117), (1, am_iv b5)]) rfl rfl rfl rfl rfl ?_
  refine am_riconst rfl ?_
  refine am_ristore_n (L1 := [(0, .ref 117), (1, am_iv b5), (2, am_iv 1)]) rfl rfl rfl rfl rfl ?_
  have q15 := am_Rg11701 hI7.1.1
  have q16 := am_Rg11713 hI7.1.1
  have q17 := am_Rg11718 hI7.1.1
  have q18 := am_Rg11757 hI7.1.1
  have q19 := am_Rg11763 hI7.1.1
  exact am_ct143_7 hd (_ + 1) (Nat.lt_succ_self _) hI7 hm10 (by omega) (by omega) (by omega) (by omega) (by omega) (by omega) (by omega) (by omega) (by omega) (by omega) (by omega)
set_option maxRecDepth 100000 in
set_option maxHeartbeats 4000000 in
theorem am_ct140_38 {X : List Value} {w : Value} {e : Nat} {g : aF} {h : aA} {E : Nat → aF → aA → Prop} {d : Nat} {z11713 : Int} {z11718 : Int} {z11757 : Int} {z11763 : Int} {z11741 : Int} {z11750 : Int} {z11753 : Int} {fz : aF} {az : aA} (hd : 5 ≤ d + 1) (n : Nat) :
    ∀ {f : aF} {a : aA} {x1 : Int} {x2 : Int}, (8 * (3500 - am_ph f a) + 3 - f 11701).toNat < n → am_RV g h f a → am_mn fz az f a → (-2147483648 ≤ x1 ∧ x1 ≤ 2147483647) → (-2147483648 ≤ x2 ∧ x2 ≤ 2147483647) → 0 ≤ x1 → x1 ≤ 25 → 0 ≤ x2 → x2 ≤ f 11709 → am_at (a 125) 0 ≤ x2 → z11713 ≤ 16 * f 11701 → am_q11 x2 (a 121) (a 122) → f 11713 = z11713 → f 11718 = z11718 → f 11757 = z11757 → f 11763 = z11763 → f 11741 = z11741 → f 11750 = z11750 → f 11753 = z11753 → am_TE X (d + 1) am_m139 38 [(0, .ref 117), (1, am_iv x1), (2, am_iv x2)] [] f a w e (am_QV (fun f1 a1 => am_RV g h f1 a1 ∧ am_mn fz az f1 a1 ∧ f1 11713 = z11713 ∧ f1 11718 = z11718 ∧ f1 11757 = z11757 ∧ f1 11763 = z11763 ∧ f1 11741 = z11741 ∧ f1 11750 = z11750 ∧ f1 11753 = z11753)) E := by
  induction n with
  | zero => intros; omega
  | succ n ih =>
    intro f a x1 x2 hn hI hp0 hp1 hp2 hp3 hp4 hp5 hp6 hp7 hp8 hp9 hp10 hp11 hp12 hp13 hp14 hp15 hp16
    have q1 := am_RV_ph hI
    have q2 := am_RV_p0 hI
    have q3 := am_Rg11709 hI.1.1
    have q4 := am_Rg11701 hI.1.1
    have q5 := am_Rg11713 hI.1.1
    have q6 := am_Rg11718 hI.1.1
    have q7 := am_Rg11757 hI.1.1
    have q8 := am_Rg11763 hI.1.1
    have q9 := am_Rg11741 hI.1.1
    have q10 := am_Rg11750 hI.1.1
    have q11 := am_Rg11753 hI.1.1
    have q9 := hI.2.2.2.2.2.2.1
    have q20 := hI.2.2.1 0 (by omega) (by omega)
    have q12 := hI.2.2.2.2.2.2.2.2.2.2
    have qq := hp9
    refine am_raload_n rfl rfl rfl ?_
    refine am_evirtualI (m := am_m121) (As := [.ref 117]) (S1 := []) rfl rfl rfl rfl rfl rfl rfl rfl rfl rfl (am_TE.int (am_ct122  (by omega) hI) (fun b12 f12 a12 hq13 => ?_) (fun _ _ _ h => h))
    obtain ⟨rfl, rfl, hq13⟩ := hq13
    refine am_rbipush rfl (by decide) ?_
    refine am_ric_eq rfl rfl (by unfold am_rg; omega) (by unfold am_rg; omega) (fun hc14 => ?_) (fun hc14 => ?_)
    · refine am_raload_n rfl rfl rfl ?_
      refine am_rbipush rfl (by decide) ?_
      refine am_evirtualV (m := am_m123) (As := [.ref 117, am_iv 34]) (S1 := []) rfl rfl rfl rfl rfl rfl rfl rfl rfl rfl (am_TE.void (am_ct124 (y1 := 34) (by omega) hI (by omega) (show 0 ≤ 34 by omega)) (fun f15 a15 hq16 => ?_) (fun _ _ _ h => h))
      obtain ⟨hI17, hk18, hq16⟩ := hq16
      replace hq16 : f15 11713 = ((f 11713)) ∧ (am_ph f a ) + 1 ≤ am_ph f15 a15 + 1 * (f15 11701) ∧ (am_at (a 124) 0) + 1 ≤ am_at (a15 124) 0 + 1 * (f15 11701) + 1 * ((f 11713)) := hq16
      have mm19 : f 11701 ≤ f15 11701 ∧ am_ph f a ≤ am_ph f15 a15 ∧ am_at (a 124) 0 ≤ am_at (a15 124) 0 ∧ am_at (a15 125) 0 = am_at (a 125) 0 := hk18.1
      have hm20 := am_mn.trans hp0 hk18.1
      have t21 : f15 11718 = f 11718 := hk18.2.1 11718 rfl
      have t22 : f15 11757 = f 11757 := hk18.2.1 11757 rfl
      have t23 : f15 11763 = f 11763 := hk18.2.1 11763 rfl
      have t24 : f15 11741 = f 11741 := hk18.2.1 11741 rfl
      have t25 : f15 11750 = f 11750 := hk18.2.1 11750 rfl
      have t26 : f15 11753 = f 11753 := hk18.2.1 11753 rfl
      have t27 : f15 11709 = f 11709 := hk18.2.1 11709 rfl
      have t28 : a15 121 = a 121 := hk18.2.2 121 rfl
      have t29 : a15 122 = a 122 := hk18.2.2 122 rfl
      have qq : am_q11 x2 (a15 121) (a15 122) := by rw [hk18.2.2 121 rfl, hk18.2.2 122 rfl]; exact qq
      refine am_raload_n rfl rfl rfl ?_
      have q30 := am_Rg11701 hI17.1.1
      refine am_rgetf (S1 := [am_iv (f15 11701)]) rfl rfl ?_
      refine am_rif_eq rfl rfl (by unfold am_rg; omega) (fun hc31 => ?_) (fun hc31 => ?_)
      · refine am_raload_n rfl rfl rfl ?_
        refine am_rgetf (S1 := [.ref 121]) rfl rfl ?_
        refine am_riload_n rfl rfl rfl ?_
        have q32 : (a15 121).length = 26 := am_Rl121 (am_RL 121 rfl hI17.1.1)
        have i33 : am_ib (a15 121) x1 := by unfold am_ib; omega
        have q34 := am_Rb121 (am_RL 121 rfl hI17.1.1) i33
        have q9 := hI17.2.2.2.2.2.2.1 (by omega)
        have q20 := hI17.2.2.1 0 (by omega) (by omega)
        have q12 := hI17.2.2.2.2.2.2.2.2.2.2
        refine am_riaload (l := a15 121) rfl am_ge121 i33 ?_
        refine am_rif_lt rfl rfl (by unfold am_rg; omega) (fun hc35 => ?_) (fun hc35 => ?_)
        · refine am_raload_n rfl rfl rfl ?_
          refine am_rgetf (S1 := [.ref 121]) rfl rfl ?_
          refine am_riload_n rfl rfl rfl ?_
          refine am_riload_n rfl rfl rfl ?_
          have i36 : am_ib (a15 121) x1 := by unfold am_ib; omega
          have hl37 : am_LR 121 ((a15 121).set x1.toNat x2) := am_RS121 (am_RL 121 rfl hI17.1.1) (by omega) (by omega)
          refine am_riastore (l := a15 121) (h1 := am_enc f15 (am_ud a15 121 ((a15 121).set x1.toNat x2)) w e) rfl am_ge121 i36 (am_sa121 _) ?_
          refine am_raload_n rfl rfl rfl ?_
          refine am_rgetf (S1 := [.ref 122]) rfl rfl ?_
          refine am_riload_n rfl rfl rfl ?_
          refine am_raload_n rfl rfl rfl ?_
          have q38 := am_Rg11709 hI17.1.1
          refine am_rgetf (S1 := [am_iv (f15 11709), am_iv x1, .ref 122]) rfl rfl ?_
          refine am_riload_n rfl rfl rfl ?_
          refine am_risub rfl ?_
          have q39 : (a15 122).length = 26 := am_Rl122 (am_RL 122 rfl hI17.1.1)
          have i40 : am_ib (a15 122) x1 := by unfold am_ib; omega
          have hl41 : am_LR 122 ((a15 122).set x1.toNat ((f15 11709) - x2)) := am_RS122 (am_RL 122 rfl hI17.1.1) (by omega) (by omega)
          refine am_riastore (l := a15 122) (h1 := am_enc f15 (am_ud (am_ud a15 121 ((a15 121).set x1.toNat x2)) 122 ((a15 122).set x1.toNat ((f15 11709) - x2))) w e) rfl am_ge122 i40 (am_sa122 _) ?_
          have J42 : am_RV g h f15 (am_ud (am_ud a15 121 ((a15 121).set x1.toNat x2)) 122 ((a15 122).set x1.toNat ((f15 11709) - x2))) := by
            exact am_RV_ent hI17 (by omega) (by omega) (by omega) (by omega) (by omega)
          have m43 : am_mn fz az f15 (am_ud a15 121 ((a15 121).set x1.toNat x2)) := am_mn_a rfl rfl hm20
          have m44 : am_mn fz az f15 (am_ud (am_ud a15 121 ((a15 121).set x1.toNat x2)) 122 ((a15 122).set x1.toNat ((f15 11709) - x2))) := am_mn_a rfl rfl m43
          have q45 := am_Rg11713 hI17.1.1
          have q46 := am_Rg11718 hI17.1.1
          have q47 := am_Rg11757 hI17.1.1
          have q48 := am_Rg11763 hI17.1.1
          have q49 := am_Rg11741 hI17.1.1
          have q50 := am_Rg11750 hI17.1.1
          have q51 := am_Rg11753 hI17.1.1
          exact am_eret rfl rfl ⟨J42, m44, (show f15 11713 = z11713 by omega), (show f15 11718 = z11718 by omega), (show f15 11757 = z11757 by omega), (show f15 11763 = z11763 by omega), (show f15 11741 = z11741 by omega), (show f15 11750 = z11750 by omega), (show f15 11753 = z11753 by omega)⟩
        · refine am_raload_n rfl rfl rfl ?_
          refine am_riload_n rfl rfl rfl ?_
          refine am_rputf (S1 := []) (h1 := am_enc (am_ud f15 11709 x2) a15 w e) rfl (am_pfB rfl am_ge117 rfl (am_sf11709 _)) (by rw [am_enc_len, am_enc_len]) ?_
          refine am_rgoto rfl rfl ?_
          have J52 : am_RV g h (am_ud f15 11709 x2) a15 := by
            exact am_RV_back hI17 (by omega) (by omega) (by omega) (by omega) qq
          have m53 : am_mn fz az (am_ud f15 11709 x2) a15 := am_mn_f rfl rfl rfl hm20
          have q54 := am_Rg11713 hI17.1.1
          have q55 := am_Rg11718 hI17.1.1
          have q56 := am_Rg11757 hI17.1.1
          have q57 := am_Rg11763 hI17.1.1
          have q58 := am_Rg11741 hI17.1.1
          have q59 := am_Rg11750 hI17.1.1
          have q60 := am_Rg11753 hI17.1.1
          exact am_eret rfl rfl ⟨J52, m53, (show f15 11713 = z11713 by omega), (show f15 11718 = z11718 by omega), (show f15 11757 = z11757 by omega), (show f15 11763 = z11763 by omega), (show f15 11741 = z11741 by omega), (show f15 11750 = z11750 by omega), (show f15 11753 = z11753 by omega)⟩
      · have q61 := am_Rg11713 hI17.1.1
        have q62 := am_Rg11718 hI17.1.1
        have q63 := am_Rg11757 hI17.1.1
        have q64 := am_Rg11763 hI17.1.1
        have q65 := am_Rg11741 hI17.1.1
        have q66 := am_Rg11750 hI17.1.1
        have q67 := am_Rg11753 hI17.1.1
        exact am_eret rfl rfl ⟨hI17, hm20, (show f15 11713 = z11713 by omega), (show f15 11718 = z11718 by omega), (show f15 11757 = z11757 by omega), (show f15 11763 = z11763 by omega), (show f15 11741 = z11741 by omega), (show f15 11750 = z11750 by omega), (show f15 11753 = z11753 by omega)⟩
    · refine am_raload_n rfl rfl rfl ?_
      refine am_rgetf (S1 := [am_iv (f 11701)]) rfl rfl ?_
      refine am_rif_ne rfl rfl (by unfold am_rg; omega) (fun hc68 => ?_) (fun hc68 => ?_)
      · refine am_raload_n rfl rfl rfl ?_
        refine am_rbipush rfl (by decide) ?_
        refine am_evirtualV (m := am_m123) (As := [.ref 117, am_iv 34]) (S1 := []) rfl rfl rfl rfl rfl rfl rfl rfl rfl rfl (am_TE.void (am_ct124 (y1 := 34) (by omega) hI (by omega) (show 0 ≤ 34 by omega)) (fun f69 a69 hq70 => ?_) (fun _ _ _ h => h))
        obtain ⟨hI71, hk72, hq70⟩ := hq70
        replace hq70 : f69 11713 = ((f 11713)) ∧ (am_ph f a ) + 1 ≤ am_ph f69 a69 + 1 * (f69 11701) ∧ (am_at (a 124) 0) + 1 ≤ am_at (a69 124) 0 + 1 * (f69 11701) + 1 * ((f 11713)) := hq70
        have mm73 : f 11701 ≤ f69 11701 ∧ am_ph f a ≤ am_ph f69 a69 ∧ am_at (a 124) 0 ≤ am_at (a69 124) 0 ∧ am_at (a69 125) 0 = am_at (a 125) 0 := hk72.1
        have hm74 := am_mn.trans hp0 hk72.1
        have t75 : f69 11718 = f 11718 := hk72.2.1 11718 rfl
        have t76 : f69 11757 = f 11757 := hk72.2.1 11757 rfl
        have t77 : f69 11763 = f 11763 := hk72.2.1 11763 rfl
        have t78 : f69 11741 = f 11741 := hk72.2.1 11741 rfl
        have t79 : f69 11750 = f 11750 := hk72.2.1 11750 rfl
        have t80 : f69 11753 = f 11753 := hk72.2.1 11753 rfl
        have t81 : f69 11709 = f 11709 := hk72.2.1 11709 rfl
        have t82 : a69 121 = a 121 := hk72.2.2 121 rfl
        have t83 : a69 122 = a 122 := hk72.2.2 122 rfl
        have qq : am_q11 x2 (a69 121) (a69 122) := by rw [hk72.2.2 121 rfl, hk72.2.2 122 rfl]; exact qq
        refine am_raload_n rfl rfl rfl ?_
        have q84 := am_Rg11701 hI71.1.1
        refine am_rgetf (S1 := [am_iv (f69 11701)]) rfl rfl ?_
        refine am_rif_eq rfl rfl (by unfold am_rg; omega) (fun hc85 => ?_) (fun hc85 => ?_)
        · refine am_raload_n rfl rfl rfl ?_
          refine am_rgetf (S1 := [.ref 121]) rfl rfl ?_
          refine am_riload_n rfl rfl rfl ?_
          have q86 : (a69 121).length = 26 := am_Rl121 (am_RL 121 rfl hI71.1.1)
          have i87 : am_ib (a69 121) x1 := by unfold am_ib; omega
          have q88 := am_Rb121 (am_RL 121 rfl hI71.1.1) i87
          have q9 := hI71.2.2.2.2.2.2.1 (by omega)
          have q20 := hI71.2.2.1 0 (by omega) (by omega)
          have q12 := hI71.2.2.2.2.2.2.2.2.2.2
          refine am_riaload (l := a69 121) rfl am_ge121 i87 ?_
          refine am_rif_lt rfl rfl (by unfold am_rg; omega) (fun hc89 => ?_) (fun hc89 => ?_)
          · refine am_raload_n rfl rfl rfl ?_
            refine am_rgetf (S1 := [.ref 121]) rfl rfl ?_
            refine am_riload_n rfl rfl rfl ?_
            refine am_riload_n rfl rfl rfl ?_
            have i90 : am_ib (a69 121) x1 := by unfold am_ib; omega
            have hl91 : am_LR 121 ((a69 121).set x1.toNat x2) := am_RS121 (am_RL 121 rfl hI71.1.1) (by omega) (by omega)
            refine am_riastore (l := a69 121) (h1 := am_enc f69 (am_ud a69 121 ((a69 121).set x1.toNat x2)) w e) rfl am_ge121 i90 (am_sa121 _) ?_
            refine am_raload_n rfl rfl rfl ?_
            refine am_rgetf (S1 := [.ref 122]) rfl rfl ?_
            refine am_riload_n rfl rfl rfl ?_
            refine am_raload_n rfl rfl rfl ?_
            have q92 := am_Rg11709 hI71.1.1
            refine am_rgetf (S1 := [am_iv (f69 11709), am_iv x1, .ref 122]) rfl rfl ?_
            refine am_riload_n rfl rfl rfl ?_
            refine am_risub rfl ?_
            have q93 : (a69 122).length = 26 := am_Rl122 (am_RL 122 rfl hI71.1.1)
            have i94 : am_ib (a69 122) x1 := by unfold am_ib; omega
            have hl95 : am_LR 122 ((a69 122).set x1.toNat ((f69 11709) - x2)) := am_RS122 (am_RL 122 rfl hI71.1.1) (by omega) (by omega)
            refine am_riastore (l := a69 122) (h1 := am_enc f69 (am_ud (am_ud a69 121 ((a69 121).set x1.toNat x2)) 122 ((a69 122).set x1.toNat ((f69 11709) - x2))) w e) rfl am_ge122 i94 (am_sa122 _) ?_
            have J96 : am_RV g h f69 (am_ud (am_ud a69 121 ((a69 121).set x1.toNat x2)) 122 ((a69 122).set x1.toNat ((f69 11709) - x2))) := by
              exact am_RV_ent hI71 (by omega) (by omega) (by omega) (by omega) (by omega)
            have m97 : am_mn fz az f69 (am_ud a69 121 ((a69 121).set x1.toNat x2)) := am_mn_a rfl rfl hm74
            have m98 : am_mn fz az f69 (am_ud (am_ud a69 121 ((a69 121).set x1.toNat x2)) 122 ((a69 122).set x1.toNat ((f69 11709) - x2))) := am_mn_a rfl rfl m97
            have q99 := am_Rg11713 hI71.1.1
            have q100 := am_Rg11718 hI71.1.1
            have q101 := am_Rg11757 hI71.1.1
            have q102 := am_Rg11763 hI71.1.1
            have q103 := am_Rg11741 hI71.1.1
            have q104 := am_Rg11750 hI71.1.1
            have q105 := am_Rg11753 hI71.1.1
            exact am_eret rfl rfl ⟨J96, m98, (show f69 11713 = z11713 by omega), (show f69 11718 = z11718 by omega), (show f69 11757 = z11757 by omega), (show f69 11763 = z11763 by omega), (show f69 11741 = z11741 by omega), (show f69 11750 = z11750 by omega), (show f69 11753 = z11753 by omega)⟩
          · refine am_raload_n rfl rfl rfl ?_
            refine am_riload_n rfl rfl rfl ?_
            refine am_rputf (S1 := []) (h1 := am_enc (am_ud f69 11709 x2) a69 w e) rfl (am_pfB rfl am_ge117 rfl (am_sf11709 _)) (by rw [am_enc_len, am_enc_len]) ?_
            refine am_rgoto rfl rfl ?_
            have J106 : am_RV g h (am_ud f69 11709 x2) a69 := by
              exact am_RV_back hI71 (by omega) (by omega) (by omega) (by omega) qq
            have m107 : am_mn fz az (am_ud f69 11709 x2) a69 := am_mn_f rfl rfl rfl hm74
            have q108 := am_Rg11713 hI71.1.1
            have q109 := am_Rg11718 hI71.1.1
            have q110 := am_Rg11757 hI71.1.1
            have q111 := am_Rg11763 hI71.1.1
            have q112 := am_Rg11741 hI71.1.1
            have q113 := am_Rg11750 hI71.1.1
            have q114 := am_Rg11753 hI71.1.1
            exact am_eret rfl rfl ⟨J106, m107, (show f69 11713 = z11713 by omega), (show f69 11718 = z11718 by omega), (show f69 11757 = z11757 by omega), (show f69 11763 = z11763 by omega), (show f69 11741 = z11741 by omega), (show f69 11750 = z11750 by omega), (show f69 11753 = z11753 by omega)⟩
        · have q115 := am_Rg11713 hI71.1.1
          have q116 := am_Rg11718 hI71.1.1
          have q117 := am_Rg11757 hI71.1.1
          have q118 := am_Rg11763 hI71.1.1
          have q119 := am_Rg11741 hI71.1.1
          have q120 := am_Rg11750 hI71.1.1
          have q121 := am_Rg11753 hI71.1.1
          exact am_eret rfl rfl ⟨hI71, hm74, (show f69 11713 = z11713 by omega), (show f69 11718 = z11718 by omega), (show f69 11757 = z11757 by omega), (show f69 11763 = z11763 by omega), (show f69 11741 = z11741 by omega), (show f69 11750 = z11750 by omega), (show f69 11753 = z11753 by omega)⟩
      · refine am_raload_n rfl rfl rfl ?_
        refine am_evirtualI (m := am_m121) (As := [.ref 117]) (S1 := []) rfl rfl rfl rfl rfl rfl rfl rfl rfl rfl (am_TE.int (am_ct122  (by omega) hI) (fun b122 f122 a122 hq123 => ?_) (fun _ _ _ h => h))
        obtain ⟨rfl, rfl, hq123⟩ := hq123
        refine am_ristore_n (L1 := [(0, .ref 117), (1, am_iv x1), (2, am_iv x2), (3, am_iv b122)]) rfl rfl rfl rfl rfl ?_
        refine am_riload_n rfl rfl rfl ?_
        refine am_rif_ge rfl rfl (by unfold am_rg; omega) (fun hc124 => ?_) (fun hc124 => ?_)
        · refine am_raload_n rfl rfl rfl ?_
          have ok125 : f 11701 = 0 ∧ am_at (a 124) (f 11713) < am_at (a 125) (f 11713) := am_PK.ok hq123.2.2.1 (by omega)
          refine am_evirtualV (m := am_m122) (As := [.ref 117]) (S1 := []) rfl rfl rfl rfl rfl rfl rfl rfl rfl rfl (am_TE.void (am_ct123  (by omega) hI (show am_at (a 124) ((f 11713)) < am_at (a 125) ((f 11713)) by omega)) (fun f126 a126 hq127 => ?_) (fun _ _ _ h => h))
          obtain ⟨hI128, hk129, hq127⟩ := hq127
          replace hq127 : f126 11701 = ((f 11701)) ∧ f126 11713 = ((f 11713)) ∧ am_ph f126 a126 = (am_ph f a ) + 1 ∧ (((f 11713)) = 0 → am_at (a126 124) 0 = (am_at (a 124) 0) + 1) := hq127
          have mm130 : f 11701 ≤ f126 11701 ∧ am_ph f a ≤ am_ph f126 a126 ∧ am_at (a 124) 0 ≤ am_at (a126 124) 0 ∧ am_at (a126 125) 0 = am_at (a 125) 0 := hk129.1
          have hm131 := am_mn.trans hp0 hk129.1
          have t132 : f126 11718 = f 11718 := hk129.2.1 11718 rfl
          have t133 : f126 11757 = f 11757 := hk129.2.1 11757 rfl
          have t134 : f126 11763 = f 11763 := hk129.2.1 11763 rfl
          have t135 : f126 11741 = f 11741 := hk129.2.1 11741 rfl
          have t136 : f126 11750 = f 11750 := hk129.2.1 11750 rfl
          have t137 : f126 11753 = f 11753 := hk129.2.1 11753 rfl
          have t138 : f126 11709 = f 11709 := hk129.2.1 11709 rfl
          have t139 : a126 121 = a 121 := hk129.2.2 121 rfl
          have t140 : a126 122 = a 122 := hk129.2.2 122 rfl
          have qq : am_q11 x2 (a126 121) (a126 122) := by rw [hk129.2.2 121 rfl, hk129.2.2 122 rfl]; exact qq
          refine am_riload_n rfl rfl rfl ?_
          refine am_rbipush rfl (by decide) ?_
          refine am_ric_ne rfl rfl (by unfold am_rg; omega) (by unfold am_rg; omega) (fun hc141 => ?_) (fun hc141 => ?_)
          · refine am_raload_n rfl rfl rfl ?_
            refine am_rgetf (S1 := [.ref 120]) rfl rfl ?_
            refine am_raload_n rfl rfl rfl ?_
            have q142 := am_Rg11709 hI128.1.1
            refine am_rgetf (S1 := [am_iv (f126 11709), .ref 120]) rfl rfl ?_
            refine am_riload_n rfl rfl rfl ?_
            have q143 : (a126 120).length = 1200 := am_Rl120 (am_RL 120 rfl hI128.1.1)
            have i144 : am_ib (a126 120) (f126 11709) := by unfold am_ib; omega
            have hl145 : am_LR 120 ((a126 120).set (f126 11709).toNat b122) := am_RS120 (am_RL 120 rfl hI128.1.1) (by omega) (by omega)
            refine am_riastore (l := a126 120) (h1 := am_enc f126 (am_ud a126 120 ((a126 120).set (f126 11709).toNat b122)) w e) rfl am_ge120 i144 (am_sa120 _) ?_
            refine am_raload_n rfl rfl rfl ?_
            refine am_rdup rfl rfl ?_
            refine am_rgetf (S1 := [am_iv (f126 11709), .ref 117]) rfl rfl ?_
            refine am_riconst rfl ?_
            refine am_riadd rfl ?_
            refine am_rputf (S1 := []) (h1 := am_enc (am_ud f126 11709 ((f126 11709) + 1)) (am_ud a126 120 ((a126 120).set (f126 11709).toNat b122)) w e) rfl (am_pfB rfl am_ge117 rfl (am_sf11709 _)) (by rw [am_enc_len, am_enc_len]) ?_
            refine am_rgoto rfl rfl ?_
            have q146 := am_Rg11701 hI128.1.1
            have J147 : am_RV g h (am_ud f126 11709 ((f126 11709) + 1)) (am_ud a126 120 ((a126 120).set (f126 11709).toNat b122)) := by
              exact am_RV_app hI128 (by omega) (by omega) (by omega) (by omega)
            have m148 : am_mn fz az (am_ud f126 11709 ((f126 11709) + 1)) a126 := am_mn_f rfl rfl rfl hm131
            have m149 : am_mn fz az (am_ud f126 11709 ((f126 11709) + 1)) (am_ud a126 120 ((a126 120).set (f126 11709).toNat b122)) := am_mn_a rfl rfl m148
            have q150 := am_Rg11713 hI128.1.1
            have q151 := am_Rg11718 hI128.1.1
            have q152 := am_Rg11757 hI128.1.1
            have q153 := am_Rg11763 hI128.1.1
            have q154 := am_Rg11741 hI128.1.1
            have q155 := am_Rg11750 hI128.1.1
            have q156 := am_Rg11753 hI128.1.1
            exact am_T.drop (L1 := [(0, .ref 117), (1, am_iv x1), (2, am_iv x2)]) (ih (show (8 * (3500 - am_ph f126 a126 ) + 3 - (f126 11701)).toNat < n by omega) J147 m149 (show (-2147483648 ≤ x1 ∧ x1 ≤ 2147483647) by omega) (show (-2147483648 ≤ x2 ∧ x2 ≤ 2147483647) by omega) (show 0 ≤ x1 by omega) (show x1 ≤ 25 by omega) (show 0 ≤ x2 by omega) (show x2 ≤ ((f126 11709) + 1) by omega) (show am_at (a126 125) 0 ≤ x2 by omega) (show z11713 ≤ 16 * (f126 11701) by omega) qq (show (f126 11713) = z11713 by omega) (show (f126 11718) = z11718 by omega) (show (f126 11757) = z11757 by omega) (show (f126 11763) = z11763 by omega) (show (f126 11741) = z11741 by omega) (show (f126 11750) = z11750 by omega) (show (f126 11753) = z11753 by omega)) (by simp)
          · refine am_raload_n rfl rfl rfl ?_
            refine am_evirtualI (m := am_m121) (As := [.ref 117]) (S1 := []) rfl rfl rfl rfl rfl rfl rfl rfl rfl rfl (am_TE.int (am_ct122  (by omega) hI128) (fun b157 f157 a157 hq158 => ?_) (fun _ _ _ h => h))
            obtain ⟨rfl, rfl, hq158⟩ := hq158
            refine am_rbipush rfl (by decide) ?_
            refine am_ric_ne rfl rfl (by unfold am_rg; omega) (by unfold am_rg; omega) (fun hc159 => ?_) (fun hc159 => ?_)
            · refine am_raload_n rfl rfl rfl ?_
              refine am_rgetf (S1 := [.ref 120]) rfl rfl ?_
              refine am_raload_n rfl rfl rfl ?_
              have q160 := am_Rg11709 hI128.1.1
              refine am_rgetf (S1 := [am_iv (f126 11709), .ref 120]) rfl rfl ?_
              refine am_riload_n rfl rfl rfl ?_
              have q161 : (a126 120).length = 1200 := am_Rl120 (am_RL 120 rfl hI128.1.1)
              have i162 : am_ib (a126 120) (f126 11709) := by unfold am_ib; omega
              have hl163 : am_LR 120 ((a126 120).set (f126 11709).toNat b122) := am_RS120 (am_RL 120 rfl hI128.1.1) (by omega) (by omega)
              refine am_riastore (l := a126 120) (h1 := am_enc f126 (am_ud a126 120 ((a126 120).set (f126 11709).toNat b122)) w e) rfl am_ge120 i162 (am_sa120 _) ?_
              refine am_raload_n rfl rfl rfl ?_
              refine am_rdup rfl rfl ?_
              refine am_rgetf (S1 := [am_iv (f126 11709), .ref 117]) rfl rfl ?_
              refine am_riconst rfl ?_
              refine am_riadd rfl ?_
              refine am_rputf (S1 := []) (h1 := am_enc (am_ud f126 11709 ((f126 11709) + 1)) (am_ud a126 120 ((a126 120).set (f126 11709).toNat b122)) w e) rfl (am_pfB rfl am_ge117 rfl (am_sf11709 _)) (by rw [am_enc_len, am_enc_len]) ?_
              refine am_rgoto rfl rfl ?_
              have q164 := am_Rg11701 hI128.1.1
              have J165 : am_RV g h (am_ud f126 11709 ((f126 11709) + 1)) (am_ud a126 120 ((a126 120).set (f126 11709).toNat b122)) := by
                exact am_RV_app hI128 (by omega) (by omega) (by omega) (by omega)
              have m166 : am_mn fz az (am_ud f126 11709 ((f126 11709) + 1)) a126 := am_mn_f rfl rfl rfl hm131
              have m167 : am_mn fz az (am_ud f126 11709 ((f126 11709) + 1)) (am_ud a126 120 ((a126 120).set (f126 11709).toNat b122)) := am_mn_a rfl rfl m166
              have q168 := am_Rg11713 hI128.1.1
              have q169 := am_Rg11718 hI128.1.1
              have q170 := am_Rg11757 hI128.1.1
              have q171 := am_Rg11763 hI128.1.1
              have q172 := am_Rg11741 hI128.1.1
              have q173 := am_Rg11750 hI128.1.1
              have q174 := am_Rg11753 hI128.1.1
              exact am_T.drop (L1 := [(0, .ref 117), (1, am_iv x1), (2, am_iv x2)]) (ih (show (8 * (3500 - am_ph f126 a126 ) + 3 - (f126 11701)).toNat < n by omega) J165 m167 (show (-2147483648 ≤ x1 ∧ x1 ≤ 2147483647) by omega) (show (-2147483648 ≤ x2 ∧ x2 ≤ 2147483647) by omega) (show 0 ≤ x1 by omega) (show x1 ≤ 25 by omega) (show 0 ≤ x2 by omega) (show x2 ≤ ((f126 11709) + 1) by omega) (show am_at (a126 125) 0 ≤ x2 by omega) (show z11713 ≤ 16 * (f126 11701) by omega) qq (show (f126 11713) = z11713 by omega) (show (f126 11718) = z11718 by omega) (show (f126 11757) = z11757 by omega) (show (f126 11763) = z11763 by omega) (show (f126 11741) = z11741 by omega) (show (f126 11750) = z11750 by omega) (show (f126 11753) = z11753 by omega)) (by simp)
            · refine am_raload_n rfl rfl rfl ?_
              have ok175 : f126 11701 = 0 ∧ am_at (a126 124) (f126 11713) < am_at (a126 125) (f126 11713) := am_PK.ok hq158.2.2.1 (by omega)
              have q176 := am_Rg11713 hI128.1.1
              refine am_evirtualV (m := am_m122) (As := [.ref 117]) (S1 := []) rfl rfl rfl rfl rfl rfl rfl rfl rfl rfl (am_TE.void (am_ct123  (by omega) hI128 (show am_at (a126 124) ((f126 11713)) < am_at (a126 125) ((f126 11713)) by omega)) (fun f177 a177 hq178 => ?_) (fun _ _ _ h => h))
              obtain ⟨hI179, hk180, hq178⟩ := hq178
              replace hq178 : f177 11701 = ((f126 11701)) ∧ f177 11713 = ((f126 11713)) ∧ am_ph f177 a177 = (am_ph f126 a126 ) + 1 ∧ (((f126 11713)) = 0 → am_at (a177 124) 0 = (am_at (a126 124) 0) + 1) := hq178
              have mm181 : f126 11701 ≤ f177 11701 ∧ am_ph f126 a126 ≤ am_ph f177 a177 ∧ am_at (a126 124) 0 ≤ am_at (a177 124) 0 ∧ am_at (a177 125) 0 = am_at (a126 125) 0 := hk180.1
              have hm182 := am_mn.trans hm131 hk180.1
              have t183 : f177 11718 = f126 11718 := hk180.2.1 11718 rfl
              have t184 : f177 11757 = f126 11757 := hk180.2.1 11757 rfl
              have t185 : f177 11763 = f126 11763 := hk180.2.1 11763 rfl
              have t186 : f177 11741 = f126 11741 := hk180.2.1 11741 rfl
              have t187 : f177 11750 = f126 11750 := hk180.2.1 11750 rfl
              have t188 : f177 11753 = f126 11753 := hk180.2.1 11753 rfl
              have t189 : f177 11709 = f126 11709 := hk180.2.1 11709 rfl
              have t190 : a177 121 = a126 121 := hk180.2.2 121 rfl
              have t191 : a177 122 = a126 122 := hk180.2.2 122 rfl
              have qq : am_q11 x2 (a177 121) (a177 122) := by rw [hk180.2.2 121 rfl, hk180.2.2 122 rfl]; exact qq
              refine am_raload_n rfl rfl rfl ?_
              refine am_evirtualI (m := am_m130) (As := [.ref 117]) (S1 := []) rfl rfl rfl rfl rfl rfl rfl rfl rfl rfl (am_TE.int (am_ct131  (by omega) hI179) (fun b192 f192 a192 hq193 => ?_) (fun _ _ _ h => h))
              obtain ⟨hI194, hk195, hq193⟩ := hq193
              replace hq193 : (-2147483648 ≤ b192 ∧ b192 ≤ 2147483647) ∧ f192 11713 = ((f177 11713)) ∧ (0 ≤ b192 ∧ b192 ≤ 999999) := hq193
              have mm196 : f177 11701 ≤ f192 11701 ∧ am_ph f177 a177 ≤ am_ph f192 a192 ∧ am_at (a177 124) 0 ≤ am_at (a192 124) 0 ∧ am_at (a192 125) 0 = am_at (a177 125) 0 := hk195.1
              have hm197 := am_mn.trans hm182 hk195.1
              have t198 : f192 11718 = f177 11718 := hk195.2.1 11718 rfl
              have t199 : f192 11757 = f177 11757 := hk195.2.1 11757 rfl
              have t200 : f192 11763 = f177 11763 := hk195.2.1 11763 rfl
              have t201 : f192 11741 = f177 11741 := hk195.2.1 11741 rfl
              have t202 : f192 11750 = f177 11750 := hk195.2.1 11750 rfl
              have t203 : f192 11753 = f177 11753 := hk195.2.1 11753 rfl
              have t204 : f192 11709 = f177 11709 := hk195.2.1 11709 rfl
              have t205 : a192 121 = a177 121 := hk195.2.2 121 rfl
              have t206 : a192 122 = a177 122 := hk195.2.2 122 rfl
              have qq : am_q11 x2 (a192 121) (a192 122) := by rw [hk195.2.2 121 rfl, hk195.2.2 122 rfl]; exact qq
              refine am_ristore_n (L1 := [(0, .ref 117), (1, am_iv x1), (2, am_iv x2), (3, am_iv b192)]) rfl rfl rfl rfl rfl ?_
              refine am_raload_n rfl rfl rfl ?_
              refine am_rgetf (S1 := [.ref 120]) rfl rfl ?_
              refine am_raload_n rfl rfl rfl ?_
              have q207 := am_Rg11709 hI194.1.1
              refine am_rgetf (S1 := [am_iv (f192 11709), .ref 120]) rfl rfl ?_
              refine am_riload_n rfl rfl rfl ?_
              have q208 : (a192 120).length = 1200 := am_Rl120 (am_RL 120 rfl hI194.1.1)
              have i209 : am_ib (a192 120) (f192 11709) := by unfold am_ib; omega
              have hl210 : am_LR 120 ((a192 120).set (f192 11709).toNat b192) := am_RS120 (am_RL 120 rfl hI194.1.1) (by omega) (by omega)
              refine am_riastore (l := a192 120) (h1 := am_enc f192 (am_ud a192 120 ((a192 120).set (f192 11709).toNat b192)) w e) rfl am_ge120 i209 (am_sa120 _) ?_
              refine am_raload_n rfl rfl rfl ?_
              refine am_rdup rfl rfl ?_
              refine am_rgetf (S1 := [am_iv (f192 11709), .ref 117]) rfl rfl ?_
              refine am_riconst rfl ?_
              refine am_riadd rfl ?_
              refine am_rputf (S1 := []) (h1 := am_enc (am_ud f192 11709 ((f192 11709) + 1)) (am_ud a192 120 ((a192 120).set (f192 11709).toNat b192)) w e) rfl (am_pfB rfl am_ge117 rfl (am_sf11709 _)) (by rw [am_enc_len, am_enc_len]) ?_
              refine am_rgoto rfl rfl ?_
              have q211 := am_Rg11701 hI194.1.1
              have J212 : am_RV g h (am_ud f192 11709 ((f192 11709) + 1)) (am_ud a192 120 ((a192 120).set (f192 11709).toNat b192)) := by
                exact am_RV_app hI194 (by omega) (by omega) (by omega) (by omega)
              have m213 : am_mn fz az (am_ud f192 11709 ((f192 11709) + 1)) a192 := am_mn_f rfl rfl rfl hm197
              have m214 : am_mn fz az (am_ud f192 11709 ((f192 11709) + 1)) (am_ud a192 120 ((a192 120).set (f192 11709).toNat b192)) := am_mn_a rfl rfl m213
              have q215 := am_Rg11713 hI194.1.1
              have q216 := am_Rg11718 hI194.1.1
              have q217 := am_Rg11757 hI194.1.1
              have q218 := am_Rg11763 hI194.1.1
              have q219 := am_Rg11741 hI194.1.1
              have q220 := am_Rg11750 hI194.1.1
              have q221 := am_Rg11753 hI194.1.1
              exact am_T.drop (L1 := [(0, .ref 117), (1, am_iv x1), (2, am_iv x2)]) (ih (show (8 * (3500 - am_ph f192 a192 ) + 3 - (f192 11701)).toNat < n by omega) J212 m214 (show (-2147483648 ≤ x1 ∧ x1 ≤ 2147483647) by omega) (show (-2147483648 ≤ x2 ∧ x2 ≤ 2147483647) by omega) (show 0 ≤ x1 by omega) (show x1 ≤ 25 by omega) (show 0 ≤ x2 by omega) (show x2 ≤ ((f192 11709) + 1) by omega) (show am_at (a192 125) 0 ≤ x2 by omega) (show z11713 ≤ 16 * (f192 11701) by omega) qq (show (f192 11713) = z11713 by omega) (show (f192 11718) = z11718 by omega) (show (f192 11757) = z11757 by omega) (show (f192 11763) = z11763 by omega) (show (f192 11741) = z11741 by omega) (show (f192 11750) = z11750 by omega) (show (f192 11753) = z11753 by omega)) (by simp)
        · refine am_raload_n rfl rfl rfl ?_
          refine am_riconst rfl ?_
          refine am_evirtualV (m := am_m116) (As := [.ref 117, am_iv 1]) (S1 := []) rfl rfl rfl rfl rfl rfl rfl rfl rfl rfl (am_TE.void (am_ct117 (y1 := 1) (by omega) (by omega) (show 1 ≤ 1 by omega) (show 1 ≤ 3 by omega) (show 0 ≤ (f 11701) by omega) (show (f 11701) ≤ 3 by omega)) (fun f222 a222 hq223 => ?_) (fun _ _ _ h => h))
          obtain ⟨v224, rfl, rfl, hq223⟩ := hq223
          replace hq223 : 0 < v224 ∧ v224 ≤ 3 ∧ f 11701 ≤ v224 := hq223
          refine am_rgoto rfl rfl ?_
          refine am_riload_n rfl rfl rfl ?_
          refine am_rbipush rfl (by decide) ?_
          refine am_ric_ne rfl rfl (by unfold am_rg; omega) (by unfold am_rg; omega) (fun hc225 => ?_) (fun hc225 => ?_)
          · refine am_raload_n rfl rfl rfl ?_
            refine am_rgetf (S1 := [.ref 120]) rfl rfl ?_
            refine am_raload_n rfl rfl rfl ?_
            refine am_rgetf (S1 := [am_iv (f 11709), .ref 120]) rfl rfl ?_
            refine am_riload_n rfl rfl rfl ?_
            have q226 : (a 120).length = 1200 := am_Rl120 (am_RL 120 rfl hI.1.1)
            have i227 : am_ib (a 120) (f 11709) := by unfold am_ib; omega
            have hl228 : am_LR 120 ((a 120).set (f 11709).toNat b122) := am_RS120 (am_RL 120 rfl hI.1.1) (by omega) (by omega)
            refine am_riastore (l := a 120) (h1 := am_enc (am_ud f 11701 v224) (am_ud a 120 ((a 120).set (f 11709).toNat b122)) w e) rfl am_ge120 i227 (am_sa120 _) ?_
            refine am_raload_n rfl rfl rfl ?_
            refine am_rdup rfl rfl ?_
            refine am_rgetf (S1 := [am_iv (f 11709), .ref 117]) rfl rfl ?_
            refine am_riconst rfl ?_
            refine am_riadd rfl ?_
            refine am_rputf (S1 := []) (h1 := am_enc (am_ud (am_ud f 11701 v224) 11709 ((f 11709) + 1)) (am_ud a 120 ((a 120).set (f 11709).toNat b122)) w e) rfl (am_pfB rfl am_ge117 rfl (am_sf11709 _)) (by rw [am_enc_len, am_enc_len]) ?_
            refine am_rgoto rfl rfl ?_
            have J229 : am_RV g h (am_ud (am_ud f 11701 v224) 11709 ((f 11709) + 1)) (am_ud a 120 ((a 120).set (f 11709).toNat b122)) := by
              exact am_RV_app (am_Rf11701 (v := v224) hI (by omega) (by omega)) (show f 11709 ≤ 721 by omega) (by omega) (fun z => absurd (show v224 = 0 from z) (by omega)) (fun z => absurd (show v224 = 0 from z) (by omega))
            have m230 : am_mn fz az (am_ud f 11701 v224) a := am_mn.halt hp0 (by omega)
            have m231 : am_mn fz az (am_ud (am_ud f 11701 v224) 11709 ((f 11709) + 1)) a := am_mn_f rfl rfl rfl m230
            have m232 : am_mn fz az (am_ud (am_ud f 11701 v224) 11709 ((f 11709) + 1)) (am_ud a 120 ((a 120).set (f 11709).toNat b122)) := am_mn_a rfl rfl m231
            exact am_T.drop (L1 := [(0, .ref 117), (1, am_iv x1), (2, am_iv x2)]) (ih (show (8 * (3500 - am_ph f a ) + 3 - (v224)).toNat < n by omega) J229 m232 (show (-2147483648 ≤ x1 ∧ x1 ≤ 2147483647) by omega) (show (-2147483648 ≤ x2 ∧ x2 ≤ 2147483647) by omega) (show 0 ≤ x1 by omega) (show x1 ≤ 25 by omega) (show 0 ≤ x2 by omega) (show x2 ≤ ((f 11709) + 1) by omega) (show am_at (a 125) 0 ≤ x2 by omega) (show z11713 ≤ 16 * (v224) by omega) qq (show (f 11713) = z11713 by omega) (show (f 11718) = z11718 by omega) (show (f 11757) = z11757 by omega) (show (f 11763) = z11763 by omega) (show (f 11741) = z11741 by omega) (show (f 11750) = z11750 by omega) (show (f 11753) = z11753 by omega)) (by simp)
          · refine am_raload_n rfl rfl rfl ?_
            have J233 := am_Rf11701 (v := v224) hI (by omega) (by omega)
            refine am_evirtualI (m := am_m121) (As := [.ref 117]) (S1 := []) rfl rfl rfl rfl rfl rfl rfl rfl rfl rfl (am_TE.int (am_ct122  (by omega) J233) (fun b234 f234 a234 hq235 => ?_) (fun _ _ _ h => h))
            obtain ⟨rfl, rfl, hq235⟩ := hq235
            replace hq235 : (-2147483648 ≤ b234 ∧ b234 ≤ 2147483647) ∧ -1 ≤ b234 ∧ am_PK b234 (am_ud f 11701 v224) a ∧ b234 = am_pk (am_ud f 11701 v224) a := hq235
            refine am_rbipush rfl (by decide) ?_
            refine am_ric_ne rfl rfl (by unfold am_rg; omega) (by unfold am_rg; omega) (fun hc236 => ?_) (fun hc236 => ?_)
            · refine am_raload_n rfl rfl rfl ?_
              refine am_rgetf (S1 := [.ref 120]) rfl rfl ?_
              refine am_raload_n rfl rfl rfl ?_
              refine am_rgetf (S1 := [am_iv (f 11709), .ref 120]) rfl rfl ?_
              refine am_riload_n rfl rfl rfl ?_
              have q237 : (a 120).length = 1200 := am_Rl120 (am_RL 120 rfl hI.1.1)
              have i238 : am_ib (a 120) (f 11709) := by unfold am_ib; omega
              have hl239 : am_LR 120 ((a 120).set (f 11709).toNat b122) := am_RS120 (am_RL 120 rfl hI.1.1) (by omega) (by omega)
              refine am_riastore (l := a 120) (h1 := am_enc (am_ud f 11701 v224) (am_ud a 120 ((a 120).set (f 11709).toNat b122)) w e) rfl am_ge120 i238 (am_sa120 _) ?_
              refine am_raload_n rfl rfl rfl ?_
              refine am_rdup rfl rfl ?_
              refine am_rgetf (S1 := [am_iv (f 11709), .ref 117]) rfl rfl ?_
              refine am_riconst rfl ?_
              refine am_riadd rfl ?_
              refine am_rputf (S1 := []) (h1 := am_enc (am_ud (am_ud f 11701 v224) 11709 ((f 11709) + 1)) (am_ud a 120 ((a 120).set (f 11709).toNat b122)) w e) rfl (am_pfB rfl am_ge117 rfl (am_sf11709 _)) (by rw [am_enc_len, am_enc_len]) ?_
              refine am_rgoto rfl rfl ?_
              have J240 : am_RV g h (am_ud (am_ud f 11701 v224) 11709 ((f 11709) + 1)) (am_ud a 120 ((a 120).set (f 11709).toNat b122)) := by
                exact am_RV_app (am_Rf11701 (v := v224) hI (by omega) (by omega)) (show f 11709 ≤ 721 by omega) (by omega) (fun z => absurd (show v224 = 0 from z) (by omega)) (fun z => absurd (show v224 = 0 from z) (by omega))
              have m241 : am_mn fz az (am_ud f 11701 v224) a := am_mn.halt hp0 (by omega)
              have m242 : am_mn fz az (am_ud (am_ud f 11701 v224) 11709 ((f 11709) + 1)) a := am_mn_f rfl rfl rfl m241
              have m243 : am_mn fz az (am_ud (am_ud f 11701 v224) 11709 ((f 11709) + 1)) (am_ud a 120 ((a 120).set (f 11709).toNat b122)) := am_mn_a rfl rfl m242
              exact am_T.drop (L1 := [(0, .ref 117), (1, am_iv x1), (2, am_iv x2)]) (ih (show (8 * (3500 - am_ph f a ) + 3 - (v224)).toNat < n by omega) J240 m243 (show (-2147483648 ≤ x1 ∧ x1 ≤ 2147483647) by omega) (show (-2147483648 ≤ x2 ∧ x2 ≤ 2147483647) by omega) (show 0 ≤ x1 by omega) (show x1 ≤ 25 by omega) (show 0 ≤ x2 by omega) (show x2 ≤ ((f 11709) + 1) by omega) (show am_at (a 125) 0 ≤ x2 by omega) (show z11713 ≤ 16 * (v224) by omega) qq (show (f 11713) = z11713 by omega) (show (f 11718) = z11718 by omega) (show (f 11757) = z11757 by omega) (show (f 11763) = z11763 by omega) (show (f 11741) = z11741 by omega) (show (f 11750) = z11750 by omega) (show (f 11753) = z11753 by omega)) (by simp)
            · refine am_raload_n rfl rfl rfl ?_
              have ok244 : v224 = 0 ∧ am_at (a 124) (f 11713) < am_at (a 125) (f 11713) := am_PK.ok hq235.2.2.1 (by omega)
              refine am_evirtualV (m := am_m122) (As := [.ref 117]) (S1 := []) rfl rfl rfl rfl rfl rfl rfl rfl rfl rfl (am_TE.void (am_ct123  (by omega) J233 (show am_at (a 124) ((f 11713)) < am_at (a 125) ((f 11713)) by omega)) (fun f245 a245 hq246 => ?_) (fun _ _ _ h => h))
              have m249 : am_mn fz az (am_ud f 11701 v224) a := am_mn.halt hp0 (by omega)
              obtain ⟨hI247, hk248, hq246⟩ := hq246
              replace hq246 : f245 11701 = ((v224)) ∧ f245 11713 = ((f 11713)) ∧ am_ph f245 a245 = (am_ph f a ) + 1 ∧ (((f 11713)) = 0 → am_at (a245 124) 0 = (am_at (a 124) 0) + 1) := hq246
              have mm250 : v224 ≤ f245 11701 ∧ am_ph f a ≤ am_ph f245 a245 ∧ am_at (a 124) 0 ≤ am_at (a245 124) 0 ∧ am_at (a245 125) 0 = am_at (a 125) 0 := hk248.1
              have hm251 := am_mn.trans m249 hk248.1
              have t252 : f245 11718 = f 11718 := hk248.2.1 11718 rfl
              have t253 : f245 11757 = f 11757 := hk248.2.1 11757 rfl
              have t254 : f245 11763 = f 11763 := hk248.2.1 11763 rfl
              have t255 : f245 11741 = f 11741 := hk248.2.1 11741 rfl
              have t256 : f245 11750 = f 11750 := hk248.2.1 11750 rfl
              have t257 : f245 11753 = f 11753 := hk248.2.1 11753 rfl
              have t258 : f245 11709 = f 11709 := hk248.2.1 11709 rfl
              have t259 : a245 121 = a 121 := hk248.2.2 121 rfl
              have t260 : a245 122 = a 122 := hk248.2.2 122 rfl
              have qq : am_q11 x2 (a245 121) (a245 122) := by rw [hk248.2.2 121 rfl, hk248.2.2 122 rfl]; exact qq
              refine am_raload_n rfl rfl rfl ?_
              refine am_evirtualI (m := am_m130) (As := [.ref 117]) (S1 := []) rfl rfl rfl rfl rfl rfl rfl rfl rfl rfl (am_TE.int (am_ct131  (by omega) hI247) (fun b261 f261 a261 hq262 => ?_) (fun _ _ _ h => h))
              obtain ⟨hI263, hk264, hq262⟩ := hq262
              replace hq262 : (-2147483648 ≤ b261 ∧ b261 ≤ 2147483647) ∧ f261 11713 = ((f245 11713)) ∧ (0 ≤ b261 ∧ b261 ≤ 999999) := hq262
              have mm265 : f245 11701 ≤ f261 11701 ∧ am_ph f245 a245 ≤ am_ph f261 a261 ∧ am_at (a245 124) 0 ≤ am_at (a261 124) 0 ∧ am_at (a261 125) 0 = am_at (a245 125) 0 := hk264.1
              have hm266 := am_mn.trans hm251 hk264.1
              have t267 : f261 11718 = f245 11718 := hk264.2.1 11718 rfl
              have t268 : f261 11757 = f245 11757 := hk264.2.1 11757 rfl
              have t269 : f261 11763 = f245 11763 := hk264.2.1 11763 rfl
              have t270 : f261 11741 = f245 11741 := hk264.2.1 11741 rfl
              have t271 : f261 11750 = f245 11750 := hk264.2.1 11750 rfl
              have t272 : f261 11753 = f245 11753 := hk264.2.1 11753 rfl
              have t273 : f261 11709 = f245 11709 := hk264.2.1 11709 rfl
              have t274 : a261 121 = a245 121 := hk264.2.2 121 rfl
              have t275 : a261 122 = a245 122 := hk264.2.2 122 rfl
              have qq : am_q11 x2 (a261 121) (a261 122) := by rw [hk264.2.2 121 rfl, hk264.2.2 122 rfl]; exact qq
              refine am_ristore_n (L1 := [(0, .ref 117), (1, am_iv x1), (2, am_iv x2), (3, am_iv b261)]) rfl rfl rfl rfl rfl ?_
              refine am_raload_n rfl rfl rfl ?_
              refine am_rgetf (S1 := [.ref 120]) rfl rfl ?_
              refine am_raload_n rfl rfl rfl ?_
              have q276 := am_Rg11709 hI263.1.1
              refine am_rgetf (S1 := [am_iv (f261 11709), .ref 120]) rfl rfl ?_
              refine am_riload_n rfl rfl rfl ?_
              have q277 : (a261 120).length = 1200 := am_Rl120 (am_RL 120 rfl hI263.1.1)
              have i278 : am_ib (a261 120) (f261 11709) := by unfold am_ib; omega
              have hl279 : am_LR 120 ((a261 120).set (f261 11709).toNat b261) := am_RS120 (am_RL 120 rfl hI263.1.1) (by omega) (by omega)
              refine am_riastore (l := a261 120) (h1 := am_enc f261 (am_ud a261 120 ((a261 120).set (f261 11709).toNat b261)) w e) rfl am_ge120 i278 (am_sa120 _) ?_
              refine am_raload_n rfl rfl rfl ?_
              refine am_rdup rfl rfl ?_
              refine am_rgetf (S1 := [am_iv (f261 11709), .ref 117]) rfl rfl ?_
              refine am_riconst rfl ?_
              refine am_riadd rfl ?_
              refine am_rputf (S1 := []) (h1 := am_enc (am_ud f261 11709 ((f261 11709) + 1)) (am_ud a261 120 ((a261 120).set (f261 11709).toNat b261)) w e) rfl (am_pfB rfl am_ge117 rfl (am_sf11709 _)) (by rw [am_enc_len, am_enc_len]) ?_
              refine am_rgoto rfl rfl ?_
              have q280 := am_Rg11701 hI263.1.1
              have J281 : am_RV g h (am_ud f261 11709 ((f261 11709) + 1)) (am_ud a261 120 ((a261 120).set (f261 11709).toNat b261)) := by
                exact am_RV_app hI263 (by omega) (by omega) (by omega) (by omega)
              have m282 : am_mn fz az (am_ud f261 11709 ((f261 11709) + 1)) a261 := am_mn_f rfl rfl rfl hm266
              have m283 : am_mn fz az (am_ud f261 11709 ((f261 11709) + 1)) (am_ud a261 120 ((a261 120).set (f261 11709).toNat b261)) := am_mn_a rfl rfl m282
              have q284 := am_Rg11713 hI263.1.1
              have q285 := am_Rg11718 hI263.1.1
              have q286 := am_Rg11757 hI263.1.1
              have q287 := am_Rg11763 hI263.1.1
              have q288 := am_Rg11741 hI263.1.1
              have q289 := am_Rg11750 hI263.1.1
              have q290 := am_Rg11753 hI263.1.1
              exact am_T.drop (L1 := [(0, .ref 117), (1, am_iv x1), (2, am_iv x2)]) (ih (show (8 * (3500 - am_ph f261 a261 ) + 3 - (f261 11701)).toNat < n by omega) J281 m283 (show (-2147483648 ≤ x1 ∧ x1 ≤ 2147483647) by omega) (show (-2147483648 ≤ x2 ∧ x2 ≤ 2147483647) by omega) (show 0 ≤ x1 by omega) (show x1 ≤ 25 by omega) (show 0 ≤ x2 by omega) (show x2 ≤ ((f261 11709) + 1) by omega) (show am_at (a261 125) 0 ≤ x2 by omega) (show z11713 ≤ 16 * (f261 11701) by omega) qq (show (f261 11713) = z11713 by omega) (show (f261 11718) = z11718 by omega) (show (f261 11757) = z11757 by omega) (show (f261 11763) = z11763 by omega) (show (f261 11741) = z11741 by omega) (show (f261 11750) = z11750 by omega) (show (f261 11753) = z11753 by omega)) (by simp)
set_option maxRecDepth 100000 in
set_option maxHeartbeats 4000000 in
theorem am_ct140 {X : List Value} {w : Value} {e : Nat} {g : aF} {h : aA} {E : Nat → aF → aA → Prop} {d : Nat} {f : aF} {a : aA} (hd : 5 ≤ d) (hI : am_RV g h f a) (hp0 : f 11713 ≤ 16 * f 11701) :
    am_TE X d am_m139 0 (lv_args 0 [.ref 117]) [] f a w e (am_QV (fun f1 a1 => am_RV g h f1 a1 ∧ am_mn f a f1 a1 ∧ f1 11713 = (f 11713) ∧ f1 11718 = (f 11718) ∧ f1 11757 = (f 11757) ∧ f1 11763 = (f 11763) ∧ f1 11741 = (f 11741) ∧ f1 11750 = (f 11750) ∧ f1 11753 = (f 11753))) E := by
  obtain ⟨d, rfl⟩ : ∃ d0, d = d0 + 1 := ⟨d - 1, by omega⟩
  have q1 := am_RV_ph hI
  have q2 := am_RV_p0 hI
  have q3 := am_Rg11701 hI.1.1
  have q4 := am_Rg11713 hI.1.1
  have q20 := hI.2.2.1 0 (by omega) (by omega)
  have q12 := hI.2.2.2.2.2.2.2.2.2.2
  refine am_raload_n rfl rfl rfl ?_
  refine am_evirtualI (m := am_m121) (As := [.ref 117]) (S1 := []) rfl rfl rfl rfl rfl rfl rfl rfl rfl rfl (am_TE.int (am_ct122  (by omega) hI) (fun b5 f5 a5 hq6 => ?_) (fun _ _ _ h => h))
  obtain ⟨rfl, rfl, hq6⟩ := hq6
  refine am_rbipush rfl (by decide) ?_
  refine am_ric_ne rfl rfl (by unfold am_rg; omega) (by unfold am_rg; omega) (fun hc7 => ?_) (fun hc7 => ?_)
  · refine am_raload_n rfl rfl rfl ?_
    refine am_evirtualI (m := am_m127) (As := [.ref 117]) (S1 := []) rfl rfl rfl rfl rfl rfl rfl rfl rfl rfl (am_TE.int (am_ct128  (by omega) hI) (fun b8 f8 a8 hq9 => ?_) (fun _ _ _ h => h))
    obtain ⟨hI10, hk11, hq9⟩ := hq9
    replace hq9 : (-2147483648 ≤ b8 ∧ b8 ≤ 2147483647) ∧ f8 11713 = ((f 11713)) ∧ (am_ph f a ) + 1 ≤ am_ph f8 a8 + 1 * (f8 11701) ∧ (am_at (a 124) 0) + 1 ≤ am_at (a8 124) 0 + 1 * (f8 11701) + 1 * ((f 11713)) ∧ (0 ≤ b8 ∧ b8 ≤ 25) := hq9
    have mm12 : f 11701 ≤ f8 11701 ∧ am_ph f a ≤ am_ph f8 a8 ∧ am_at (a 124) 0 ≤ am_at (a8 124) 0 ∧ am_at (a8 125) 0 = am_at (a 125) 0 := hk11.1
    have hm13 := am_mn.trans (am_mn.refl f a) hk11.1
    have t14 : f8 11718 = f 11718 := hk11.2.1 11718 rfl
    have t15 : f8 11757 = f 11757 := hk11.2.1 11757 rfl
    have t16 : f8 11763 = f 11763 := hk11.2.1 11763 rfl
    have t17 : f8 11741 = f 11741 := hk11.2.1 11741 rfl
    have t18 : f8 11750 = f 11750 := hk11.2.1 11750 rfl
    have t19 : f8 11753 = f 11753 := hk11.2.1 11753 rfl
    have t20 : f8 11709 = f 11709 := hk11.2.1 11709 rfl
    have t21 : a8 121 = a 121 := hk11.2.2 121 rfl
    have t22 : a8 122 = a 122 := hk11.2.2 122 rfl
    refine am_ristore_n (L1 := [(0, .ref 117), (1, am_iv b8)]) rfl rfl rfl rfl rfl ?_
    refine am_raload_n rfl rfl rfl ?_
    refine am_evirtualV (m := am_m126) (As := [.ref 117]) (S1 := []) rfl rfl rfl rfl rfl rfl rfl rfl rfl rfl (am_TE.void (am_ct127  (by omega) hI10) (fun f23 a23 hq24 => ?_) (fun _ _ _ h => h))
    obtain ⟨hI25, hk26, hq24⟩ := hq24
    replace hq24 : f23 11713 = ((f8 11713)) ∧ (am_ph f8 a8 ) + 1 ≤ am_ph f23 a23 + 1 * (f23 11701) ∧ (am_at (a8 124) 0) + 1 ≤ am_at (a23 124) 0 + 1 * (f23 11701) + 1 * ((f8 11713)) := hq24
    have mm27 : f8 11701 ≤ f23 11701 ∧ am_ph f8 a8 ≤ am_ph f23 a23 ∧ am_at (a8 124) 0 ≤ am_at (a23 124) 0 ∧ am_at (a23 125) 0 = am_at (a8 125) 0 := hk26.1
    have hm28 := am_mn.trans hm13 hk26.1
    have t29 : f23 11718 = f8 11718 := hk26.2.1 11718 rfl
    have t30 : f23 11757 = f8 11757 := hk26.2.1 11757 rfl
    have t31 : f23 11763 = f8 11763 := hk26.2.1 11763 rfl
    have t32 : f23 11741 = f8 11741 := hk26.2.1 11741 rfl
    have t33 : f23 11750 = f8 11750 := hk26.2.1 11750 rfl
    have t34 : f23 11753 = f8 11753 := hk26.2.1 11753 rfl
    have t35 : f23 11709 = f8 11709 := hk26.2.1 11709 rfl
    have t36 : a23 121 = a8 121 := hk26.2.2 121 rfl
    have t37 : a23 122 = a8 122 := hk26.2.2 122 rfl
    refine am_raload_n rfl rfl rfl ?_
    refine am_evirtualV (m := am_m136) (As := [.ref 117]) (S1 := []) rfl rfl rfl rfl rfl rfl rfl rfl rfl rfl (am_TE.void (am_ct137  (by omega) hI25) (fun f38 a38 hq39 => ?_) (fun _ _ _ h => h))
    obtain ⟨hI40, hk41, hq39⟩ := hq39
    replace hq39 : f38 11713 = ((f23 11713)) := hq39
    have mm42 : f23 11701 ≤ f38 11701 ∧ am_ph f23 a23 ≤ am_ph f38 a38 ∧ am_at (a23 124) 0 ≤ am_at (a38 124) 0 ∧ am_at (a38 125) 0 = am_at (a23 125) 0 := hk41.1
    have hm43 := am_mn.trans hm28 hk41.1
    have t44 : f38 11718 = f23 11718 := hk41.2.1 11718 rfl
    have t45 : f38 11757 = f23 11757 := hk41.2.1 11757 rfl
    have t46 : f38 11763 = f23 11763 := hk41.2.1 11763 rfl
    have t47 : f38 11741 = f23 11741 := hk41.2.1 11741 rfl
    have t48 : f38 11750 = f23 11750 := hk41.2.1 11750 rfl
    have t49 : f38 11753 = f23 11753 := hk41.2.1 11753 rfl
    have t50 : f38 11709 = f23 11709 := hk41.2.1 11709 rfl
    have t51 : a38 121 = a23 121 := hk41.2.2 121 rfl
    have t52 : a38 122 = a23 122 := hk41.2.2 122 rfl
    refine am_raload_n rfl rfl rfl ?_
    have q53 := am_Rg11709 hI40.1.1
    refine am_rgetf (S1 := [am_iv (f38 11709)]) rfl rfl ?_
    refine am_ristore_n (L1 := [(0, .ref 117), (1, am_iv b8), (2, am_iv (f38 11709))]) rfl rfl rfl rfl rfl ?_
    refine am_raload_n rfl rfl rfl ?_
    refine am_rbipush rfl (by decide) ?_
    refine am_evirtualV (m := am_m123) (As := [.ref 117, am_iv 34]) (S1 := []) rfl rfl rfl rfl rfl rfl rfl rfl rfl rfl (am_TE.void (am_ct124 (y1 := 34) (by omega) hI40 (by omega) (show 0 ≤ 34 by omega)) (fun f54 a54 hq55 => ?_) (fun _ _ _ h => h))
    obtain ⟨hI56, hk57, hq55⟩ := hq55
    replace hq55 : f54 11713 = ((f38 11713)) ∧ (am_ph f38 a38 ) + 1 ≤ am_ph f54 a54 + 1 * (f54 11701) ∧ (am_at (a38 124) 0) + 1 ≤ am_at (a54 124) 0 + 1 * (f54 11701) + 1 * ((f38 11713)) := hq55
    have mm58 : f38 11701 ≤ f54 11701 ∧ am_ph f38 a38 ≤ am_ph f54 a54 ∧ am_at (a38 124) 0 ≤ am_at (a54 124) 0 ∧ am_at (a54 125) 0 = am_at (a38 125) 0 := hk57.1
    have hm59 := am_mn.trans hm43 hk57.1
    have t60 : f54 11718 = f38 11718 := hk57.2.1 11718 rfl
    have t61 : f54 11757 = f38 11757 := hk57.2.1 11757 rfl
    have t62 : f54 11763 = f38 11763 := hk57.2.1 11763 rfl
    have t63 : f54 11741 = f38 11741 := hk57.2.1 11741 rfl
    have t64 : f54 11750 = f38 11750 := hk57.2.1 11750 rfl
    have t65 : f54 11753 = f38 11753 := hk57.2.1 11753 rfl
    have t66 : f54 11709 = f38 11709 := hk57.2.1 11709 rfl
    have t67 : a54 121 = a38 121 := hk57.2.2 121 rfl
    have t68 : a54 122 = a38 122 := hk57.2.2 122 rfl
    have q69 := am_Rg11701 hI56.1.1
    have q70 := am_Rg11709 hI56.1.1
    have q71 := am_Rg11713 hI56.1.1
    have q72 := am_Rg11718 hI56.1.1
    have q73 := am_Rg11757 hI56.1.1
    have q74 := am_Rg11763 hI56.1.1
    have q75 := am_Rg11741 hI56.1.1
    have q76 := am_Rg11750 hI56.1.1
    have q77 := am_Rg11753 hI56.1.1
    exact am_ct140_38 hd (_ + 1) (Nat.lt_succ_self _) hI56 hm59 (by omega) (by omega) (by omega) (by omega) (by omega) (by omega) (by omega) (by omega) (am_q11_eq hI56.2.2.2.2.2.2.2.2.2.1 (by omega)) (by omega) (by omega) (by omega) (by omega) (by omega) (by omega) (by omega)
  · refine am_raload_n rfl rfl rfl ?_
    refine am_riconst rfl ?_
    refine am_evirtualV (m := am_m116) (As := [.ref 117, am_iv 3]) (S1 := []) rfl rfl rfl rfl rfl rfl rfl rfl rfl rfl (am_TE.void (am_ct117 (y1 := 3) (by omega) (by omega) (show 1 ≤ 3 by omega) (show 3 ≤ 3 by omega) (show 0 ≤ (f 11701) by omega) (show (f 11701) ≤ 3 by omega)) (fun f78 a78 hq79 => ?_) (fun _ _ _ h => h))
    obtain ⟨v80, rfl, rfl, hq79⟩ := hq79
    replace hq79 : 0 < v80 ∧ v80 ≤ 3 ∧ f 11701 ≤ v80 := hq79
    refine am_raload_n rfl rfl rfl ?_
    have J81 := am_Rf11701 (v := v80) hI (by omega) (by omega)
    refine am_evirtualI (m := am_m127) (As := [.ref 117]) (S1 := []) rfl rfl rfl rfl rfl rfl rfl rfl rfl rfl (am_TE.int (am_ct128  (by omega) J81) (fun b82 f82 a82 hq83 => ?_) (fun _ _ _ h => h))
    have m86 : am_mn f a (am_ud f 11701 v80) a := am_mn.halt (am_mn.refl f a) (by omega)
    obtain ⟨hI84, hk85, hq83⟩ := hq83
    replace hq83 : (-2147483648 ≤ b82 ∧ b82 ≤ 2147483647) ∧ f82 11713 = ((f 11713)) ∧ (am_ph f a ) + 1 ≤ am_ph f82 a82 + 1 * (f82 11701) ∧ (am_at (a 124) 0) + 1 ≤ am_at (a82 124) 0 + 1 * (f82 11701) + 1 * ((f 11713)) ∧ (0 ≤ b82 ∧ b82 ≤ 25) := hq83
    have mm87 : v80 ≤ f82 11701 ∧ am_ph f a ≤ am_ph f82 a82 ∧ am_at (a 124) 0 ≤ am_at (a82 124) 0 ∧ am_at (a82 125) 0 = am_at (a 125) 0 := hk85.1
    have hm88 := am_mn.trans m86 hk85.1
    have t89 : f82 11718 = f 11718 := hk85.2.1 11718 rfl
    have t90 : f82 11757 = f 11757 := hk85.2.1 11757 rfl
    have t91 : f82 11763 = f 11763 := hk85.2.1 11763 rfl
    have t92 : f82 11741 = f 11741 := hk85.2.1 11741 rfl
    have t93 : f82 11750 = f 11750 := hk85.2.1 11750 rfl
    have t94 : f82 11753 = f 11753 := hk85.2.1 11753 rfl
    have t95 : f82 11709 = f 11709 := hk85.2.1 11709 rfl
    have t96 : a82 121 = a 121 := hk85.2.2 121 rfl
    have t97 : a82 122 = a 122 := hk85.2.2 122 rfl
    refine am_ristore_n (L1 := [(0, .ref 117), (1, am_iv b82)]) rfl rfl rfl rfl rfl ?_
    refine am_raload_n rfl rfl rfl ?_
    refine am_evirtualV (m := am_m126) (As := [.ref 117]) (S1 := []) rfl rfl rfl rfl rfl rfl rfl rfl rfl rfl (am_TE.void (am_ct127  (by omega) hI84) (fun f98 a98 hq99 => ?_) (fun _ _ _ h => h))
    obtain ⟨hI100, hk101, hq99⟩ := hq99
    replace hq99 : f98 11713 = ((f82 11713)) ∧ (am_ph f82 a82 ) + 1 ≤ am_ph f98 a98 + 1 * (f98 11701) ∧ (am_at (a82 124) 0) + 1 ≤ am_at (a98 124) 0 + 1 * (f98 11701) + 1 * ((f82 11713)) := hq99
    have mm102 : f82 11701 ≤ f98 11701 ∧ am_ph f82 a82 ≤ am_ph f98 a98 ∧ am_at (a82 124) 0 ≤ am_at (a98 124) 0 ∧ am_at (a98 125) 0 = am_at (a82 125) 0 := hk101.1
    have hm103 := am_mn.trans hm88 hk101.1
    have t104 : f98 11718 = f82 11718 := hk101.2.1 11718 rfl
    have t105 : f98 11757 = f82 11757 := hk101.2.1 11757 rfl
    have t106 : f98 11763 = f82 11763 := hk101.2.1 11763 rfl
    have t107 : f98 11741 = f82 11741 := hk101.2.1 11741 rfl
    have t108 : f98 11750 = f82 11750 := hk101.2.1 11750 rfl
    have t109 : f98 11753 = f82 11753 := hk101.2.1 11753 rfl
    have t110 : f98 11709 = f82 11709 := hk101.2.1 11709 rfl
    have t111 : a98 121 = a82 121 := hk101.2.2 121 rfl
    have t112 : a98 122 = a82 122 := hk101.2.2 122 rfl
    refine am_raload_n rfl rfl rfl ?_
    refine am_evirtualV (m := am_m136) (As := [.ref 117]) (S1 := []) rfl rfl rfl rfl rfl rfl rfl rfl rfl rfl (am_TE.void (am_ct137  (by omega) hI100) (fun f113 a113 hq114 => ?_) (fun _ _ _ h => h))
    obtain ⟨hI115, hk116, hq114⟩ := hq114
    replace hq114 : f113 11713 = ((f98 11713)) := hq114
    have mm117 : f98 11701 ≤ f113 11701 ∧ am_ph f98 a98 ≤ am_ph f113 a113 ∧ am_at (a98 124) 0 ≤ am_at (a113 124) 0 ∧ am_at (a113 125) 0 = am_at (a98 125) 0 := hk116.1
    have hm118 := am_mn.trans hm103 hk116.1
    have t119 : f113 11718 = f98 11718 := hk116.2.1 11718 rfl
    have t120 : f113 11757 = f98 11757 := hk116.2.1 11757 rfl
    have t121 : f113 11763 = f98 11763 := hk116.2.1 11763 rfl
    have t122 : f113 11741 = f98 11741 := hk116.2.1 11741 rfl
    have t123 : f113 11750 = f98 11750 := hk116.2.1 11750 rfl
    have t124 : f113 11753 = f98 11753 := hk116.2.1 11753 rfl
    have t125 : f113 11709 = f98 11709 := hk116.2.1 11709 rfl
    have t126 : a113 121 = a98 121 := hk116.2.2 121 rfl
    have t127 : a113 122 = a98 122 := hk116.2.2 122 rfl
    refine am_raload_n rfl rfl rfl ?_
    have q128 := am_Rg11709 hI115.1.1
    refine am_rgetf (S1 := [am_iv (f113 11709)]) rfl rfl ?_
    refine am_ristore_n (L1 := [(0, .ref 117), (1, am_iv b82), (2, am_iv (f113 11709))]) rfl rfl rfl rfl rfl ?_
    refine am_raload_n rfl rfl rfl ?_
    refine am_rbipush rfl (by decide) ?_
    refine am_evirtualV (m := am_m123) (As := [.ref 117, am_iv 34]) (S1 := []) rfl rfl rfl rfl rfl rfl rfl rfl rfl rfl (am_TE.void (am_ct124 (y1 := 34) (by omega) hI115 (by omega) (show 0 ≤ 34 by omega)) (fun f129 a129 hq130 => ?_) (fun _ _ _ h => h))
    obtain ⟨hI131, hk132, hq130⟩ := hq130
    replace hq130 : f129 11713 = ((f113 11713)) ∧ (am_ph f113 a113 ) + 1 ≤ am_ph f129 a129 + 1 * (f129 11701) ∧ (am_at (a113 124) 0) + 1 ≤ am_at (a129 124) 0 + 1 * (f129 11701) + 1 * ((f113 11713)) := hq130
    have mm133 : f113 11701 ≤ f129 11701 ∧ am_ph f113 a113 ≤ am_ph f129 a129 ∧ am_at (a113 124) 0 ≤ am_at (a129 124) 0 ∧ am_at (a129 125) 0 = am_at (a113 125) 0 := hk132.1
    have hm134 := am_mn.trans hm118 hk132.1
    have t135 : f129 11718 = f113 11718 := hk132.2.1 11718 rfl
    have t136 : f129 11757 = f113 11757 := hk132.2.1 11757 rfl
    have t137 : f129 11763 = f113 11763 := hk132.2.1 11763 rfl
    have t138 : f129 11741 = f113 11741 := hk132.2.1 11741 rfl
    have t139 : f129 11750 = f113 11750 := hk132.2.1 11750 rfl
    have t140 : f129 11753 = f113 11753 := hk132.2.1 11753 rfl
    have t141 : f129 11709 = f113 11709 := hk132.2.1 11709 rfl
    have t142 : a129 121 = a113 121 := hk132.2.2 121 rfl
    have t143 : a129 122 = a113 122 := hk132.2.2 122 rfl
    have q144 := am_Rg11701 hI131.1.1
    have q145 := am_Rg11709 hI131.1.1
    have q146 := am_Rg11713 hI131.1.1
    have q147 := am_Rg11718 hI131.1.1
    have q148 := am_Rg11757 hI131.1.1
    have q149 := am_Rg11763 hI131.1.1
    have q150 := am_Rg11741 hI131.1.1
    have q151 := am_Rg11750 hI131.1.1
    have q152 := am_Rg11753 hI131.1.1
    exact am_ct140_38 hd (_ + 1) (Nat.lt_succ_self _) hI131 hm134 (by omega) (by omega) (by omega) (by omega) (by omega) (by omega) (by omega) (by omega) (am_q11_eq hI131.2.2.2.2.2.2.2.2.2.1 (by omega)) (by omega) (by omega) (by omega) (by omega) (by omega) (by omega) (by omega)
set_option maxRecDepth 100000 in
set_option maxHeartbeats 4000000 in
theorem am_ct139 {X : List Value} {w : Value} {e : Nat} {g : aF} {h : aA} {E : Nat → aF → aA → Prop} {d : Nat} {f : aF} {a : aA} (hd : 8 ≤ d) (hI : am_RV g h f a) (hp0 : f 11713 ≤ 16 * f 11701) :
    am_TE X d am_m138 0 (lv_args 0 [.ref 117]) [] f a w e (am_QV (fun f1 a1 => am_RV g h f1 a1 ∧ am_mn f a f1 a1 ∧ f1 11718 = (f 11718) ∧ f1 11757 = (f 11757) ∧ f1 11763 = (f 11763) ∧ (am_ph f a) + 1 ≤ am_ph f1 a1 + 1 * (f1 11701) ∧ (am_at (a 124) 0) + 1 ≤ am_at (a1 124) 0 + 1 * (f1 11701) + 1 * (f 11713) ∧ (f 11713) ≤ f1 11713 ∧ f1 11713 ≤ (f 11713) + 16 * f1 11701)) E := by
  obtain ⟨d, rfl⟩ : ∃ d0, d = d0 + 1 := ⟨d - 1, by omega⟩
  have q1 := am_RV_ph hI
  have q2 := am_RV_p0 hI
  have q3 := am_Rg11701 hI.1.1
  have q4 := am_Rg11713 hI.1.1
  refine am_raload_n rfl rfl rfl ?_
  refine am_rbipush rfl (by decide) ?_
  refine am_evirtualV (m := am_m123) (As := [.ref 117, am_iv 60]) (S1 := []) rfl rfl rfl rfl rfl rfl rfl rfl rfl rfl (am_TE.void (am_ct124 (y1 := 60) (by omega) hI (by omega) (show 0 ≤ 60 by omega)) (fun f5 a5 hq6 => ?_) (fun _ _ _ h => h))
  obtain ⟨hI7, hk8, hq6⟩ := hq6
  replace hq6 : f5 11713 = ((f 11713)) ∧ (am_ph f a ) + 1 ≤ am_ph f5 a5 + 1 * (f5 11701) ∧ (am_at (a 124) 0) + 1 ≤ am_at (a5 124) 0 + 1 * (f5 11701) + 1 * ((f 11713)) := hq6
  have mm9 : f 11701 ≤ f5 11701 ∧ am_ph f a ≤ am_ph f5 a5 ∧ am_at (a 124) 0 ≤ am_at (a5 124) 0 ∧ am_at (a5 125) 0 = am_at (a 125) 0 := hk8.1
  have hm10 := am_mn.trans (am_mn.refl f a) hk8.1
  have t11 : f5 11718 = f 11718 := hk8.2.1 11718 rfl
  have t12 : f5 11757 = f 11757 := hk8.2.1 11757 rfl
  have t13 : f5 11763 = f 11763 := hk8.2.1 11763 rfl
  refine am_raload_n rfl rfl rfl ?_
  refine am_rbipush rfl (by decide) ?_
  refine am_evirtualV (m := am_m123) (As := [.ref 117, am_iv 33]) (S1 := []) rfl rfl rfl rfl rfl rfl rfl rfl rfl rfl (am_TE.void (am_ct124 (y1 := 33) (by omega) hI7 (by omega) (show 0 ≤ 33 by omega)) (fun f14 a14 hq15 => ?_) (fun _ _ _ h => h))
  obtain ⟨hI16, hk17, hq15⟩ := hq15
  replace hq15 : f14 11713 = ((f5 11713)) ∧ (am_ph f5 a5 ) + 1 ≤ am_ph f14 a14 + 1 * (f14 11701) ∧ (am_at (a5 124) 0) + 1 ≤ am_at (a14 124) 0 + 1 * (f14 11701) + 1 * ((f5 11713)) := hq15
  have mm18 : f5 11701 ≤ f14 11701 ∧ am_ph f5 a5 ≤ am_ph f14 a14 ∧ am_at (a5 124) 0 ≤ am_at (a14 124) 0 ∧ am_at (a14 125) 0 = am_at (a5 125) 0 := hk17.1
  have hm19 := am_mn.trans hm10 hk17.1
  have t20 : f14 11718 = f5 11718 := hk17.2.1 11718 rfl
  have t21 : f14 11757 = f5 11757 := hk17.2.1 11757 rfl
  have t22 : f14 11763 = f5 11763 := hk17.2.1 11763 rfl
  refine am_raload_n rfl rfl rfl ?_
  refine am_evirtualI (m := am_m121) (As := [.ref 117]) (S1 := []) rfl rfl rfl rfl rfl rfl rfl rfl rfl rfl (am_TE.int (am_ct122  (by omega) hI16) (fun b23 f23 a23 hq24 => ?_) (fun _ _ _ h => h))
  obtain ⟨rfl, rfl, hq24⟩ := hq24
  refine am_rbipush rfl (by decide) ?_
  refine am_ric_ne rfl rfl (by unfold am_rg; omega) (by unfold am_rg; omega) (fun hc25 => ?_) (fun hc25 => ?_)
  · refine am_raload_n rfl rfl rfl ?_
    refine am_evirtualI (m := am_m121) (As := [.ref 117]) (S1 := []) rfl rfl rfl rfl rfl rfl rfl rfl rfl rfl (am_TE.int (am_ct122  (by omega) hI16) (fun b26 f26 a26 hq27 => ?_) (fun _ _ _ h => h))
    obtain ⟨rfl, rfl, hq27⟩ := hq27
    refine am_rbipush rfl (by decide) ?_
    refine am_ric_ne rfl rfl (by unfold am_rg; omega) (by unfold am_rg; omega) (fun hc28 => ?_) (fun hc28 => ?_)
    · refine am_raload_n rfl rfl rfl ?_
      refine am_rbipush rfl (by decide) ?_
      refine am_evirtualV (m := am_m123) (As := [.ref 117, am_iv 69]) (S1 := []) rfl rfl rfl rfl rfl rfl rfl rfl rfl rfl (am_TE.void (am_ct124 (y1 := 69) (by omega) hI16 (by omega) (show 0 ≤ 69 by omega)) (fun f29 a29 hq30 => ?_) (fun _ _ _ h => h))
      obtain ⟨hI31, hk32, hq30⟩ := hq30
      replace hq30 : f29 11713 = ((f14 11713)) ∧ (am_ph f14 a14 ) + 1 ≤ am_ph f29 a29 + 1 * (f29 11701) ∧ (am_at (a14 124) 0) + 1 ≤ am_at (a29 124) 0 + 1 * (f29 11701) + 1 * ((f14 11713)) := hq30
      have mm33 : f14 11701 ≤ f29 11701 ∧ am_ph f14 a14 ≤ am_ph f29 a29 ∧ am_at (a14 124) 0 ≤ am_at (a29 124) 0 ∧ am_at (a29 125) 0 = am_at (a14 125) 0 := hk32.1
      have hm34 := am_mn.trans hm19 hk32.1
      have t35 : f29 11718 = f14 11718 := hk32.2.1 11718 rfl
      have t36 : f29 11757 = f14 11757 := hk32.2.1 11757 rfl
      have t37 : f29 11763 = f14 11763 := hk32.2.1 11763 rfl
      refine am_raload_n rfl rfl rfl ?_
      refine am_evirtualI (m := am_m121) (As := [.ref 117]) (S1 := []) rfl rfl rfl rfl rfl rfl rfl rfl rfl rfl (am_TE.int (am_ct122  (by omega) hI31) (fun b38 f38 a38 hq39 => ?_) (fun _ _ _ h => h))
      obtain ⟨rfl, rfl, hq39⟩ := hq39
      refine am_rbipush rfl (by decide) ?_
      refine am_ric_ne rfl rfl (by unfold am_rg; omega) (by unfold am_rg; omega) (fun hc40 => ?_) (fun hc40 => ?_)
      · refine am_raload_n rfl rfl rfl ?_
        refine am_rldc2 rfl rfl ?_
        refine am_evirtualV (m := am_m124) (As := [.ref 117, .long (336421540953)]) (S1 := []) rfl rfl rfl rfl rfl rfl rfl rfl rfl rfl (am_TE.void (am_ct125 (y1 := 336421540953) (by omega) hI31 (by decide)) (fun f41 a41 hq42 => ?_) (fun _ _ _ h => h))
        obtain ⟨hI43, hk44, hq42⟩ := hq42
        replace hq42 : f41 11713 = ((f29 11713)) ∧ (am_ph f29 a29 ) + 1 ≤ am_ph f41 a41 + 1 * (f41 11701) ∧ (am_at (a29 124) 0) + 1 ≤ am_at (a41 124) 0 + 1 * (f41 11701) + 1 * ((f29 11713)) := hq42
        have mm45 : f29 11701 ≤ f41 11701 ∧ am_ph f29 a29 ≤ am_ph f41 a41 ∧ am_at (a29 124) 0 ≤ am_at (a41 124) 0 ∧ am_at (a41 125) 0 = am_at (a29 125) 0 := hk44.1
        have hm46 := am_mn.trans hm34 hk44.1
        have t47 : f41 11718 = f29 11718 := hk44.2.1 11718 rfl
        have t48 : f41 11757 = f29 11757 := hk44.2.1 11757 rfl
        have t49 : f41 11763 = f29 11763 := hk44.2.1 11763 rfl
        refine am_raload_n rfl rfl rfl ?_
        refine am_evirtualV (m := am_m126) (As := [.ref 117]) (S1 := []) rfl rfl rfl rfl rfl rfl rfl rfl rfl rfl (am_TE.void (am_ct127  (by omega) hI43) (fun f50 a50 hq51 => ?_) (fun _ _ _ h => h))
        obtain ⟨hI52, hk53, hq51⟩ := hq51
        replace hq51 : f50 11713 = ((f41 11713)) ∧ (am_ph f41 a41 ) + 1 ≤ am_ph f50 a50 + 1 * (f50 11701) ∧ (am_at (a41 124) 0) + 1 ≤ am_at (a50 124) 0 + 1 * (f50 11701) + 1 * ((f41 11713)) := hq51
        have mm54 : f41 11701 ≤ f50 11701 ∧ am_ph f41 a41 ≤ am_ph f50 a50 ∧ am_at (a41 124) 0 ≤ am_at (a50 124) 0 ∧ am_at (a50 125) 0 = am_at (a41 125) 0 := hk53.1
        have hm55 := am_mn.trans hm46 hk53.1
        have t56 : f50 11718 = f41 11718 := hk53.2.1 11718 rfl
        have t57 : f50 11757 = f41 11757 := hk53.2.1 11757 rfl
        have t58 : f50 11763 = f41 11763 := hk53.2.1 11763 rfl
        refine am_raload_n rfl rfl rfl ?_
        have q59 := am_Rg11701 hI52.1.1
        have q60 := am_Rg11713 hI52.1.1
        refine am_evirtualV (m := am_m139) (As := [.ref 117]) (S1 := []) rfl rfl rfl rfl rfl rfl rfl rfl rfl rfl (am_TE.void (am_ct140  (by omega) hI52 (show (f50 11713) ≤ 16 * (f50 11701) by omega)) (fun f61 a61 hq62 => ?_) (fun _ _ _ h => h))
        obtain ⟨hI63, hk64, hq62⟩ := hq62
        replace hq62 : f61 11713 = ((f50 11713)) ∧ f61 11718 = ((f50 11718)) ∧ f61 11757 = ((f50 11757)) ∧ f61 11763 = ((f50 11763)) ∧ f61 11741 = ((f50 11741)) ∧ f61 11750 = ((f50 11750)) ∧ f61 11753 = ((f50 11753)) := hq62
        have mm65 : f50 11701 ≤ f61 11701 ∧ am_ph f50 a50 ≤ am_ph f61 a61 ∧ am_at (a50 124) 0 ≤ am_at (a61 124) 0 ∧ am_at (a61 125) 0 = am_at (a50 125) 0 := hk64
        have hm66 := am_mn.trans hm55 hk64
        refine am_raload_n rfl rfl rfl ?_
        refine am_evirtualI (m := am_m125) (As := [.ref 117]) (S1 := []) rfl rfl rfl rfl rfl rfl rfl rfl rfl rfl (am_TE.int (am_ct126  (by omega) hI63) (fun b67 f67 a67 hq68 => ?_) (fun _ _ _ h => h))
        obtain ⟨hI69, hk70, hq68⟩ := hq68
        replace hq68 : (b67 = 0 ∨ b67 = 1) ∧ f67 11701 = ((f61 11701)) ∧ f67 11713 = ((f61 11713)) ∧ f67 11701 ≤ 3 - 3 * b67 ∧ (am_ph f61 a61 ) + b67 ≤ am_ph f67 a67 ∧ (am_at (a61 124) 0) + b67 ≤ am_at (a67 124) 0 + ((f61 11713)) := hq68
        have mm71 : f61 11701 ≤ f67 11701 ∧ am_ph f61 a61 ≤ am_ph f67 a67 ∧ am_at (a61 124) 0 ≤ am_at (a67 124) 0 ∧ am_at (a67 125) 0 = am_at (a61 125) 0 := hk70.1
        have hm72 := am_mn.trans hm66 hk70.1
        have t73 : f67 11718 = f61 11718 := hk70.2.1 11718 rfl
        have t74 : f67 11757 = f61 11757 := hk70.2.1 11757 rfl
        have t75 : f67 11763 = f61 11763 := hk70.2.1 11763 rfl
        refine am_rpop rfl rfl ?_
        refine am_raload_n rfl rfl rfl ?_
        refine am_rbipush rfl (by decide) ?_
        refine am_evirtualV (m := am_m123) (As := [.ref 117, am_iv 62]) (S1 := []) rfl rfl rfl rfl rfl rfl rfl rfl rfl rfl (am_TE.void (am_ct124 (y1 := 62) (by omega) hI69 (by omega) (show 0 ≤ 62 by omega)) (fun f76 a76 hq77 => ?_) (fun _ _ _ h => h))
        obtain ⟨hI78, hk79, hq77⟩ := hq77
        replace hq77 : f76 11713 = ((f67 11713)) ∧ (am_ph f67 a67 ) + 1 ≤ am_ph f76 a76 + 1 * (f76 11701) ∧ (am_at (a67 124) 0) + 1 ≤ am_at (a76 124) 0 + 1 * (f76 11701) + 1 * ((f67 11713)) := hq77
        have mm80 : f67 11701 ≤ f76 11701 ∧ am_ph f67 a67 ≤ am_ph f76 a76 ∧ am_at (a67 124) 0 ≤ am_at (a76 124) 0 ∧ am_at (a76 125) 0 = am_at (a67 125) 0 := hk79.1
        have hm81 := am_mn.trans hm72 hk79.1
        have t82 : f76 11718 = f67 11718 := hk79.2.1 11718 rfl
        have t83 : f76 11757 = f67 11757 := hk79.2.1 11757 rfl
        have t84 : f76 11763 = f67 11763 := hk79.2.1 11763 rfl
        have q85 := am_Rg11701 hI78.1.1
        have q86 := am_Rg11718 hI78.1.1
        have q87 := am_Rg11757 hI78.1.1
        have q88 := am_Rg11763 hI78.1.1
        have q89 := am_Rg11713 hI78.1.1
        exact am_eret rfl rfl ⟨hI78, hm81, (show f76 11718 = (f 11718) by omega), (show f76 11757 = (f 11757) by omega), (show f76 11763 = (f 11763) by omega), (show (am_ph f a) + 1 ≤ am_ph f76 a76 + 1 * (f76 11701) by omega), (show (am_at (a 124) 0) + 1 ≤ am_at (a76 124) 0 + 1 * (f76 11701) + 1 * (f 11713) by omega), (show (f 11713) ≤ f76 11713 by omega), (show f76 11713 ≤ (f 11713) + 16 * f76 11701 by omega)⟩
      · refine am_raload_n rfl rfl rfl ?_
        refine am_rldc2 rfl rfl ?_
        refine am_evirtualV (m := am_m124) (As := [.ref 117, .long (83860532842068)]) (S1 := []) rfl rfl rfl rfl rfl rfl rfl rfl rfl rfl (am_TE.void (am_ct125 (y1 := 83860532842068) (by omega) hI31 (by decide)) (fun f90 a90 hq91 => ?_) (fun _ _ _ h => h))
        obtain ⟨hI92, hk93, hq91⟩ := hq91
        replace hq91 : f90 11713 = ((f29 11713)) ∧ (am_ph f29 a29 ) + 1 ≤ am_ph f90 a90 + 1 * (f90 11701) ∧ (am_at (a29 124) 0) + 1 ≤ am_at (a90 124) 0 + 1 * (f90 11701) + 1 * ((f29 11713)) := hq91
        have mm94 : f29 11701 ≤ f90 11701 ∧ am_ph f29 a29 ≤ am_ph f90 a90 ∧ am_at (a29 124) 0 ≤ am_at (a90 124) 0 ∧ am_at (a90 125) 0 = am_at (a29 125) 0 := hk93.1
        have hm95 := am_mn.trans hm34 hk93.1
        have t96 : f90 11718 = f29 11718 := hk93.2.1 11718 rfl
        have t97 : f90 11757 = f29 11757 := hk93.2.1 11757 rfl
        have t98 : f90 11763 = f29 11763 := hk93.2.1 11763 rfl
        refine am_raload_n rfl rfl rfl ?_
        refine am_evirtualV (m := am_m126) (As := [.ref 117]) (S1 := []) rfl rfl rfl rfl rfl rfl rfl rfl rfl rfl (am_TE.void (am_ct127  (by omega) hI92) (fun f99 a99 hq100 => ?_) (fun _ _ _ h => h))
        obtain ⟨hI101, hk102, hq100⟩ := hq100
        replace hq100 : f99 11713 = ((f90 11713)) ∧ (am_ph f90 a90 ) + 1 ≤ am_ph f99 a99 + 1 * (f99 11701) ∧ (am_at (a90 124) 0) + 1 ≤ am_at (a99 124) 0 + 1 * (f99 11701) + 1 * ((f90 11713)) := hq100
        have mm103 : f90 11701 ≤ f99 11701 ∧ am_ph f90 a90 ≤ am_ph f99 a99 ∧ am_at (a90 124) 0 ≤ am_at (a99 124) 0 ∧ am_at (a99 125) 0 = am_at (a90 125) 0 := hk102.1
        have hm104 := am_mn.trans hm95 hk102.1
        have t105 : f99 11718 = f90 11718 := hk102.2.1 11718 rfl
        have t106 : f99 11757 = f90 11757 := hk102.2.1 11757 rfl
        have t107 : f99 11763 = f90 11763 := hk102.2.1 11763 rfl
        refine am_raload_n rfl rfl rfl ?_
        refine am_evirtualV (m := am_m145) (As := [.ref 117]) (S1 := []) rfl rfl rfl rfl rfl rfl rfl rfl rfl rfl (am_TE.void (am_ct146  (by omega) hI101) (fun f108 a108 hq109 => ?_) (fun _ _ _ h => h))
        obtain ⟨hI110, hk111, hq109⟩ := hq109
        replace hq109 : f108 11713 = ((f99 11713)) ∧ f108 11709 = ((f99 11709)) ∧ f108 11718 = ((f99 11718)) ∧ f108 11741 = ((f99 11741)) ∧ f108 11750 = ((f99 11750)) ∧ f108 11753 = ((f99 11753)) ∧ f108 11757 = ((f99 11757)) ∧ f108 11763 = ((f99 11763)) := hq109
        have mm112 : f99 11701 ≤ f108 11701 ∧ am_ph f99 a99 ≤ am_ph f108 a108 ∧ am_at (a99 124) 0 ≤ am_at (a108 124) 0 ∧ am_at (a108 125) 0 = am_at (a99 125) 0 := hk111
        have hm113 := am_mn.trans hm104 hk111
        refine am_rgoto rfl rfl ?_
        refine am_raload_n rfl rfl rfl ?_
        refine am_evirtualI (m := am_m125) (As := [.ref 117]) (S1 := []) rfl rfl rfl rfl rfl rfl rfl rfl rfl rfl (am_TE.int (am_ct126  (by omega) hI110) (fun b114 f114 a114 hq115 => ?_) (fun _ _ _ h => h))
        obtain ⟨hI116, hk117, hq115⟩ := hq115
        replace hq115 : (b114 = 0 ∨ b114 = 1) ∧ f114 11701 = ((f108 11701)) ∧ f114 11713 = ((f108 11713)) ∧ f114 11701 ≤ 3 - 3 * b114 ∧ (am_ph f108 a108 ) + b114 ≤ am_ph f114 a114 ∧ (am_at (a108 124) 0) + b114 ≤ am_at (a114 124) 0 + ((f108 11713)) := hq115
        have mm118 : f108 11701 ≤ f114 11701 ∧ am_ph f108 a108 ≤ am_ph f114 a114 ∧ am_at (a108 124) 0 ≤ am_at (a114 124) 0 ∧ am_at (a114 125) 0 = am_at (a108 125) 0 := hk117.1
        have hm119 := am_mn.trans hm113 hk117.1
        have t120 : f114 11718 = f108 11718 := hk117.2.1 11718 rfl
        have t121 : f114 11757 = f108 11757 := hk117.2.1 11757 rfl
        have t122 : f114 11763 = f108 11763 := hk117.2.1 11763 rfl
        refine am_rpop rfl rfl ?_
        refine am_raload_n rfl rfl rfl ?_
        refine am_rbipush rfl (by decide) ?_
        refine am_evirtualV (m := am_m123) (As := [.ref 117, am_iv 62]) (S1 := []) rfl rfl rfl rfl rfl rfl rfl rfl rfl rfl (am_TE.void (am_ct124 (y1 := 62) (by omega) hI116 (by omega) (show 0 ≤ 62 by omega)) (fun f123 a123 hq124 => ?_) (fun _ _ _ h => h))
        obtain ⟨hI125, hk126, hq124⟩ := hq124
        replace hq124 : f123 11713 = ((f114 11713)) ∧ (am_ph f114 a114 ) + 1 ≤ am_ph f123 a123 + 1 * (f123 11701) ∧ (am_at (a114 124) 0) + 1 ≤ am_at (a123 124) 0 + 1 * (f123 11701) + 1 * ((f114 11713)) := hq124
        have mm127 : f114 11701 ≤ f123 11701 ∧ am_ph f114 a114 ≤ am_ph f123 a123 ∧ am_at (a114 124) 0 ≤ am_at (a123 124) 0 ∧ am_at (a123 125) 0 = am_at (a114 125) 0 := hk126.1
        have hm128 := am_mn.trans hm119 hk126.1
        have t129 : f123 11718 = f114 11718 := hk126.2.1 11718 rfl
        have t130 : f123 11757 = f114 11757 := hk126.2.1 11757 rfl
        have t131 : f123 11763 = f114 11763 := hk126.2.1 11763 rfl
        have q132 := am_Rg11701 hI125.1.1
        have q133 := am_Rg11718 hI125.1.1
        have q134 := am_Rg11757 hI125.1.1
        have q135 := am_Rg11763 hI125.1.1
        have q136 := am_Rg11713 hI125.1.1
        exact am_eret rfl rfl ⟨hI125, hm128, (show f123 11718 = (f 11718) by omega), (show f123 11757 = (f 11757) by omega), (show f123 11763 = (f 11763) by omega), (show (am_ph f a) + 1 ≤ am_ph f123 a123 + 1 * (f123 11701) by omega), (show (am_at (a 124) 0) + 1 ≤ am_at (a123 124) 0 + 1 * (f123 11701) + 1 * (f 11713) by omega), (show (f 11713) ≤ f123 11713 by omega), (show f123 11713 ≤ (f 11713) + 16 * f123 11701 by omega)⟩
    · refine am_raload_n rfl rfl rfl ?_
      refine am_rldc2 rfl rfl ?_
      refine am_evirtualV (m := am_m124) (As := [.ref 117, .long (18388594520052564)]) (S1 := []) rfl rfl rfl rfl rfl rfl rfl rfl rfl rfl (am_TE.void (am_ct125 (y1 := 18388594520052564) (by omega) hI16 (by decide)) (fun f137 a137 hq138 => ?_) (fun _ _ _ h => h))
      obtain ⟨hI139, hk140, hq138⟩ := hq138
      replace hq138 : f137 11713 = ((f14 11713)) ∧ (am_ph f14 a14 ) + 1 ≤ am_ph f137 a137 + 1 * (f137 11701) ∧ (am_at (a14 124) 0) + 1 ≤ am_at (a137 124) 0 + 1 * (f137 11701) + 1 * ((f14 11713)) := hq138
      have mm141 : f14 11701 ≤ f137 11701 ∧ am_ph f14 a14 ≤ am_ph f137 a137 ∧ am_at (a14 124) 0 ≤ am_at (a137 124) 0 ∧ am_at (a137 125) 0 = am_at (a14 125) 0 := hk140.1
      have hm142 := am_mn.trans hm19 hk140.1
      have t143 : f137 11718 = f14 11718 := hk140.2.1 11718 rfl
      have t144 : f137 11757 = f14 11757 := hk140.2.1 11757 rfl
      have t145 : f137 11763 = f14 11763 := hk140.2.1 11763 rfl
      refine am_raload_n rfl rfl rfl ?_
      refine am_evirtualV (m := am_m126) (As := [.ref 117]) (S1 := []) rfl rfl rfl rfl rfl rfl rfl rfl rfl rfl (am_TE.void (am_ct127  (by omega) hI139) (fun f146 a146 hq147 => ?_) (fun _ _ _ h => h))
      obtain ⟨hI148, hk149, hq147⟩ := hq147
      replace hq147 : f146 11713 = ((f137 11713)) ∧ (am_ph f137 a137 ) + 1 ≤ am_ph f146 a146 + 1 * (f146 11701) ∧ (am_at (a137 124) 0) + 1 ≤ am_at (a146 124) 0 + 1 * (f146 11701) + 1 * ((f137 11713)) := hq147
      have mm150 : f137 11701 ≤ f146 11701 ∧ am_ph f137 a137 ≤ am_ph f146 a146 ∧ am_at (a137 124) 0 ≤ am_at (a146 124) 0 ∧ am_at (a146 125) 0 = am_at (a137 125) 0 := hk149.1
      have hm151 := am_mn.trans hm142 hk149.1
      have t152 : f146 11718 = f137 11718 := hk149.2.1 11718 rfl
      have t153 : f146 11757 = f137 11757 := hk149.2.1 11757 rfl
      have t154 : f146 11763 = f137 11763 := hk149.2.1 11763 rfl
      refine am_raload_n rfl rfl rfl ?_
      have q155 := am_Rg11701 hI148.1.1
      have q156 := am_Rg11713 hI148.1.1
      refine am_evirtualV (m := am_m142) (As := [.ref 117]) (S1 := []) rfl rfl rfl rfl rfl rfl rfl rfl rfl rfl (am_TE.void (am_ct143  (by omega) hI148 (show (f146 11713) ≤ 16 * (f146 11701) by omega)) (fun f157 a157 hq158 => ?_) (fun _ _ _ h => h))
      obtain ⟨hI159, hk160, hq158⟩ := hq158
      replace hq158 : f157 11718 = ((f146 11718)) ∧ f157 11757 = ((f146 11757)) ∧ f157 11763 = ((f146 11763)) ∧ ((f146 11713)) ≤ f157 11713 ∧ f157 11713 ≤ ((f146 11713)) + 16 * f157 11701 := hq158
      have mm161 : f146 11701 ≤ f157 11701 ∧ am_ph f146 a146 ≤ am_ph f157 a157 ∧ am_at (a146 124) 0 ≤ am_at (a157 124) 0 ∧ am_at (a157 125) 0 = am_at (a146 125) 0 := hk160
      have hm162 := am_mn.trans hm151 hk160
      refine am_rgoto rfl rfl ?_
      refine am_raload_n rfl rfl rfl ?_
      refine am_rbipush rfl (by decide) ?_
      refine am_evirtualV (m := am_m123) (As := [.ref 117, am_iv 62]) (S1 := []) rfl rfl rfl rfl rfl rfl rfl rfl rfl rfl (am_TE.void (am_ct124 (y1 := 62) (by omega) hI159 (by omega) (show 0 ≤ 62 by omega)) (fun f163 a163 hq164 => ?_) (fun _ _ _ h => h))
      obtain ⟨hI165, hk166, hq164⟩ := hq164
      replace hq164 : f163 11713 = ((f157 11713)) ∧ (am_ph f157 a157 ) + 1 ≤ am_ph f163 a163 + 1 * (f163 11701) ∧ (am_at (a157 124) 0) + 1 ≤ am_at (a163 124) 0 + 1 * (f163 11701) + 1 * ((f157 11713)) := hq164
      have mm167 : f157 11701 ≤ f163 11701 ∧ am_ph f157 a157 ≤ am_ph f163 a163 ∧ am_at (a157 124) 0 ≤ am_at (a163 124) 0 ∧ am_at (a163 125) 0 = am_at (a157 125) 0 := hk166.1
      have hm168 := am_mn.trans hm162 hk166.1
      have t169 : f163 11718 = f157 11718 := hk166.2.1 11718 rfl
      have t170 : f163 11757 = f157 11757 := hk166.2.1 11757 rfl
      have t171 : f163 11763 = f157 11763 := hk166.2.1 11763 rfl
      have q172 := am_Rg11701 hI165.1.1
      have q173 := am_Rg11718 hI165.1.1
      have q174 := am_Rg11757 hI165.1.1
      have q175 := am_Rg11763 hI165.1.1
      have q176 := am_Rg11713 hI165.1.1
      exact am_eret rfl rfl ⟨hI165, hm168, (show f163 11718 = (f 11718) by omega), (show f163 11757 = (f 11757) by omega), (show f163 11763 = (f 11763) by omega), (show (am_ph f a) + 1 ≤ am_ph f163 a163 + 1 * (f163 11701) by omega), (show (am_at (a 124) 0) + 1 ≤ am_at (a163 124) 0 + 1 * (f163 11701) + 1 * (f 11713) by omega), (show (f 11713) ≤ f163 11713 by omega), (show f163 11713 ≤ (f 11713) + 16 * f163 11701 by omega)⟩
  · refine am_raload_n rfl rfl rfl ?_
    refine am_evirtualV (m := am_m128) (As := [.ref 117]) (S1 := []) rfl rfl rfl rfl rfl rfl rfl rfl rfl rfl (am_TE.void (am_ct129  (by omega) hI16) (fun f177 a177 hq178 => ?_) (fun _ _ _ h => h))
    obtain ⟨hI179, hk180, hq178⟩ := hq178
    replace hq178 : f177 11713 = ((f14 11713)) := hq178
    have mm181 : f14 11701 ≤ f177 11701 ∧ am_ph f14 a14 ≤ am_ph f177 a177 ∧ am_at (a14 124) 0 ≤ am_at (a177 124) 0 ∧ am_at (a177 125) 0 = am_at (a14 125) 0 := hk180.1
    have hm182 := am_mn.trans hm19 hk180.1
    have t183 : f177 11718 = f14 11718 := hk180.2.1 11718 rfl
    have t184 : f177 11757 = f14 11757 := hk180.2.1 11757 rfl
    have t185 : f177 11763 = f14 11763 := hk180.2.1 11763 rfl
    have q186 := am_Rg11701 hI179.1.1
    have q187 := am_Rg11718 hI179.1.1
    have q188 := am_Rg11757 hI179.1.1
    have q189 := am_Rg11763 hI179.1.1
    have q190 := am_Rg11713 hI179.1.1
    exact am_eret rfl rfl ⟨hI179, hm182, (show f177 11718 = (f 11718) by omega), (show f177 11757 = (f 11757) by omega), (show f177 11763 = (f 11763) by omega), (show (am_ph f a) + 1 ≤ am_ph f177 a177 + 1 * (f177 11701) by omega), (show (am_at (a 124) 0) + 1 ≤ am_at (a177 124) 0 + 1 * (f177 11701) + 1 * (f 11713) by omega), (show (f 11713) ≤ f177 11713 by omega), (show f177 11713 ≤ (f 11713) + 16 * f177 11701 by omega)⟩
set_option maxRecDepth 100000 in
set_option maxHeartbeats 4000000 in
theorem am_ct138_47 {X : List Value} {w : Value} {e : Nat} {g : aF} {h : aA} {E : Nat → aF → aA → Prop} {d : Nat} {z11718 : Int} {z11757 : Int} {z11763 : Int} {z11713 : Int} {fz : aF} {az : aA} (hd : 9 ≤ d + 1) (n : Nat) :
    ∀ {f : aF} {a : aA}, (8 * (3500 - am_ph f a) + 3 - f 11701).toNat < n → am_RV g h f a → am_mn fz az f a → z11713 ≤ 16 * f 11701 → z11713 ≤ f 11713 → f 11713 ≤ z11713 + 16 * f 11701 → f 11718 = z11718 → f 11757 = z11757 → f 11763 = z11763 → am_TE X (d + 1) am_m137 47 [(0, .ref 117)] [] f a w e (am_QV (fun f1 a1 => am_RV g h f1 a1 ∧ am_mn fz az f1 a1 ∧ f1 11718 = z11718 ∧ f1 11757 = z11757 ∧ f1 11763 = z11763 ∧ z11713 ≤ f1 11713 ∧ f1 11713 ≤ z11713 + 16 * f1 11701)) E := by
  induction n with
  | zero => intros; omega
  | succ n ih =>
    intro f a  hn hI hp0 hp1 hp2 hp3 hp4 hp5 hp6
    have q1 := am_RV_ph hI
    have q2 := am_RV_p0 hI
    have q3 := am_Rg11701 hI.1.1
    have q4 := am_Rg11713 hI.1.1
    have q5 := am_Rg11718 hI.1.1
    have q6 := am_Rg11757 hI.1.1
    have q7 := am_Rg11763 hI.1.1
    refine am_raload_n rfl rfl rfl ?_
    refine am_evirtualI (m := am_m121) (As := [.ref 117]) (S1 := []) rfl rfl rfl rfl rfl rfl rfl rfl rfl rfl (am_TE.int (am_ct122  (by omega) hI) (fun b8 f8 a8 hq9 => ?_) (fun _ _ _ h => h))
    obtain ⟨rfl, rfl, hq9⟩ := hq9
    refine am_rbipush rfl (by decide) ?_
    refine am_ric_eq rfl rfl (by unfold am_rg; omega) (by unfold am_rg; omega) (fun hc10 => ?_) (fun hc10 => ?_)
    · refine am_raload_n rfl rfl rfl ?_
      refine am_rbipush rfl (by decide) ?_
      refine am_evirtualV (m := am_m123) (As := [.ref 117, am_iv 93]) (S1 := []) rfl rfl rfl rfl rfl rfl rfl rfl rfl rfl (am_TE.void (am_ct124 (y1 := 93) (by omega) hI (by omega) (show 0 ≤ 93 by omega)) (fun f11 a11 hq12 => ?_) (fun _ _ _ h => h))
      obtain ⟨hI13, hk14, hq12⟩ := hq12
      replace hq12 : f11 11713 = ((f 11713)) ∧ (am_ph f a ) + 1 ≤ am_ph f11 a11 + 1 * (f11 11701) ∧ (am_at (a 124) 0) + 1 ≤ am_at (a11 124) 0 + 1 * (f11 11701) + 1 * ((f 11713)) := hq12
      have mm15 : f 11701 ≤ f11 11701 ∧ am_ph f a ≤ am_ph f11 a11 ∧ am_at (a 124) 0 ≤ am_at (a11 124) 0 ∧ am_at (a11 125) 0 = am_at (a 125) 0 := hk14.1
      have hm16 := am_mn.trans hp0 hk14.1
      have t17 : f11 11718 = f 11718 := hk14.2.1 11718 rfl
      have t18 : f11 11757 = f 11757 := hk14.2.1 11757 rfl
      have t19 : f11 11763 = f 11763 := hk14.2.1 11763 rfl
      refine am_raload_n rfl rfl rfl ?_
      refine am_evirtualI (m := am_m125) (As := [.ref 117]) (S1 := []) rfl rfl rfl rfl rfl rfl rfl rfl rfl rfl (am_TE.int (am_ct126  (by omega) hI13) (fun b20 f20 a20 hq21 => ?_) (fun _ _ _ h => h))
      obtain ⟨hI22, hk23, hq21⟩ := hq21
      replace hq21 : (b20 = 0 ∨ b20 = 1) ∧ f20 11701 = ((f11 11701)) ∧ f20 11713 = ((f11 11713)) ∧ f20 11701 ≤ 3 - 3 * b20 ∧ (am_ph f11 a11 ) + b20 ≤ am_ph f20 a20 ∧ (am_at (a11 124) 0) + b20 ≤ am_at (a20 124) 0 + ((f11 11713)) := hq21
      have mm24 : f11 11701 ≤ f20 11701 ∧ am_ph f11 a11 ≤ am_ph f20 a20 ∧ am_at (a11 124) 0 ≤ am_at (a20 124) 0 ∧ am_at (a20 125) 0 = am_at (a11 125) 0 := hk23.1
      have hm25 := am_mn.trans hm16 hk23.1
      have t26 : f20 11718 = f11 11718 := hk23.2.1 11718 rfl
      have t27 : f20 11757 = f11 11757 := hk23.2.1 11757 rfl
      have t28 : f20 11763 = f11 11763 := hk23.2.1 11763 rfl
      refine am_rpop rfl rfl ?_
      refine am_raload_n rfl rfl rfl ?_
      refine am_rbipush rfl (by decide) ?_
      refine am_evirtualV (m := am_m123) (As := [.ref 117, am_iv 62]) (S1 := []) rfl rfl rfl rfl rfl rfl rfl rfl rfl rfl (am_TE.void (am_ct124 (y1 := 62) (by omega) hI22 (by omega) (show 0 ≤ 62 by omega)) (fun f29 a29 hq30 => ?_) (fun _ _ _ h => h))
      obtain ⟨hI31, hk32, hq30⟩ := hq30
      replace hq30 : f29 11713 = ((f20 11713)) ∧ (am_ph f20 a20 ) + 1 ≤ am_ph f29 a29 + 1 * (f29 11701) ∧ (am_at (a20 124) 0) + 1 ≤ am_at (a29 124) 0 + 1 * (f29 11701) + 1 * ((f20 11713)) := hq30
      have mm33 : f20 11701 ≤ f29 11701 ∧ am_ph f20 a20 ≤ am_ph f29 a29 ∧ am_at (a20 124) 0 ≤ am_at (a29 124) 0 ∧ am_at (a29 125) 0 = am_at (a20 125) 0 := hk32.1
      have hm34 := am_mn.trans hm25 hk32.1
      have t35 : f29 11718 = f20 11718 := hk32.2.1 11718 rfl
      have t36 : f29 11757 = f20 11757 := hk32.2.1 11757 rfl
      have t37 : f29 11763 = f20 11763 := hk32.2.1 11763 rfl
      refine am_raload_n rfl rfl rfl ?_
      refine am_riconst rfl ?_
      refine am_rputf (S1 := []) (h1 := am_enc (am_ud f29 11723 1) a29 w e) rfl (am_pfB rfl am_ge117 rfl (am_sf11723 _)) (by rw [am_enc_len, am_enc_len]) ?_
      have q38 := am_Rg11701 hI31.1.1
      have J39 := am_Rf11723 (v := 1) hI31 (by omega) (by omega)
      have m40 : am_mn fz az (am_ud f29 11723 1) a29 := am_mn_f rfl rfl rfl hm34
      have q41 := am_Rg11718 hI31.1.1
      have q42 := am_Rg11757 hI31.1.1
      have q43 := am_Rg11763 hI31.1.1
      have q44 := am_Rg11713 hI31.1.1
      exact am_eret rfl rfl ⟨J39, m40, (show f29 11718 = z11718 by omega), (show f29 11757 = z11757 by omega), (show f29 11763 = z11763 by omega), (show z11713 ≤ f29 11713 by omega), (show f29 11713 ≤ z11713 + 16 * f29 11701 by omega)⟩
    · refine am_raload_n rfl rfl rfl ?_
      refine am_rgetf (S1 := [am_iv (f 11701)]) rfl rfl ?_
      refine am_rif_ne rfl rfl (by unfold am_rg; omega) (fun hc45 => ?_) (fun hc45 => ?_)
      · refine am_raload_n rfl rfl rfl ?_
        refine am_rbipush rfl (by decide) ?_
        refine am_evirtualV (m := am_m123) (As := [.ref 117, am_iv 93]) (S1 := []) rfl rfl rfl rfl rfl rfl rfl rfl rfl rfl (am_TE.void (am_ct124 (y1 := 93) (by omega) hI (by omega) (show 0 ≤ 93 by omega)) (fun f46 a46 hq47 => ?_) (fun _ _ _ h => h))
        obtain ⟨hI48, hk49, hq47⟩ := hq47
        replace hq47 : f46 11713 = ((f 11713)) ∧ (am_ph f a ) + 1 ≤ am_ph f46 a46 + 1 * (f46 11701) ∧ (am_at (a 124) 0) + 1 ≤ am_at (a46 124) 0 + 1 * (f46 11701) + 1 * ((f 11713)) := hq47
        have mm50 : f 11701 ≤ f46 11701 ∧ am_ph f a ≤ am_ph f46 a46 ∧ am_at (a 124) 0 ≤ am_at (a46 124) 0 ∧ am_at (a46 125) 0 = am_at (a 125) 0 := hk49.1
        have hm51 := am_mn.trans hp0 hk49.1
        have t52 : f46 11718 = f 11718 := hk49.2.1 11718 rfl
        have t53 : f46 11757 = f 11757 := hk49.2.1 11757 rfl
        have t54 : f46 11763 = f 11763 := hk49.2.1 11763 rfl
        refine am_raload_n rfl rfl rfl ?_
        refine am_evirtualI (m := am_m125) (As := [.ref 117]) (S1 := []) rfl rfl rfl rfl rfl rfl rfl rfl rfl rfl (am_TE.int (am_ct126  (by omega) hI48) (fun b55 f55 a55 hq56 => ?_) (fun _ _ _ h => h))
        obtain ⟨hI57, hk58, hq56⟩ := hq56
        replace hq56 : (b55 = 0 ∨ b55 = 1) ∧ f55 11701 = ((f46 11701)) ∧ f55 11713 = ((f46 11713)) ∧ f55 11701 ≤ 3 - 3 * b55 ∧ (am_ph f46 a46 ) + b55 ≤ am_ph f55 a55 ∧ (am_at (a46 124) 0) + b55 ≤ am_at (a55 124) 0 + ((f46 11713)) := hq56
        have mm59 : f46 11701 ≤ f55 11701 ∧ am_ph f46 a46 ≤ am_ph f55 a55 ∧ am_at (a46 124) 0 ≤ am_at (a55 124) 0 ∧ am_at (a55 125) 0 = am_at (a46 125) 0 := hk58.1
        have hm60 := am_mn.trans hm51 hk58.1
        have t61 : f55 11718 = f46 11718 := hk58.2.1 11718 rfl
        have t62 : f55 11757 = f46 11757 := hk58.2.1 11757 rfl
        have t63 : f55 11763 = f46 11763 := hk58.2.1 11763 rfl
        refine am_rpop rfl rfl ?_
        refine am_raload_n rfl rfl rfl ?_
        refine am_rbipush rfl (by decide) ?_
        refine am_evirtualV (m := am_m123) (As := [.ref 117, am_iv 62]) (S1 := []) rfl rfl rfl rfl rfl rfl rfl rfl rfl rfl (am_TE.void (am_ct124 (y1 := 62) (by omega) hI57 (by omega) (show 0 ≤ 62 by omega)) (fun f64 a64 hq65 => ?_) (fun _ _ _ h => h))
        obtain ⟨hI66, hk67, hq65⟩ := hq65
        replace hq65 : f64 11713 = ((f55 11713)) ∧ (am_ph f55 a55 ) + 1 ≤ am_ph f64 a64 + 1 * (f64 11701) ∧ (am_at (a55 124) 0) + 1 ≤ am_at (a64 124) 0 + 1 * (f64 11701) + 1 * ((f55 11713)) := hq65
        have mm68 : f55 11701 ≤ f64 11701 ∧ am_ph f55 a55 ≤ am_ph f64 a64 ∧ am_at (a55 124) 0 ≤ am_at (a64 124) 0 ∧ am_at (a64 125) 0 = am_at (a55 125) 0 := hk67.1
        have hm69 := am_mn.trans hm60 hk67.1
        have t70 : f64 11718 = f55 11718 := hk67.2.1 11718 rfl
        have t71 : f64 11757 = f55 11757 := hk67.2.1 11757 rfl
        have t72 : f64 11763 = f55 11763 := hk67.2.1 11763 rfl
        refine am_raload_n rfl rfl rfl ?_
        refine am_riconst rfl ?_
        refine am_rputf (S1 := []) (h1 := am_enc (am_ud f64 11723 1) a64 w e) rfl (am_pfB rfl am_ge117 rfl (am_sf11723 _)) (by rw [am_enc_len, am_enc_len]) ?_
        have q73 := am_Rg11701 hI66.1.1
        have J74 := am_Rf11723 (v := 1) hI66 (by omega) (by omega)
        have m75 : am_mn fz az (am_ud f64 11723 1) a64 := am_mn_f rfl rfl rfl hm69
        have q76 := am_Rg11718 hI66.1.1
        have q77 := am_Rg11757 hI66.1.1
        have q78 := am_Rg11763 hI66.1.1
        have q79 := am_Rg11713 hI66.1.1
        exact am_eret rfl rfl ⟨J74, m75, (show f64 11718 = z11718 by omega), (show f64 11757 = z11757 by omega), (show f64 11763 = z11763 by omega), (show z11713 ≤ f64 11713 by omega), (show f64 11713 ≤ z11713 + 16 * f64 11701 by omega)⟩
      · refine am_raload_n rfl rfl rfl ?_
        refine am_evirtualI (m := am_m125) (As := [.ref 117]) (S1 := []) rfl rfl rfl rfl rfl rfl rfl rfl rfl rfl (am_TE.int (am_ct126  (by omega) hI) (fun b80 f80 a80 hq81 => ?_) (fun _ _ _ h => h))
        obtain ⟨hI82, hk83, hq81⟩ := hq81
        replace hq81 : (b80 = 0 ∨ b80 = 1) ∧ f80 11701 = ((f 11701)) ∧ f80 11713 = ((f 11713)) ∧ f80 11701 ≤ 3 - 3 * b80 ∧ (am_ph f a ) + b80 ≤ am_ph f80 a80 ∧ (am_at (a 124) 0) + b80 ≤ am_at (a80 124) 0 + ((f 11713)) := hq81
        have mm84 : f 11701 ≤ f80 11701 ∧ am_ph f a ≤ am_ph f80 a80 ∧ am_at (a 124) 0 ≤ am_at (a80 124) 0 ∧ am_at (a80 125) 0 = am_at (a 125) 0 := hk83.1
        have hm85 := am_mn.trans hp0 hk83.1
        have t86 : f80 11718 = f 11718 := hk83.2.1 11718 rfl
        have t87 : f80 11757 = f 11757 := hk83.2.1 11757 rfl
        have t88 : f80 11763 = f 11763 := hk83.2.1 11763 rfl
        refine am_rif_ne rfl rfl (by unfold am_rg; omega) (fun hc89 => ?_) (fun hc89 => ?_)
        · have q90 := am_Rg11701 hI82.1.1
          have q91 := am_Rg11713 hI82.1.1
          have q92 := am_Rg11718 hI82.1.1
          have q93 := am_Rg11757 hI82.1.1
          have q94 := am_Rg11763 hI82.1.1
          exact ih (by omega) hI82 hm85 (by omega) (by omega) (by omega) (by omega) (by omega) (by omega)
        · refine am_raload_n rfl rfl rfl ?_
          have q95 := am_Rg11701 hI82.1.1
          have q96 := am_Rg11713 hI82.1.1
          refine am_evirtualV (m := am_m138) (As := [.ref 117]) (S1 := []) rfl rfl rfl rfl rfl rfl rfl rfl rfl rfl (am_TE.void (am_ct139  (by omega) hI82 (show (f80 11713) ≤ 16 * (f80 11701) by omega)) (fun f97 a97 hq98 => ?_) (fun _ _ _ h => h))
          obtain ⟨hI99, hk100, hq98⟩ := hq98
          replace hq98 : f97 11718 = ((f80 11718)) ∧ f97 11757 = ((f80 11757)) ∧ f97 11763 = ((f80 11763)) ∧ (am_ph f80 a80 ) + 1 ≤ am_ph f97 a97 + 1 * (f97 11701) ∧ (am_at (a80 124) 0) + 1 ≤ am_at (a97 124) 0 + 1 * (f97 11701) + 1 * ((f80 11713)) ∧ ((f80 11713)) ≤ f97 11713 ∧ f97 11713 ≤ ((f80 11713)) + 16 * f97 11701 := hq98
          have mm101 : f80 11701 ≤ f97 11701 ∧ am_ph f80 a80 ≤ am_ph f97 a97 ∧ am_at (a80 124) 0 ≤ am_at (a97 124) 0 ∧ am_at (a97 125) 0 = am_at (a80 125) 0 := hk100
          have hm102 := am_mn.trans hm85 hk100
          refine am_rgoto rfl rfl ?_
          have q103 := am_Rg11701 hI99.1.1
          have q104 := am_Rg11713 hI99.1.1
          have q105 := am_Rg11718 hI99.1.1
          have q106 := am_Rg11757 hI99.1.1
          have q107 := am_Rg11763 hI99.1.1
          exact ih (by omega) hI99 hm102 (by omega) (by omega) (by omega) (by omega) (by omega) (by omega)
set_option maxRecDepth 100000 in
set_option maxHeartbeats 4000000 in
theorem am_ct138 {X : List Value} {w : Value} {e : Nat} {g : aF} {h : aA} {E : Nat → aF → aA → Prop} {d : Nat} {f : aF} {a : aA} (hd : 9 ≤ d) (hI : am_RV g h f a) (hp0 : f 11713 ≤ 16 * f 11701) :
    am_TE X d am_m137 0 (lv_args 0 [.ref 117]) [] f a w e (am_QV (fun f1 a1 => am_RV g h f1 a1 ∧ am_mn f a f1 a1 ∧ f1 11718 = (f 11718) ∧ f1 11757 = (f 11757) ∧ f1 11763 = (f 11763) ∧ (f 11713) ≤ f1 11713 ∧ f1 11713 ≤ (f 11713) + 16 * f1 11701)) E := by
  obtain ⟨d, rfl⟩ : ∃ d0, d = d0 + 1 := ⟨d - 1, by omega⟩
  have q1 := am_RV_ph hI
  have q2 := am_RV_p0 hI
  have q3 := am_Rg11701 hI.1.1
  have q4 := am_Rg11713 hI.1.1
  refine am_raload_n rfl rfl rfl ?_
  refine am_rldc2 rfl rfl ?_
  refine am_evirtualV (m := am_m124) (As := [.ref 117, .long (75107222706512)]) (S1 := []) rfl rfl rfl rfl rfl rfl rfl rfl rfl rfl (am_TE.void (am_ct125 (y1 := 75107222706512) (by omega) hI (by decide)) (fun f5 a5 hq6 => ?_) (fun _ _ _ h => h))
  obtain ⟨hI7, hk8, hq6⟩ := hq6
  replace hq6 : f5 11713 = ((f 11713)) ∧ (am_ph f a ) + 1 ≤ am_ph f5 a5 + 1 * (f5 11701) ∧ (am_at (a 124) 0) + 1 ≤ am_at (a5 124) 0 + 1 * (f5 11701) + 1 * ((f 11713)) := hq6
  have mm9 : f 11701 ≤ f5 11701 ∧ am_ph f a ≤ am_ph f5 a5 ∧ am_at (a 124) 0 ≤ am_at (a5 124) 0 ∧ am_at (a5 125) 0 = am_at (a 125) 0 := hk8.1
  have hm10 := am_mn.trans (am_mn.refl f a) hk8.1
  have t11 : f5 11718 = f 11718 := hk8.2.1 11718 rfl
  have t12 : f5 11757 = f 11757 := hk8.2.1 11757 rfl
  have t13 : f5 11763 = f 11763 := hk8.2.1 11763 rfl
  refine am_raload_n rfl rfl rfl ?_
  refine am_rbipush rfl (by decide) ?_
  refine am_evirtualV (m := am_m123) (As := [.ref 117, am_iv 69]) (S1 := []) rfl rfl rfl rfl rfl rfl rfl rfl rfl rfl (am_TE.void (am_ct124 (y1 := 69) (by omega) hI7 (by omega) (show 0 ≤ 69 by omega)) (fun f14 a14 hq15 => ?_) (fun _ _ _ h => h))
  obtain ⟨hI16, hk17, hq15⟩ := hq15
  replace hq15 : f14 11713 = ((f5 11713)) ∧ (am_ph f5 a5 ) + 1 ≤ am_ph f14 a14 + 1 * (f14 11701) ∧ (am_at (a5 124) 0) + 1 ≤ am_at (a14 124) 0 + 1 * (f14 11701) + 1 * ((f5 11713)) := hq15
  have mm18 : f5 11701 ≤ f14 11701 ∧ am_ph f5 a5 ≤ am_ph f14 a14 ∧ am_at (a5 124) 0 ≤ am_at (a14 124) 0 ∧ am_at (a14 125) 0 = am_at (a5 125) 0 := hk17.1
  have hm19 := am_mn.trans hm10 hk17.1
  have t20 : f14 11718 = f5 11718 := hk17.2.1 11718 rfl
  have t21 : f14 11757 = f5 11757 := hk17.2.1 11757 rfl
  have t22 : f14 11763 = f5 11763 := hk17.2.1 11763 rfl
  refine am_raload_n rfl rfl rfl ?_
  refine am_evirtualV (m := am_m126) (As := [.ref 117]) (S1 := []) rfl rfl rfl rfl rfl rfl rfl rfl rfl rfl (am_TE.void (am_ct127  (by omega) hI16) (fun f23 a23 hq24 => ?_) (fun _ _ _ h => h))
  obtain ⟨hI25, hk26, hq24⟩ := hq24
  replace hq24 : f23 11713 = ((f14 11713)) ∧ (am_ph f14 a14 ) + 1 ≤ am_ph f23 a23 + 1 * (f23 11701) ∧ (am_at (a14 124) 0) + 1 ≤ am_at (a23 124) 0 + 1 * (f23 11701) + 1 * ((f14 11713)) := hq24
  have mm27 : f14 11701 ≤ f23 11701 ∧ am_ph f14 a14 ≤ am_ph f23 a23 ∧ am_at (a14 124) 0 ≤ am_at (a23 124) 0 ∧ am_at (a23 125) 0 = am_at (a14 125) 0 := hk26.1
  have hm28 := am_mn.trans hm19 hk26.1
  have t29 : f23 11718 = f14 11718 := hk26.2.1 11718 rfl
  have t30 : f23 11757 = f14 11757 := hk26.2.1 11757 rfl
  have t31 : f23 11763 = f14 11763 := hk26.2.1 11763 rfl
  refine am_raload_n rfl rfl rfl ?_
  refine am_raload_n rfl rfl rfl ?_
  refine am_evirtualI (m := am_m127) (As := [.ref 117]) (S1 := [.ref 117]) rfl rfl rfl rfl rfl rfl rfl rfl rfl rfl (am_TE.int (am_ct128  (by omega) hI25) (fun b32 f32 a32 hq33 => ?_) (fun _ _ _ h => h))
  obtain ⟨hI34, hk35, hq33⟩ := hq33
  replace hq33 : (-2147483648 ≤ b32 ∧ b32 ≤ 2147483647) ∧ f32 11713 = ((f23 11713)) ∧ (am_ph f23 a23 ) + 1 ≤ am_ph f32 a32 + 1 * (f32 11701) ∧ (am_at (a23 124) 0) + 1 ≤ am_at (a32 124) 0 + 1 * (f32 11701) + 1 * ((f23 11713)) ∧ (0 ≤ b32 ∧ b32 ≤ 25) := hq33
  have mm36 : f23 11701 ≤ f32 11701 ∧ am_ph f23 a23 ≤ am_ph f32 a32 ∧ am_at (a23 124) 0 ≤ am_at (a32 124) 0 ∧ am_at (a32 125) 0 = am_at (a23 125) 0 := hk35.1
  have hm37 := am_mn.trans hm28 hk35.1
  have t38 : f32 11718 = f23 11718 := hk35.2.1 11718 rfl
  have t39 : f32 11757 = f23 11757 := hk35.2.1 11757 rfl
  have t40 : f32 11763 = f23 11763 := hk35.2.1 11763 rfl
  refine am_rputf (S1 := []) (h1 := am_enc (am_ud f32 11724 b32) a32 w e) rfl (am_pfB rfl am_ge117 rfl (am_sf11724 _)) (by rw [am_enc_len, am_enc_len]) ?_
  refine am_raload_n rfl rfl rfl ?_
  have J41 := am_Rf11724 (v := b32) hI34 (by omega) (by omega)
  refine am_evirtualI (m := am_m125) (As := [.ref 117]) (S1 := []) rfl rfl rfl rfl rfl rfl rfl rfl rfl rfl (am_TE.int (am_ct126  (by omega) J41) (fun b42 f42 a42 hq43 => ?_) (fun _ _ _ h => h))
  have m46 : am_mn f a (am_ud f32 11724 b32) a32 := am_mn_f rfl rfl rfl hm37
  obtain ⟨hI44, hk45, hq43⟩ := hq43
  replace hq43 : (b42 = 0 ∨ b42 = 1) ∧ f42 11701 = ((f32 11701)) ∧ f42 11713 = ((f32 11713)) ∧ f42 11701 ≤ 3 - 3 * b42 ∧ (am_ph f32 a32 ) + b42 ≤ am_ph f42 a42 ∧ (am_at (a32 124) 0) + b42 ≤ am_at (a42 124) 0 + ((f32 11713)) := hq43
  have mm47 : f32 11701 ≤ f42 11701 ∧ am_ph f32 a32 ≤ am_ph f42 a42 ∧ am_at (a32 124) 0 ≤ am_at (a42 124) 0 ∧ am_at (a42 125) 0 = am_at (a32 125) 0 := hk45.1
  have hm48 := am_mn.trans m46 hk45.1
  have t49 : f42 11718 = f32 11718 := hk45.2.1 11718 rfl
  have t50 : f42 11757 = f32 11757 := hk45.2.1 11757 rfl
  have t51 : f42 11763 = f32 11763 := hk45.2.1 11763 rfl
  refine am_rpop rfl rfl ?_
  refine am_raload_n rfl rfl rfl ?_
  refine am_evirtualV (m := am_m136) (As := [.ref 117]) (S1 := []) rfl rfl rfl rfl rfl rfl rfl rfl rfl rfl (am_TE.void (am_ct137  (by omega) hI44) (fun f52 a52 hq53 => ?_) (fun _ _ _ h => h))
  obtain ⟨hI54, hk55, hq53⟩ := hq53
  replace hq53 : f52 11713 = ((f42 11713)) := hq53
  have mm56 : f42 11701 ≤ f52 11701 ∧ am_ph f42 a42 ≤ am_ph f52 a52 ∧ am_at (a42 124) 0 ≤ am_at (a52 124) 0 ∧ am_at (a52 125) 0 = am_at (a42 125) 0 := hk55.1
  have hm57 := am_mn.trans hm48 hk55.1
  have t58 : f52 11718 = f42 11718 := hk55.2.1 11718 rfl
  have t59 : f52 11757 = f42 11757 := hk55.2.1 11757 rfl
  have t60 : f52 11763 = f42 11763 := hk55.2.1 11763 rfl
  refine am_raload_n rfl rfl rfl ?_
  refine am_evirtualI (m := am_m121) (As := [.ref 117]) (S1 := []) rfl rfl rfl rfl rfl rfl rfl rfl rfl rfl (am_TE.int (am_ct122  (by omega) hI54) (fun b61 f61 a61 hq62 => ?_) (fun _ _ _ h => h))
  obtain ⟨rfl, rfl, hq62⟩ := hq62
  refine am_rbipush rfl (by decide) ?_
  refine am_ric_ne rfl rfl (by unfold am_rg; omega) (by unfold am_rg; omega) (fun hc63 => ?_) (fun hc63 => ?_)
  · refine am_raload_n rfl rfl rfl ?_
    refine am_rbipush rfl (by decide) ?_
    refine am_evirtualV (m := am_m123) (As := [.ref 117, am_iv 62]) (S1 := []) rfl rfl rfl rfl rfl rfl rfl rfl rfl rfl (am_TE.void (am_ct124 (y1 := 62) (by omega) hI54 (by omega) (show 0 ≤ 62 by omega)) (fun f64 a64 hq65 => ?_) (fun _ _ _ h => h))
    obtain ⟨hI66, hk67, hq65⟩ := hq65
    replace hq65 : f64 11713 = ((f52 11713)) ∧ (am_ph f52 a52 ) + 1 ≤ am_ph f64 a64 + 1 * (f64 11701) ∧ (am_at (a52 124) 0) + 1 ≤ am_at (a64 124) 0 + 1 * (f64 11701) + 1 * ((f52 11713)) := hq65
    have mm68 : f52 11701 ≤ f64 11701 ∧ am_ph f52 a52 ≤ am_ph f64 a64 ∧ am_at (a52 124) 0 ≤ am_at (a64 124) 0 ∧ am_at (a64 125) 0 = am_at (a52 125) 0 := hk67.1
    have hm69 := am_mn.trans hm57 hk67.1
    have t70 : f64 11718 = f52 11718 := hk67.2.1 11718 rfl
    have t71 : f64 11757 = f52 11757 := hk67.2.1 11757 rfl
    have t72 : f64 11763 = f52 11763 := hk67.2.1 11763 rfl
    refine am_raload_n rfl rfl rfl ?_
    refine am_riconst rfl ?_
    refine am_rputf (S1 := []) (h1 := am_enc (am_ud f64 11723 1) a64 w e) rfl (am_pfB rfl am_ge117 rfl (am_sf11723 _)) (by rw [am_enc_len, am_enc_len]) ?_
    have q73 := am_Rg11701 hI66.1.1
    have J74 := am_Rf11723 (v := 1) hI66 (by omega) (by omega)
    have m75 : am_mn f a (am_ud f64 11723 1) a64 := am_mn_f rfl rfl rfl hm69
    have q76 := am_Rg11718 hI66.1.1
    have q77 := am_Rg11757 hI66.1.1
    have q78 := am_Rg11763 hI66.1.1
    have q79 := am_Rg11713 hI66.1.1
    exact am_eret rfl rfl ⟨J74, m75, (show f64 11718 = (f 11718) by omega), (show f64 11757 = (f 11757) by omega), (show f64 11763 = (f 11763) by omega), (show (f 11713) ≤ f64 11713 by omega), (show f64 11713 ≤ (f 11713) + 16 * f64 11701 by omega)⟩
  · refine am_raload_n rfl rfl rfl ?_
    have ok80 : f52 11701 = 0 ∧ am_at (a52 124) (f52 11713) < am_at (a52 125) (f52 11713) := am_PK.ok hq62.2.2.1 (by omega)
    have q81 := am_Rg11713 hI54.1.1
    refine am_evirtualV (m := am_m122) (As := [.ref 117]) (S1 := []) rfl rfl rfl rfl rfl rfl rfl rfl rfl rfl (am_TE.void (am_ct123  (by omega) hI54 (show am_at (a52 124) ((f52 11713)) < am_at (a52 125) ((f52 11713)) by omega)) (fun f82 a82 hq83 => ?_) (fun _ _ _ h => h))
    obtain ⟨hI84, hk85, hq83⟩ := hq83
    replace hq83 : f82 11701 = ((f52 11701)) ∧ f82 11713 = ((f52 11713)) ∧ am_ph f82 a82 = (am_ph f52 a52 ) + 1 ∧ (((f52 11713)) = 0 → am_at (a82 124) 0 = (am_at (a52 124) 0) + 1) := hq83
    have mm86 : f52 11701 ≤ f82 11701 ∧ am_ph f52 a52 ≤ am_ph f82 a82 ∧ am_at (a52 124) 0 ≤ am_at (a82 124) 0 ∧ am_at (a82 125) 0 = am_at (a52 125) 0 := hk85.1
    have hm87 := am_mn.trans hm57 hk85.1
    have t88 : f82 11718 = f52 11718 := hk85.2.1 11718 rfl
    have t89 : f82 11757 = f52 11757 := hk85.2.1 11757 rfl
    have t90 : f82 11763 = f52 11763 := hk85.2.1 11763 rfl
    have q91 := am_Rg11701 hI84.1.1
    have q92 := am_Rg11713 hI84.1.1
    have q93 := am_Rg11718 hI84.1.1
    have q94 := am_Rg11757 hI84.1.1
    have q95 := am_Rg11763 hI84.1.1
    exact am_ct138_47 hd (_ + 1) (Nat.lt_succ_self _) hI84 hm87 (by omega) (by omega) (by omega) (by omega) (by omega) (by omega)
