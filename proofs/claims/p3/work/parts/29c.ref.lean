set_option maxRecDepth 100000 in
set_option maxHeartbeats 4000000 in
theorem am_ct135_L18 {X : List Value} {w : Value} {e : Nat} {g : aF} {h : aA} {E : Nat → aF → aA → Prop} {d : Nat} {z11709 : Int} {z11718 : Int} {z11741 : Int} {z11750 : Int} {z11753 : Int} {z11757 : Int} {z11763 : Int} {z11713 : Int} {zph : Int} {zp0 : Int} {fz : aF} {az : aA} (hd : 5 ≤ d + 1) (n : Nat) :
    (∀ {f : aF} {a : aA} {x1 : Int} {x2 : Int}, (2 * (200 * (3500 - am_ph f a) + 8 * f 11713 + 3 - f 11701)).toNat < n → am_RV g h f a → am_mn fz az f a → (-2147483648 ≤ x1 ∧ x1 ≤ 2147483647) → (-2147483648 ≤ x2 ∧ x2 ≤ 2147483647) → x1 = z11713 → 0 ≤ x1 → (x2 = 0 ∨ x2 = 1) → x1 ≤ f 11713 → f 11713 ≤ x1 + 16 - 16 * x2 → zp0 + 1 + x2 ≤ am_at (a 124) 0 + 2 * f 11701 + 2 * z11713 → zph + 1 ≤ am_ph f a + f 11701 → f 11755 ≤ am_ph f a - zph → f 11709 = z11709 → f 11718 = z11718 → f 11741 = z11741 → f 11750 = z11750 → f 11753 = z11753 → f 11757 = z11757 → f 11763 = z11763 → zph ≤ am_ph f a → zp0 ≤ am_at (a 124) 0 → zph ≥ 0 → zp0 ≥ 0 → am_TE X (d + 1) am_m134 18 [(0, .ref 117), (1, am_iv x1), (2, am_iv x2)] [] f a w e (am_QV (fun f1 a1 => am_RV g h f1 a1 ∧ am_mn fz az f1 a1 ∧ f1 11709 = z11709 ∧ f1 11718 = z11718 ∧ f1 11741 = z11741 ∧ f1 11750 = z11750 ∧ f1 11753 = z11753 ∧ f1 11757 = z11757 ∧ f1 11763 = z11763 ∧ z11713 ≤ f1 11713 ∧ f1 11713 ≤ z11713 + 16 * f1 11701 ∧ 0 ≤ f1 11755 ∧ f1 11755 ≤ am_ph f1 a1 - zph ∧ zph + 1 ≤ am_ph f1 a1 + f1 11701 ∧ zp0 + 2 ≤ am_at (a1 124) 0 + 2 * f1 11701 + 2 * z11713)) E) ∧ (∀ {f : aF} {a : aA} {x1 : Int} {x2 : Int} {x4 : Int}, (2 * (200 * (3500 - am_ph f a) + 8 * f 11713 + 3 - f 11701) + 1).toNat < n → am_RV g h f a → am_mn fz az f a → (-2147483648 ≤ x1 ∧ x1 ≤ 2147483647) → (-2147483648 ≤ x2 ∧ x2 ≤ 2147483647) → (-2147483648 ≤ x4 ∧ x4 ≤ 2147483647) → x1 = z11713 → 0 ≤ x1 → (x2 = 0 ∨ x2 = 1) → x1 ≤ f 11713 → f 11713 ≤ x1 + 16 - 16 * x2 → zp0 + 1 + x2 ≤ am_at (a 124) 0 + 2 * f 11701 + 2 * z11713 → zph + 1 ≤ am_ph f a + f 11701 → (0 ≤ x4 → f 11755 + 1 ≤ am_ph f a - zph) → f 11755 ≤ am_ph f a - zph → f 11709 = z11709 → f 11718 = z11718 → f 11741 = z11741 → f 11750 = z11750 → f 11753 = z11753 → f 11757 = z11757 → f 11763 = z11763 → zph ≤ am_ph f a → zp0 ≤ am_at (a 124) 0 → zph ≥ 0 → zp0 ≥ 0 → am_TE X (d + 1) am_m134 126 [(0, .ref 117), (1, am_iv x1), (2, am_iv x2), (4, am_iv x4)] [] f a w e (am_QV (fun f1 a1 => am_RV g h f1 a1 ∧ am_mn fz az f1 a1 ∧ f1 11709 = z11709 ∧ f1 11718 = z11718 ∧ f1 11741 = z11741 ∧ f1 11750 = z11750 ∧ f1 11753 = z11753 ∧ f1 11757 = z11757 ∧ f1 11763 = z11763 ∧ z11713 ≤ f1 11713 ∧ f1 11713 ≤ z11713 + 16 * f1 11701 ∧ 0 ≤ f1 11755 ∧ f1 11755 ≤ am_ph f1 a1 - zph ∧ zph + 1 ≤ am_ph f1 a1 + f1 11701 ∧ zp0 + 2 ≤ am_at (a1 124) 0 + 2 * f1 11701 + 2 * z11713)) E) := by
  induction n with
  | zero => refine ⟨?_, ?_⟩ <;> intros <;> omega
  | succ n ih =>
    refine ⟨?_, ?_⟩
    · intro f a x1 x2 hn hI hp0 hp1 hp2 hp3 hp4 hp5 hp6 hp7 hp8 hp9 hp10 hp11 hp12 hp13 hp14 hp15 hp16 hp17 hp18 hp19 hp20 hp21
      have q1 := am_RV_ph hI
      have q2 := am_RV_p0 hI
      have q3 := am_Rg11713 hI.1.1
      have q4 := am_Rg11701 hI.1.1
      have q5 := am_Rg11755 hI.1.1
      have q6 := am_Rg11709 hI.1.1
      have q7 := am_Rg11718 hI.1.1
      have q8 := am_Rg11741 hI.1.1
      have q9 := am_Rg11750 hI.1.1
      have q10 := am_Rg11753 hI.1.1
      have q11 := am_Rg11757 hI.1.1
      have q12 := am_Rg11763 hI.1.1
      refine am_riload_n rfl rfl rfl ?_
      refine am_rif_ne rfl rfl (by unfold am_rg; omega) (fun hc13 => ?_) (fun hc13 => ?_)
      · exact am_eret rfl rfl ⟨hI, hp0, (show f 11709 = z11709 by omega), (show f 11718 = z11718 by omega), (show f 11741 = z11741 by omega), (show f 11750 = z11750 by omega), (show f 11753 = z11753 by omega), (show f 11757 = z11757 by omega), (show f 11763 = z11763 by omega), (show z11713 ≤ f 11713 by omega), (show f 11713 ≤ z11713 + 16 * f 11701 by omega), (show 0 ≤ f 11755 by omega), (show f 11755 ≤ am_ph f a - zph by omega), (show zph + 1 ≤ am_ph f a + f 11701 by omega), (show zp0 + 2 ≤ am_at (a 124) 0 + 2 * f 11701 + 2 * z11713 by omega)⟩
      · refine am_raload_n rfl rfl rfl ?_
        refine am_rgetf (S1 := [am_iv (f 11701)]) rfl rfl ?_
        refine am_rif_ne rfl rfl (by unfold am_rg; omega) (fun hc14 => ?_) (fun hc14 => ?_)
        · exact am_eret rfl rfl ⟨hI, hp0, (show f 11709 = z11709 by omega), (show f 11718 = z11718 by omega), (show f 11741 = z11741 by omega), (show f 11750 = z11750 by omega), (show f 11753 = z11753 by omega), (show f 11757 = z11757 by omega), (show f 11763 = z11763 by omega), (show z11713 ≤ f 11713 by omega), (show f 11713 ≤ z11713 + 16 * f 11701 by omega), (show 0 ≤ f 11755 by omega), (show f 11755 ≤ am_ph f a - zph by omega), (show zph + 1 ≤ am_ph f a + f 11701 by omega), (show zp0 + 2 ≤ am_at (a 124) 0 + 2 * f 11701 + 2 * z11713 by omega)⟩
        · refine am_raload_n rfl rfl rfl ?_
          refine am_evirtualI (m := am_m121) (As := [.ref 117]) (S1 := []) rfl rfl rfl rfl rfl rfl rfl rfl rfl rfl (am_TE.int (am_ct122  (by omega) hI) (fun b15 f15 a15 hq16 => ?_) (fun _ _ _ h => h))
          obtain ⟨rfl, rfl, hq16⟩ := hq16
          refine am_ristore_n (L1 := [(0, .ref 117), (1, am_iv x1), (2, am_iv x2), (3, am_iv b15)]) rfl rfl rfl rfl rfl ?_
          refine am_riload_n rfl rfl rfl ?_
          refine am_estaticI (m := am_m118) (As := [am_iv b15]) (S1 := []) rfl rfl rfl rfl rfl rfl rfl rfl (am_TE.int (am_ct119 (y1 := b15) (by omega) (by omega)) (fun b17 f17 a17 hq18 => ?_) (fun _ _ _ h => h))
          obtain ⟨rfl, rfl, hq18⟩ := hq18
          refine am_rif_eq rfl rfl (by unfold am_rg; omega) (fun hc19 => ?_) (fun hc19 => ?_)
          · refine am_riload_n rfl rfl rfl ?_
            refine am_ristore (L1 := [(0, .ref 117), (1, am_iv x1), (2, am_iv x2), (3, am_iv b15), (4, am_iv b15)]) rfl rfl rfl rfl rfl ?_
            refine am_riload_n rfl rfl rfl ?_
            refine am_rif_ge rfl rfl (by unfold am_rg; omega) (fun hc20 => ?_) (fun hc20 => ?_)
            · refine am_raload_n rfl rfl rfl ?_
              have ok21 : f 11701 = 0 ∧ am_at (a 124) (f 11713) < am_at (a 125) (f 11713) := am_PK.ok hq16.2.2.1 (by omega)
              refine am_evirtualV (m := am_m122) (As := [.ref 117]) (S1 := []) rfl rfl rfl rfl rfl rfl rfl rfl rfl rfl (am_TE.void (am_ct123  (by omega) hI (show am_at (a 124) ((f 11713)) < am_at (a 125) ((f 11713)) by omega)) (fun f22 a22 hq23 => ?_) (fun _ _ _ h => h))
              obtain ⟨hI24, hk25, hq23⟩ := hq23
              replace hq23 : f22 11701 = ((f 11701)) ∧ f22 11713 = ((f 11713)) ∧ am_ph f22 a22 = (am_ph f a ) + 1 ∧ (((f 11713)) = 0 → am_at (a22 124) 0 = (am_at (a 124) 0) + 1) := hq23
              have mm26 : f 11701 ≤ f22 11701 ∧ am_ph f a ≤ am_ph f22 a22 ∧ am_at (a 124) 0 ≤ am_at (a22 124) 0 ∧ am_at (a22 125) 0 = am_at (a 125) 0 := hk25.1
              have hm27 := am_mn.trans hp0 hk25.1
              have t28 : f22 11709 = f 11709 := hk25.2.1 11709 rfl
              have t29 : f22 11718 = f 11718 := hk25.2.1 11718 rfl
              have t30 : f22 11741 = f 11741 := hk25.2.1 11741 rfl
              have t31 : f22 11750 = f 11750 := hk25.2.1 11750 rfl
              have t32 : f22 11753 = f 11753 := hk25.2.1 11753 rfl
              have t33 : f22 11757 = f 11757 := hk25.2.1 11757 rfl
              have t34 : f22 11763 = f 11763 := hk25.2.1 11763 rfl
              have t35 : f22 11755 = f 11755 := hk25.2.1 11755 rfl
              refine am_riload_n rfl rfl rfl ?_
              refine am_rbipush rfl (by decide) ?_
              refine am_ric_ne rfl rfl (by unfold am_rg; omega) (by unfold am_rg; omega) (fun hc36 => ?_) (fun hc36 => ?_)
              · refine am_riconst rfl ?_
                refine am_ristore_n (L1 := [(0, .ref 117), (1, am_iv x1), (2, am_iv 0), (3, am_iv b15), (4, am_iv b15)]) rfl rfl rfl rfl rfl ?_
                refine am_riload_n rfl rfl rfl ?_
                refine am_rbipush rfl (by decide) ?_
                refine am_ric_ne rfl rfl (by unfold am_rg; omega) (by unfold am_rg; omega) (fun hc37 => ?_) (fun hc37 => ?_)
                · refine am_riload_n rfl rfl rfl ?_
                  refine am_rbipush rfl (by decide) ?_
                  refine am_ric_ne rfl rfl (by unfold am_rg; omega) (by unfold am_rg; omega) (fun hc38 => ?_) (fun hc38 => ?_)
                  · have q39 := am_Rg11701 hI24.1.1
                    have q40 := am_Rg11713 hI24.1.1
                    have q41 := am_Rg11755 hI24.1.1
                    have q42 := am_Rg11709 hI24.1.1
                    have q43 := am_Rg11718 hI24.1.1
                    have q44 := am_Rg11741 hI24.1.1
                    have q45 := am_Rg11750 hI24.1.1
                    have q46 := am_Rg11753 hI24.1.1
                    have q47 := am_Rg11757 hI24.1.1
                    have q48 := am_Rg11763 hI24.1.1
                    exact am_T.drop (L1 := [(0, .ref 117), (1, am_iv x1), (2, am_iv 0), (4, am_iv b15)]) (ih.2 (by omega) hI24 hm27 (by omega) (by omega) (by omega) (by omega) (by omega) (by omega) (by omega) (by omega) (by omega) (by omega) (by omega) (by omega) (by omega) (by omega) (by omega) (by omega) (by omega) (by omega) (by omega) (by omega) (by omega) (by omega) (by omega)) (by simp)
                  · refine am_raload_n rfl rfl rfl ?_
                    refine am_evirtualI (m := am_m131) (As := [.ref 117]) (S1 := []) rfl rfl rfl rfl rfl rfl rfl rfl rfl rfl (am_TE.int (am_ct132  (by omega) hI24) (fun b49 f49 a49 hq50 => ?_) (fun _ _ _ h => h))
                    obtain ⟨hI51, hk52, hq50⟩ := hq50
                    replace hq50 : (-2147483648 ≤ b49 ∧ b49 ≤ 2147483647) ∧ -1 ≤ b49 ∧ ((f22 11713)) ≤ f49 11713 ∧ f49 11713 ≤ ((f22 11713)) + 1 := hq50
                    have mm53 : f22 11701 ≤ f49 11701 ∧ am_ph f22 a22 ≤ am_ph f49 a49 ∧ am_at (a22 124) 0 ≤ am_at (a49 124) 0 ∧ am_at (a49 125) 0 = am_at (a22 125) 0 := hk52.1
                    have hm54 := am_mn.trans hm27 hk52.1
                    have t55 : f49 11709 = f22 11709 := hk52.2.1 11709 rfl
                    have t56 : f49 11718 = f22 11718 := hk52.2.1 11718 rfl
                    have t57 : f49 11741 = f22 11741 := hk52.2.1 11741 rfl
                    have t58 : f49 11750 = f22 11750 := hk52.2.1 11750 rfl
                    have t59 : f49 11753 = f22 11753 := hk52.2.1 11753 rfl
                    have t60 : f49 11757 = f22 11757 := hk52.2.1 11757 rfl
                    have t61 : f49 11763 = f22 11763 := hk52.2.1 11763 rfl
                    have t62 : f49 11755 = f22 11755 := hk52.2.1 11755 rfl
                    refine am_ristore (L1 := [(0, .ref 117), (1, am_iv x1), (2, am_iv 0), (3, am_iv b15), (4, am_iv b49)]) rfl rfl rfl rfl rfl ?_
                    have q63 := am_Rg11701 hI51.1.1
                    have q64 := am_Rg11713 hI51.1.1
                    have q65 := am_Rg11755 hI51.1.1
                    have q66 := am_Rg11709 hI51.1.1
                    have q67 := am_Rg11718 hI51.1.1
                    have q68 := am_Rg11741 hI51.1.1
                    have q69 := am_Rg11750 hI51.1.1
                    have q70 := am_Rg11753 hI51.1.1
                    have q71 := am_Rg11757 hI51.1.1
                    have q72 := am_Rg11763 hI51.1.1
                    exact am_T.drop (L1 := [(0, .ref 117), (1, am_iv x1), (2, am_iv 0), (4, am_iv b49)]) (ih.2 (by omega) hI51 hm54 (by omega) (by omega) (by omega) (by omega) (by omega) (by omega) (by omega) (by omega) (by omega) (by omega) (by omega) (by omega) (by omega) (by omega) (by omega) (by omega) (by omega) (by omega) (by omega) (by omega) (by omega) (by omega) (by omega)) (by simp)
                · refine am_raload_n rfl rfl rfl ?_
                  refine am_riconst rfl ?_
                  have q73 := am_Rg11701 hI24.1.1
                  refine am_evirtualV (m := am_m116) (As := [.ref 117, am_iv 1]) (S1 := []) rfl rfl rfl rfl rfl rfl rfl rfl rfl rfl (am_TE.void (am_ct117 (y1 := 1) (by omega) (by omega) (show 1 ≤ 1 by omega) (show 1 ≤ 3 by omega) (show 0 ≤ (f22 11701) by omega) (show (f22 11701) ≤ 3 by omega)) (fun f74 a74 hq75 => ?_) (fun _ _ _ h => h))
                  obtain ⟨v76, rfl, rfl, hq75⟩ := hq75
                  replace hq75 : 0 < v76 ∧ v76 ≤ 3 ∧ f22 11701 ≤ v76 := hq75
                  refine am_riload_n rfl rfl rfl ?_
                  refine am_rbipush rfl (by decide) ?_
                  refine am_ric_ne rfl rfl (by unfold am_rg; omega) (by unfold am_rg; omega) (fun hc77 => ?_) (fun hc77 => ?_)
                  · have J78 := am_Rf11701 (v := v76) hI24 (by omega) (by omega)
                    have m79 : am_mn fz az (am_ud f22 11701 v76) a22 := am_mn.halt hm27 (by omega)
                    have q80 := am_Rg11713 hI24.1.1
                    have q81 := am_Rg11755 hI24.1.1
                    have q82 := am_Rg11709 hI24.1.1
                    have q83 := am_Rg11718 hI24.1.1
                    have q84 := am_Rg11741 hI24.1.1
                    have q85 := am_Rg11750 hI24.1.1
                    have q86 := am_Rg11753 hI24.1.1
                    have q87 := am_Rg11757 hI24.1.1
                    have q88 := am_Rg11763 hI24.1.1
                    exact am_T.drop (L1 := [(0, .ref 117), (1, am_iv x1), (2, am_iv 0), (4, am_iv b15)]) (ih.2 (show (2 * (200 * (3500 - am_ph f22 a22 ) + 8 * (f22 11713) + 3 - (v76)) + 1).toNat < n by omega) J78 m79 (show (-2147483648 ≤ x1 ∧ x1 ≤ 2147483647) by omega) (show (-2147483648 ≤ 0 ∧ 0 ≤ 2147483647) by omega) (show (-2147483648 ≤ b15 ∧ b15 ≤ 2147483647) by omega) (show x1 = z11713 by omega) (show 0 ≤ x1 by omega) (show (0 = 0 ∨ 0 = 1) by omega) (show x1 ≤ (f22 11713) by omega) (show (f22 11713) ≤ x1 + 16 - 16 * 0 by omega) (show zp0 + 1 + 0 ≤ am_at (a22 124) 0 + 2 * (v76) + 2 * z11713 by omega) (show zph + 1 ≤ am_ph f22 a22  + (v76) by omega) (show (0 ≤ b15 → (f22 11755) + 1 ≤ am_ph f22 a22  - zph) by omega) (show (f22 11755) ≤ am_ph f22 a22  - zph by omega) (show (f22 11709) = z11709 by omega) (show (f22 11718) = z11718 by omega) (show (f22 11741) = z11741 by omega) (show (f22 11750) = z11750 by omega) (show (f22 11753) = z11753 by omega) (show (f22 11757) = z11757 by omega) (show (f22 11763) = z11763 by omega) (show zph ≤ am_ph f22 a22  by omega) (show zp0 ≤ am_at (a22 124) 0 by omega) (show zph ≥ 0 by omega) (show zp0 ≥ 0 by omega)) (by simp)
                  · refine am_raload_n rfl rfl rfl ?_
                    have J89 := am_Rf11701 (v := v76) hI24 (by omega) (by omega)
                    refine am_evirtualI (m := am_m131) (As := [.ref 117]) (S1 := []) rfl rfl rfl rfl rfl rfl rfl rfl rfl rfl (am_TE.int (am_ct132  (by omega) J89) (fun b90 f90 a90 hq91 => ?_) (fun _ _ _ h => h))
                    have m94 : am_mn fz az (am_ud f22 11701 v76) a22 := am_mn.halt hm27 (by omega)
                    obtain ⟨hI92, hk93, hq91⟩ := hq91
                    replace hq91 : (-2147483648 ≤ b90 ∧ b90 ≤ 2147483647) ∧ -1 ≤ b90 ∧ ((f22 11713)) ≤ f90 11713 ∧ f90 11713 ≤ ((f22 11713)) + 1 := hq91
                    have mm95 : v76 ≤ f90 11701 ∧ am_ph f22 a22 ≤ am_ph f90 a90 ∧ am_at (a22 124) 0 ≤ am_at (a90 124) 0 ∧ am_at (a90 125) 0 = am_at (a22 125) 0 := hk93.1
                    have hm96 := am_mn.trans m94 hk93.1
                    have t97 : f90 11709 = f22 11709 := hk93.2.1 11709 rfl
                    have t98 : f90 11718 = f22 11718 := hk93.2.1 11718 rfl
                    have t99 : f90 11741 = f22 11741 := hk93.2.1 11741 rfl
                    have t100 : f90 11750 = f22 11750 := hk93.2.1 11750 rfl
                    have t101 : f90 11753 = f22 11753 := hk93.2.1 11753 rfl
                    have t102 : f90 11757 = f22 11757 := hk93.2.1 11757 rfl
                    have t103 : f90 11763 = f22 11763 := hk93.2.1 11763 rfl
                    have t104 : f90 11755 = f22 11755 := hk93.2.1 11755 rfl
                    refine am_ristore (L1 := [(0, .ref 117), (1, am_iv x1), (2, am_iv 0), (3, am_iv b15), (4, am_iv b90)]) rfl rfl rfl rfl rfl ?_
                    have q105 := am_Rg11701 hI92.1.1
                    have q106 := am_Rg11713 hI92.1.1
                    have q107 := am_Rg11755 hI92.1.1
                    have q108 := am_Rg11709 hI92.1.1
                    have q109 := am_Rg11718 hI92.1.1
                    have q110 := am_Rg11741 hI92.1.1
                    have q111 := am_Rg11750 hI92.1.1
                    have q112 := am_Rg11753 hI92.1.1
                    have q113 := am_Rg11757 hI92.1.1
                    have q114 := am_Rg11763 hI92.1.1
                    exact am_T.drop (L1 := [(0, .ref 117), (1, am_iv x1), (2, am_iv 0), (4, am_iv b90)]) (ih.2 (by omega) hI92 hm96 (by omega) (by omega) (by omega) (by omega) (by omega) (by omega) (by omega) (by omega) (by omega) (by omega) (by omega) (by omega) (by omega) (by omega) (by omega) (by omega) (by omega) (by omega) (by omega) (by omega) (by omega) (by omega) (by omega)) (by simp)
              · refine am_raload_n rfl rfl rfl ?_
                have q115 := am_Rg11713 hI24.1.1
                refine am_rgetf (S1 := [am_iv (f22 11713)]) rfl rfl ?_
                refine am_riload_n rfl rfl rfl ?_
                refine am_ric_ne rfl rfl (by unfold am_rg; omega) (by unfold am_rg; omega) (fun hc116 => ?_) (fun hc116 => ?_)
                · refine am_riconst rfl ?_
                  refine am_ristore_n (L1 := [(0, .ref 117), (1, am_iv x1), (2, am_iv 0), (3, am_iv b15), (4, am_iv b15)]) rfl rfl rfl rfl rfl ?_
                  refine am_riload_n rfl rfl rfl ?_
                  refine am_rbipush rfl (by decide) ?_
                  refine am_ric_ne rfl rfl (by unfold am_rg; omega) (by unfold am_rg; omega) (fun hc117 => ?_) (fun hc117 => ?_)
                  · refine am_riload_n rfl rfl rfl ?_
                    refine am_rbipush rfl (by decide) ?_
                    refine am_ric_ne rfl rfl (by unfold am_rg; omega) (by unfold am_rg; omega) (fun hc118 => ?_) (fun hc118 => ?_)
                    · have q119 := am_Rg11701 hI24.1.1
                      have q120 := am_Rg11755 hI24.1.1
                      have q121 := am_Rg11709 hI24.1.1
                      have q122 := am_Rg11718 hI24.1.1
                      have q123 := am_Rg11741 hI24.1.1
                      have q124 := am_Rg11750 hI24.1.1
                      have q125 := am_Rg11753 hI24.1.1
                      have q126 := am_Rg11757 hI24.1.1
                      have q127 := am_Rg11763 hI24.1.1
                      exact am_T.drop (L1 := [(0, .ref 117), (1, am_iv x1), (2, am_iv 0), (4, am_iv b15)]) (ih.2 (by omega) hI24 hm27 (by omega) (by omega) (by omega) (by omega) (by omega) (by omega) (by omega) (by omega) (by omega) (by omega) (by omega) (by omega) (by omega) (by omega) (by omega) (by omega) (by omega) (by omega) (by omega) (by omega) (by omega) (by omega) (by omega)) (by simp)
                    · refine am_raload_n rfl rfl rfl ?_
                      refine am_evirtualI (m := am_m131) (As := [.ref 117]) (S1 := []) rfl rfl rfl rfl rfl rfl rfl rfl rfl rfl (am_TE.int (am_ct132  (by omega) hI24) (fun b128 f128 a128 hq129 => ?_) (fun _ _ _ h => h))
                      obtain ⟨hI130, hk131, hq129⟩ := hq129
                      replace hq129 : (-2147483648 ≤ b128 ∧ b128 ≤ 2147483647) ∧ -1 ≤ b128 ∧ ((f22 11713)) ≤ f128 11713 ∧ f128 11713 ≤ ((f22 11713)) + 1 := hq129
                      have mm132 : f22 11701 ≤ f128 11701 ∧ am_ph f22 a22 ≤ am_ph f128 a128 ∧ am_at (a22 124) 0 ≤ am_at (a128 124) 0 ∧ am_at (a128 125) 0 = am_at (a22 125) 0 := hk131.1
                      have hm133 := am_mn.trans hm27 hk131.1
                      have t134 : f128 11709 = f22 11709 := hk131.2.1 11709 rfl
                      have t135 : f128 11718 = f22 11718 := hk131.2.1 11718 rfl
                      have t136 : f128 11741 = f22 11741 := hk131.2.1 11741 rfl
                      have t137 : f128 11750 = f22 11750 := hk131.2.1 11750 rfl
                      have t138 : f128 11753 = f22 11753 := hk131.2.1 11753 rfl
                      have t139 : f128 11757 = f22 11757 := hk131.2.1 11757 rfl
                      have t140 : f128 11763 = f22 11763 := hk131.2.1 11763 rfl
                      have t141 : f128 11755 = f22 11755 := hk131.2.1 11755 rfl
                      refine am_ristore (L1 := [(0, .ref 117), (1, am_iv x1), (2, am_iv 0), (3, am_iv b15), (4, am_iv b128)]) rfl rfl rfl rfl rfl ?_
                      have q142 := am_Rg11701 hI130.1.1
                      have q143 := am_Rg11713 hI130.1.1
                      have q144 := am_Rg11755 hI130.1.1
                      have q145 := am_Rg11709 hI130.1.1
                      have q146 := am_Rg11718 hI130.1.1
                      have q147 := am_Rg11741 hI130.1.1
                      have q148 := am_Rg11750 hI130.1.1
                      have q149 := am_Rg11753 hI130.1.1
                      have q150 := am_Rg11757 hI130.1.1
                      have q151 := am_Rg11763 hI130.1.1
                      exact am_T.drop (L1 := [(0, .ref 117), (1, am_iv x1), (2, am_iv 0), (4, am_iv b128)]) (ih.2 (by omega) hI130 hm133 (by omega) (by omega) (by omega) (by omega) (by omega) (by omega) (by omega) (by omega) (by omega) (by omega) (by omega) (by omega) (by omega) (by omega) (by omega) (by omega) (by omega) (by omega) (by omega) (by omega) (by omega) (by omega) (by omega)) (by simp)
                  · refine am_raload_n rfl rfl rfl ?_
                    refine am_riconst rfl ?_
                    have q152 := am_Rg11701 hI24.1.1
                    refine am_evirtualV (m := am_m116) (As := [.ref 117, am_iv 1]) (S1 := []) rfl rfl rfl rfl rfl rfl rfl rfl rfl rfl (am_TE.void (am_ct117 (y1 := 1) (by omega) (by omega) (show 1 ≤ 1 by omega) (show 1 ≤ 3 by omega) (show 0 ≤ (f22 11701) by omega) (show (f22 11701) ≤ 3 by omega)) (fun f153 a153 hq154 => ?_) (fun _ _ _ h => h))
                    obtain ⟨v155, rfl, rfl, hq154⟩ := hq154
                    replace hq154 : 0 < v155 ∧ v155 ≤ 3 ∧ f22 11701 ≤ v155 := hq154
                    refine am_riload_n rfl rfl rfl ?_
                    refine am_rbipush rfl (by decide) ?_
                    refine am_ric_ne rfl rfl (by unfold am_rg; omega) (by unfold am_rg; omega) (fun hc156 => ?_) (fun hc156 => ?_)
                    · have J157 := am_Rf11701 (v := v155) hI24 (by omega) (by omega)
                      have m158 : am_mn fz az (am_ud f22 11701 v155) a22 := am_mn.halt hm27 (by omega)
                      have q159 := am_Rg11755 hI24.1.1
                      have q160 := am_Rg11709 hI24.1.1
                      have q161 := am_Rg11718 hI24.1.1
                      have q162 := am_Rg11741 hI24.1.1
                      have q163 := am_Rg11750 hI24.1.1
                      have q164 := am_Rg11753 hI24.1.1
                      have q165 := am_Rg11757 hI24.1.1
                      have q166 := am_Rg11763 hI24.1.1
                      exact am_T.drop (L1 := [(0, .ref 117), (1, am_iv x1), (2, am_iv 0), (4, am_iv b15)]) (ih.2 (show (2 * (200 * (3500 - am_ph f22 a22 ) + 8 * (f22 11713) + 3 - (v155)) + 1).toNat < n by omega) J157 m158 (show (-2147483648 ≤ x1 ∧ x1 ≤ 2147483647) by omega) (show (-2147483648 ≤ 0 ∧ 0 ≤ 2147483647) by omega) (show (-2147483648 ≤ b15 ∧ b15 ≤ 2147483647) by omega) (show x1 = z11713 by omega) (show 0 ≤ x1 by omega) (show (0 = 0 ∨ 0 = 1) by omega) (show x1 ≤ (f22 11713) by omega) (show (f22 11713) ≤ x1 + 16 - 16 * 0 by omega) (show zp0 + 1 + 0 ≤ am_at (a22 124) 0 + 2 * (v155) + 2 * z11713 by omega) (show zph + 1 ≤ am_ph f22 a22  + (v155) by omega) (show (0 ≤ b15 → (f22 11755) + 1 ≤ am_ph f22 a22  - zph) by omega) (show (f22 11755) ≤ am_ph f22 a22  - zph by omega) (show (f22 11709) = z11709 by omega) (show (f22 11718) = z11718 by omega) (show (f22 11741) = z11741 by omega) (show (f22 11750) = z11750 by omega) (show (f22 11753) = z11753 by omega) (show (f22 11757) = z11757 by omega) (show (f22 11763) = z11763 by omega) (show zph ≤ am_ph f22 a22  by omega) (show zp0 ≤ am_at (a22 124) 0 by omega) (show zph ≥ 0 by omega) (show zp0 ≥ 0 by omega)) (by simp)
                    · refine am_raload_n rfl rfl rfl ?_
                      have J167 := am_Rf11701 (v := v155) hI24 (by omega) (by omega)
                      refine am_evirtualI (m := am_m131) (As := [.ref 117]) (S1 := []) rfl rfl rfl rfl rfl rfl rfl rfl rfl rfl (am_TE.int (am_ct132  (by omega) J167) (fun b168 f168 a168 hq169 => ?_) (fun _ _ _ h => h))
                      have m172 : am_mn fz az (am_ud f22 11701 v155) a22 := am_mn.halt hm27 (by omega)
                      obtain ⟨hI170, hk171, hq169⟩ := hq169
                      replace hq169 : (-2147483648 ≤ b168 ∧ b168 ≤ 2147483647) ∧ -1 ≤ b168 ∧ ((f22 11713)) ≤ f168 11713 ∧ f168 11713 ≤ ((f22 11713)) + 1 := hq169
                      have mm173 : v155 ≤ f168 11701 ∧ am_ph f22 a22 ≤ am_ph f168 a168 ∧ am_at (a22 124) 0 ≤ am_at (a168 124) 0 ∧ am_at (a168 125) 0 = am_at (a22 125) 0 := hk171.1
                      have hm174 := am_mn.trans m172 hk171.1
                      have t175 : f168 11709 = f22 11709 := hk171.2.1 11709 rfl
                      have t176 : f168 11718 = f22 11718 := hk171.2.1 11718 rfl
                      have t177 : f168 11741 = f22 11741 := hk171.2.1 11741 rfl
                      have t178 : f168 11750 = f22 11750 := hk171.2.1 11750 rfl
                      have t179 : f168 11753 = f22 11753 := hk171.2.1 11753 rfl
                      have t180 : f168 11757 = f22 11757 := hk171.2.1 11757 rfl
                      have t181 : f168 11763 = f22 11763 := hk171.2.1 11763 rfl
                      have t182 : f168 11755 = f22 11755 := hk171.2.1 11755 rfl
                      refine am_ristore (L1 := [(0, .ref 117), (1, am_iv x1), (2, am_iv 0), (3, am_iv b15), (4, am_iv b168)]) rfl rfl rfl rfl rfl ?_
                      have q183 := am_Rg11701 hI170.1.1
                      have q184 := am_Rg11713 hI170.1.1
                      have q185 := am_Rg11755 hI170.1.1
                      have q186 := am_Rg11709 hI170.1.1
                      have q187 := am_Rg11718 hI170.1.1
                      have q188 := am_Rg11741 hI170.1.1
                      have q189 := am_Rg11750 hI170.1.1
                      have q190 := am_Rg11753 hI170.1.1
                      have q191 := am_Rg11757 hI170.1.1
                      have q192 := am_Rg11763 hI170.1.1
                      exact am_T.drop (L1 := [(0, .ref 117), (1, am_iv x1), (2, am_iv 0), (4, am_iv b168)]) (ih.2 (by omega) hI170 hm174 (by omega) (by omega) (by omega) (by omega) (by omega) (by omega) (by omega) (by omega) (by omega) (by omega) (by omega) (by omega) (by omega) (by omega) (by omega) (by omega) (by omega) (by omega) (by omega) (by omega) (by omega) (by omega) (by omega)) (by simp)
                · refine am_riconst rfl ?_
                  refine am_rgoto rfl rfl ?_
                  refine am_ristore_n (L1 := [(0, .ref 117), (1, am_iv x1), (2, am_iv 1), (3, am_iv b15), (4, am_iv b15)]) rfl rfl rfl rfl rfl ?_
                  refine am_riload_n rfl rfl rfl ?_
                  refine am_rbipush rfl (by decide) ?_
                  refine am_ric_ne rfl rfl (by unfold am_rg; omega) (by unfold am_rg; omega) (fun hc193 => ?_) (fun hc193 => ?_)
                  · refine am_riload_n rfl rfl rfl ?_
                    refine am_rbipush rfl (by decide) ?_
                    refine am_ric_ne rfl rfl (by unfold am_rg; omega) (by unfold am_rg; omega) (fun hc194 => ?_) (fun hc194 => ?_)
                    · have q195 := am_Rg11701 hI24.1.1
                      have q196 := am_Rg11755 hI24.1.1
                      have q197 := am_Rg11709 hI24.1.1
                      have q198 := am_Rg11718 hI24.1.1
                      have q199 := am_Rg11741 hI24.1.1
                      have q200 := am_Rg11750 hI24.1.1
                      have q201 := am_Rg11753 hI24.1.1
                      have q202 := am_Rg11757 hI24.1.1
                      have q203 := am_Rg11763 hI24.1.1
                      exact am_T.drop (L1 := [(0, .ref 117), (1, am_iv x1), (2, am_iv 1), (4, am_iv b15)]) (ih.2 (by omega) hI24 hm27 (by omega) (by omega) (by omega) (by omega) (by omega) (by omega) (by omega) (by omega) (by omega) (by omega) (by omega) (by omega) (by omega) (by omega) (by omega) (by omega) (by omega) (by omega) (by omega) (by omega) (by omega) (by omega) (by omega)) (by simp)
                    · refine am_raload_n rfl rfl rfl ?_
                      refine am_evirtualI (m := am_m131) (As := [.ref 117]) (S1 := []) rfl rfl rfl rfl rfl rfl rfl rfl rfl rfl (am_TE.int (am_ct132  (by omega) hI24) (fun b204 f204 a204 hq205 => ?_) (fun _ _ _ h => h))
                      obtain ⟨hI206, hk207, hq205⟩ := hq205
                      replace hq205 : (-2147483648 ≤ b204 ∧ b204 ≤ 2147483647) ∧ -1 ≤ b204 ∧ ((f22 11713)) ≤ f204 11713 ∧ f204 11713 ≤ ((f22 11713)) + 1 := hq205
                      have mm208 : f22 11701 ≤ f204 11701 ∧ am_ph f22 a22 ≤ am_ph f204 a204 ∧ am_at (a22 124) 0 ≤ am_at (a204 124) 0 ∧ am_at (a204 125) 0 = am_at (a22 125) 0 := hk207.1
                      have hm209 := am_mn.trans hm27 hk207.1
                      have t210 : f204 11709 = f22 11709 := hk207.2.1 11709 rfl
                      have t211 : f204 11718 = f22 11718 := hk207.2.1 11718 rfl
                      have t212 : f204 11741 = f22 11741 := hk207.2.1 11741 rfl
                      have t213 : f204 11750 = f22 11750 := hk207.2.1 11750 rfl
                      have t214 : f204 11753 = f22 11753 := hk207.2.1 11753 rfl
                      have t215 : f204 11757 = f22 11757 := hk207.2.1 11757 rfl
                      have t216 : f204 11763 = f22 11763 := hk207.2.1 11763 rfl
                      have t217 : f204 11755 = f22 11755 := hk207.2.1 11755 rfl
                      refine am_ristore (L1 := [(0, .ref 117), (1, am_iv x1), (2, am_iv 1), (3, am_iv b15), (4, am_iv b204)]) rfl rfl rfl rfl rfl ?_
                      have q218 := am_Rg11701 hI206.1.1
                      have q219 := am_Rg11713 hI206.1.1
                      have q220 := am_Rg11755 hI206.1.1
                      have q221 := am_Rg11709 hI206.1.1
                      have q222 := am_Rg11718 hI206.1.1
                      have q223 := am_Rg11741 hI206.1.1
                      have q224 := am_Rg11750 hI206.1.1
                      have q225 := am_Rg11753 hI206.1.1
                      have q226 := am_Rg11757 hI206.1.1
                      have q227 := am_Rg11763 hI206.1.1
                      exact am_T.drop (L1 := [(0, .ref 117), (1, am_iv x1), (2, am_iv 1), (4, am_iv b204)]) (ih.2 (by omega) hI206 hm209 (by omega) (by omega) (by omega) (by omega) (by omega) (by omega) (by omega) (by omega) (by omega) (by omega) (by omega) (by omega) (by omega) (by omega) (by omega) (by omega) (by omega) (by omega) (by omega) (by omega) (by omega) (by omega) (by omega)) (by simp)
                  · refine am_raload_n rfl rfl rfl ?_
                    refine am_riconst rfl ?_
                    have q228 := am_Rg11701 hI24.1.1
                    refine am_evirtualV (m := am_m116) (As := [.ref 117, am_iv 1]) (S1 := []) rfl rfl rfl rfl rfl rfl rfl rfl rfl rfl (am_TE.void (am_ct117 (y1 := 1) (by omega) (by omega) (show 1 ≤ 1 by omega) (show 1 ≤ 3 by omega) (show 0 ≤ (f22 11701) by omega) (show (f22 11701) ≤ 3 by omega)) (fun f229 a229 hq230 => ?_) (fun _ _ _ h => h))
                    obtain ⟨v231, rfl, rfl, hq230⟩ := hq230
                    replace hq230 : 0 < v231 ∧ v231 ≤ 3 ∧ f22 11701 ≤ v231 := hq230
                    refine am_riload_n rfl rfl rfl ?_
                    refine am_rbipush rfl (by decide) ?_
                    refine am_ric_ne rfl rfl (by unfold am_rg; omega) (by unfold am_rg; omega) (fun hc232 => ?_) (fun hc232 => ?_)
                    · have J233 := am_Rf11701 (v := v231) hI24 (by omega) (by omega)
                      have m234 : am_mn fz az (am_ud f22 11701 v231) a22 := am_mn.halt hm27 (by omega)
                      have q235 := am_Rg11755 hI24.1.1
                      have q236 := am_Rg11709 hI24.1.1
                      have q237 := am_Rg11718 hI24.1.1
                      have q238 := am_Rg11741 hI24.1.1
                      have q239 := am_Rg11750 hI24.1.1
                      have q240 := am_Rg11753 hI24.1.1
                      have q241 := am_Rg11757 hI24.1.1
                      have q242 := am_Rg11763 hI24.1.1
                      exact am_T.drop (L1 := [(0, .ref 117), (1, am_iv x1), (2, am_iv 1), (4, am_iv b15)]) (ih.2 (show (2 * (200 * (3500 - am_ph f22 a22 ) + 8 * (f22 11713) + 3 - (v231)) + 1).toNat < n by omega) J233 m234 (show (-2147483648 ≤ x1 ∧ x1 ≤ 2147483647) by omega) (show (-2147483648 ≤ 1 ∧ 1 ≤ 2147483647) by omega) (show (-2147483648 ≤ b15 ∧ b15 ≤ 2147483647) by omega) (show x1 = z11713 by omega) (show 0 ≤ x1 by omega) (show (1 = 0 ∨ 1 = 1) by omega) (show x1 ≤ (f22 11713) by omega) (show (f22 11713) ≤ x1 + 16 - 16 * 1 by omega) (show zp0 + 1 + 1 ≤ am_at (a22 124) 0 + 2 * (v231) + 2 * z11713 by omega) (show zph + 1 ≤ am_ph f22 a22  + (v231) by omega) (show (0 ≤ b15 → (f22 11755) + 1 ≤ am_ph f22 a22  - zph) by omega) (show (f22 11755) ≤ am_ph f22 a22  - zph by omega) (show (f22 11709) = z11709 by omega) (show (f22 11718) = z11718 by omega) (show (f22 11741) = z11741 by omega) (show (f22 11750) = z11750 by omega) (show (f22 11753) = z11753 by omega) (show (f22 11757) = z11757 by omega) (show (f22 11763) = z11763 by omega) (show zph ≤ am_ph f22 a22  by omega) (show zp0 ≤ am_at (a22 124) 0 by omega) (show zph ≥ 0 by omega) (show zp0 ≥ 0 by omega)) (by simp)
                    · refine am_raload_n rfl rfl rfl ?_
                      have J243 := am_Rf11701 (v := v231) hI24 (by omega) (by omega)
                      refine am_evirtualI (m := am_m131) (As := [.ref 117]) (S1 := []) rfl rfl rfl rfl rfl rfl rfl rfl rfl rfl (am_TE.int (am_ct132  (by omega) J243) (fun b244 f244 a244 hq245 => ?_) (fun _ _ _ h => h))
                      have m248 : am_mn fz az (am_ud f22 11701 v231) a22 := am_mn.halt hm27 (by omega)
                      obtain ⟨hI246, hk247, hq245⟩ := hq245
                      replace hq245 : (-2147483648 ≤ b244 ∧ b244 ≤ 2147483647) ∧ -1 ≤ b244 ∧ ((f22 11713)) ≤ f244 11713 ∧ f244 11713 ≤ ((f22 11713)) + 1 := hq245
                      have mm249 : v231 ≤ f244 11701 ∧ am_ph f22 a22 ≤ am_ph f244 a244 ∧ am_at (a22 124) 0 ≤ am_at (a244 124) 0 ∧ am_at (a244 125) 0 = am_at (a22 125) 0 := hk247.1
                      have hm250 := am_mn.trans m248 hk247.1
                      have t251 : f244 11709 = f22 11709 := hk247.2.1 11709 rfl
                      have t252 : f244 11718 = f22 11718 := hk247.2.1 11718 rfl
                      have t253 : f244 11741 = f22 11741 := hk247.2.1 11741 rfl
                      have t254 : f244 11750 = f22 11750 := hk247.2.1 11750 rfl
                      have t255 : f244 11753 = f22 11753 := hk247.2.1 11753 rfl
                      have t256 : f244 11757 = f22 11757 := hk247.2.1 11757 rfl
                      have t257 : f244 11763 = f22 11763 := hk247.2.1 11763 rfl
                      have t258 : f244 11755 = f22 11755 := hk247.2.1 11755 rfl
                      refine am_ristore (L1 := [(0, .ref 117), (1, am_iv x1), (2, am_iv 1), (3, am_iv b15), (4, am_iv b244)]) rfl rfl rfl rfl rfl ?_
                      have q259 := am_Rg11701 hI246.1.1
                      have q260 := am_Rg11713 hI246.1.1
                      have q261 := am_Rg11755 hI246.1.1
                      have q262 := am_Rg11709 hI246.1.1
                      have q263 := am_Rg11718 hI246.1.1
                      have q264 := am_Rg11741 hI246.1.1
                      have q265 := am_Rg11750 hI246.1.1
                      have q266 := am_Rg11753 hI246.1.1
                      have q267 := am_Rg11757 hI246.1.1
                      have q268 := am_Rg11763 hI246.1.1
                      exact am_T.drop (L1 := [(0, .ref 117), (1, am_iv x1), (2, am_iv 1), (4, am_iv b244)]) (ih.2 (by omega) hI246 hm250 (by omega) (by omega) (by omega) (by omega) (by omega) (by omega) (by omega) (by omega) (by omega) (by omega) (by omega) (by omega) (by omega) (by omega) (by omega) (by omega) (by omega) (by omega) (by omega) (by omega) (by omega) (by omega) (by omega)) (by simp)
            · refine am_riconst rfl ?_
              refine am_ristore (L1 := [(0, .ref 117), (1, am_iv x1), (2, am_iv x2), (3, am_iv b15), (4, am_iv ((-1)))]) rfl rfl rfl rfl rfl ?_
              refine am_raload_n rfl rfl rfl ?_
              refine am_rgetf (S1 := [am_iv (f 11713)]) rfl rfl ?_
              refine am_riload_n rfl rfl rfl ?_
              refine am_ric_le rfl rfl (by unfold am_rg; omega) (by unfold am_rg; omega) (fun hc269 => ?_) (fun hc269 => ?_)
              · refine am_raload_n rfl rfl rfl ?_
                refine am_riconst rfl ?_
                refine am_evirtualV (m := am_m116) (As := [.ref 117, am_iv 1]) (S1 := []) rfl rfl rfl rfl rfl rfl rfl rfl rfl rfl (am_TE.void (am_ct117 (y1 := 1) (by omega) (by omega) (show 1 ≤ 1 by omega) (show 1 ≤ 3 by omega) (show 0 ≤ (f 11701) by omega) (show (f 11701) ≤ 3 by omega)) (fun f270 a270 hq271 => ?_) (fun _ _ _ h => h))
                obtain ⟨v272, rfl, rfl, hq271⟩ := hq271
                replace hq271 : 0 < v272 ∧ v272 ≤ 3 ∧ f 11701 ≤ v272 := hq271
                refine am_rgoto rfl rfl ?_
                have J273 := am_Rf11701 (v := v272) hI (by omega) (by omega)
                have m274 : am_mn fz az (am_ud f 11701 v272) a := am_mn.halt hp0 (by omega)
                exact am_T.drop (L1 := [(0, .ref 117), (1, am_iv x1), (2, am_iv x2), (4, am_iv ((-1)))]) (ih.2 (show (2 * (200 * (3500 - am_ph f a ) + 8 * (f 11713) + 3 - (v272)) + 1).toNat < n by omega) J273 m274 (show (-2147483648 ≤ x1 ∧ x1 ≤ 2147483647) by omega) (show (-2147483648 ≤ x2 ∧ x2 ≤ 2147483647) by omega) (show (-2147483648 ≤ ((-1)) ∧ ((-1)) ≤ 2147483647) by omega) (show x1 = z11713 by omega) (show 0 ≤ x1 by omega) (show (x2 = 0 ∨ x2 = 1) by omega) (show x1 ≤ (f 11713) by omega) (show (f 11713) ≤ x1 + 16 - 16 * x2 by omega) (show zp0 + 1 + x2 ≤ am_at (a 124) 0 + 2 * (v272) + 2 * z11713 by omega) (show zph + 1 ≤ am_ph f a  + (v272) by omega) (show (0 ≤ ((-1)) → (f 11755) + 1 ≤ am_ph f a  - zph) by omega) (show (f 11755) ≤ am_ph f a  - zph by omega) (show (f 11709) = z11709 by omega) (show (f 11718) = z11718 by omega) (show (f 11741) = z11741 by omega) (show (f 11750) = z11750 by omega) (show (f 11753) = z11753 by omega) (show (f 11757) = z11757 by omega) (show (f 11763) = z11763 by omega) (show zph ≤ am_ph f a  by omega) (show zp0 ≤ am_at (a 124) 0 by omega) (show zph ≥ 0 by omega) (show zp0 ≥ 0 by omega)) (by simp)
              · refine am_raload_n rfl rfl rfl ?_
                have ok275 : am_at (a 124) (f 11713) = am_at (a 125) (f 11713) := am_PK.no hq16.2.2.1 (by omega) (show f 11701 = 0 by omega)
                refine am_evirtualV (m := am_m133) (As := [.ref 117]) (S1 := []) rfl rfl rfl rfl rfl rfl rfl rfl rfl rfl (am_TE.void (am_ct134  (by omega) hI (show 1 ≤ (f 11713) by omega) (show am_at (a 124) ((f 11713)) = am_at (a 125) ((f 11713)) by omega)) (fun f276 a276 hq277 => ?_) (fun _ _ _ h => h))
                obtain ⟨hI278, hk279, hq277⟩ := hq277
                replace hq277 : f276 11701 = ((f 11701)) ∧ f276 11713 = ((f 11713)) - 1 ∧ am_ph f276 a276 = (am_ph f a ) ∧ am_at (a276 124) 0 = (am_at (a 124) 0) := hq277
                have mm280 : f 11701 ≤ f276 11701 ∧ am_ph f a ≤ am_ph f276 a276 ∧ am_at (a 124) 0 ≤ am_at (a276 124) 0 ∧ am_at (a276 125) 0 = am_at (a 125) 0 := hk279.1
                have hm281 := am_mn.trans hp0 hk279.1
                have t282 : f276 11709 = f 11709 := hk279.2.1 11709 rfl
                have t283 : f276 11718 = f 11718 := hk279.2.1 11718 rfl
                have t284 : f276 11741 = f 11741 := hk279.2.1 11741 rfl
                have t285 : f276 11750 = f 11750 := hk279.2.1 11750 rfl
                have t286 : f276 11753 = f 11753 := hk279.2.1 11753 rfl
                have t287 : f276 11757 = f 11757 := hk279.2.1 11757 rfl
                have t288 : f276 11763 = f 11763 := hk279.2.1 11763 rfl
                have t289 : f276 11755 = f 11755 := hk279.2.1 11755 rfl
                refine am_rgoto rfl rfl ?_
                have q290 := am_Rg11701 hI278.1.1
                have q291 := am_Rg11713 hI278.1.1
                have q292 := am_Rg11755 hI278.1.1
                have q293 := am_Rg11709 hI278.1.1
                have q294 := am_Rg11718 hI278.1.1
                have q295 := am_Rg11741 hI278.1.1
                have q296 := am_Rg11750 hI278.1.1
                have q297 := am_Rg11753 hI278.1.1
                have q298 := am_Rg11757 hI278.1.1
                have q299 := am_Rg11763 hI278.1.1
                exact am_T.drop (L1 := [(0, .ref 117), (1, am_iv x1), (2, am_iv x2), (4, am_iv ((-1)))]) (ih.2 (by omega) hI278 hm281 (by omega) (by omega) (by omega) (by omega) (by omega) (by omega) (by omega) (by omega) (by omega) (by omega) (by omega) (by omega) (by omega) (by omega) (by omega) (by omega) (by omega) (by omega) (by omega) (by omega) (by omega) (by omega) (by omega)) (by simp)
          · refine am_rbipush rfl (by decide) ?_
            refine am_rgoto rfl rfl ?_
            refine am_ristore (L1 := [(0, .ref 117), (1, am_iv x1), (2, am_iv x2), (3, am_iv b15), (4, am_iv 32)]) rfl rfl rfl rfl rfl ?_
            refine am_riload_n rfl rfl rfl ?_
            refine am_rif_ge rfl rfl (by unfold am_rg; omega) (fun hc300 => ?_) (fun hc300 => ?_)
            · refine am_raload_n rfl rfl rfl ?_
              have ok301 : f 11701 = 0 ∧ am_at (a 124) (f 11713) < am_at (a 125) (f 11713) := am_PK.ok hq16.2.2.1 (by omega)
              refine am_evirtualV (m := am_m122) (As := [.ref 117]) (S1 := []) rfl rfl rfl rfl rfl rfl rfl rfl rfl rfl (am_TE.void (am_ct123  (by omega) hI (show am_at (a 124) ((f 11713)) < am_at (a 125) ((f 11713)) by omega)) (fun f302 a302 hq303 => ?_) (fun _ _ _ h => h))
              obtain ⟨hI304, hk305, hq303⟩ := hq303
              replace hq303 : f302 11701 = ((f 11701)) ∧ f302 11713 = ((f 11713)) ∧ am_ph f302 a302 = (am_ph f a ) + 1 ∧ (((f 11713)) = 0 → am_at (a302 124) 0 = (am_at (a 124) 0) + 1) := hq303
              have mm306 : f 11701 ≤ f302 11701 ∧ am_ph f a ≤ am_ph f302 a302 ∧ am_at (a 124) 0 ≤ am_at (a302 124) 0 ∧ am_at (a302 125) 0 = am_at (a 125) 0 := hk305.1
              have hm307 := am_mn.trans hp0 hk305.1
              have t308 : f302 11709 = f 11709 := hk305.2.1 11709 rfl
              have t309 : f302 11718 = f 11718 := hk305.2.1 11718 rfl
              have t310 : f302 11741 = f 11741 := hk305.2.1 11741 rfl
              have t311 : f302 11750 = f 11750 := hk305.2.1 11750 rfl
              have t312 : f302 11753 = f 11753 := hk305.2.1 11753 rfl
              have t313 : f302 11757 = f 11757 := hk305.2.1 11757 rfl
              have t314 : f302 11763 = f 11763 := hk305.2.1 11763 rfl
              have t315 : f302 11755 = f 11755 := hk305.2.1 11755 rfl
              refine am_riload_n rfl rfl rfl ?_
              refine am_rbipush rfl (by decide) ?_
              refine am_ric_ne rfl rfl (by unfold am_rg; omega) (by unfold am_rg; omega) (fun hc316 => ?_) (fun hc316 => ?_)
              · refine am_riconst rfl ?_
                refine am_ristore_n (L1 := [(0, .ref 117), (1, am_iv x1), (2, am_iv 0), (3, am_iv b15), (4, am_iv 32)]) rfl rfl rfl rfl rfl ?_
                refine am_riload_n rfl rfl rfl ?_
                refine am_rbipush rfl (by decide) ?_
                refine am_ric_ne rfl rfl (by unfold am_rg; omega) (by unfold am_rg; omega) (fun hc317 => ?_) (fun hc317 => ?_)
                · refine am_riload_n rfl rfl rfl ?_
                  refine am_rbipush rfl (by decide) ?_
                  refine am_ric_ne rfl rfl (by unfold am_rg; omega) (by unfold am_rg; omega) (fun hc318 => ?_) (fun hc318 => ?_)
                  · have q319 := am_Rg11701 hI304.1.1
                    have q320 := am_Rg11713 hI304.1.1
                    have q321 := am_Rg11755 hI304.1.1
                    have q322 := am_Rg11709 hI304.1.1
                    have q323 := am_Rg11718 hI304.1.1
                    have q324 := am_Rg11741 hI304.1.1
                    have q325 := am_Rg11750 hI304.1.1
                    have q326 := am_Rg11753 hI304.1.1
                    have q327 := am_Rg11757 hI304.1.1
                    have q328 := am_Rg11763 hI304.1.1
                    exact am_T.drop (L1 := [(0, .ref 117), (1, am_iv x1), (2, am_iv 0), (4, am_iv 32)]) (ih.2 (by omega) hI304 hm307 (by omega) (by omega) (by omega) (by omega) (by omega) (by omega) (by omega) (by omega) (by omega) (by omega) (by omega) (by omega) (by omega) (by omega) (by omega) (by omega) (by omega) (by omega) (by omega) (by omega) (by omega) (by omega) (by omega)) (by simp)
                  · refine am_raload_n rfl rfl rfl ?_
                    refine am_evirtualI (m := am_m131) (As := [.ref 117]) (S1 := []) rfl rfl rfl rfl rfl rfl rfl rfl rfl rfl (am_TE.int (am_ct132  (by omega) hI304) (fun b329 f329 a329 hq330 => ?_) (fun _ _ _ h => h))
                    obtain ⟨hI331, hk332, hq330⟩ := hq330
                    replace hq330 : (-2147483648 ≤ b329 ∧ b329 ≤ 2147483647) ∧ -1 ≤ b329 ∧ ((f302 11713)) ≤ f329 11713 ∧ f329 11713 ≤ ((f302 11713)) + 1 := hq330
                    have mm333 : f302 11701 ≤ f329 11701 ∧ am_ph f302 a302 ≤ am_ph f329 a329 ∧ am_at (a302 124) 0 ≤ am_at (a329 124) 0 ∧ am_at (a329 125) 0 = am_at (a302 125) 0 := hk332.1
                    have hm334 := am_mn.trans hm307 hk332.1
                    have t335 : f329 11709 = f302 11709 := hk332.2.1 11709 rfl
                    have t336 : f329 11718 = f302 11718 := hk332.2.1 11718 rfl
                    have t337 : f329 11741 = f302 11741 := hk332.2.1 11741 rfl
                    have t338 : f329 11750 = f302 11750 := hk332.2.1 11750 rfl
                    have t339 : f329 11753 = f302 11753 := hk332.2.1 11753 rfl
                    have t340 : f329 11757 = f302 11757 := hk332.2.1 11757 rfl
                    have t341 : f329 11763 = f302 11763 := hk332.2.1 11763 rfl
                    have t342 : f329 11755 = f302 11755 := hk332.2.1 11755 rfl
                    refine am_ristore (L1 := [(0, .ref 117), (1, am_iv x1), (2, am_iv 0), (3, am_iv b15), (4, am_iv b329)]) rfl rfl rfl rfl rfl ?_
                    have q343 := am_Rg11701 hI331.1.1
                    have q344 := am_Rg11713 hI331.1.1
                    have q345 := am_Rg11755 hI331.1.1
                    have q346 := am_Rg11709 hI331.1.1
                    have q347 := am_Rg11718 hI331.1.1
                    have q348 := am_Rg11741 hI331.1.1
                    have q349 := am_Rg11750 hI331.1.1
                    have q350 := am_Rg11753 hI331.1.1
                    have q351 := am_Rg11757 hI331.1.1
                    have q352 := am_Rg11763 hI331.1.1
                    exact am_T.drop (L1 := [(0, .ref 117), (1, am_iv x1), (2, am_iv 0), (4, am_iv b329)]) (ih.2 (by omega) hI331 hm334 (by omega) (by omega) (by omega) (by omega) (by omega) (by omega) (by omega) (by omega) (by omega) (by omega) (by omega) (by omega) (by omega) (by omega) (by omega) (by omega) (by omega) (by omega) (by omega) (by omega) (by omega) (by omega) (by omega)) (by simp)
                · refine am_raload_n rfl rfl rfl ?_
                  refine am_riconst rfl ?_
                  have q353 := am_Rg11701 hI304.1.1
                  refine am_evirtualV (m := am_m116) (As := [.ref 117, am_iv 1]) (S1 := []) rfl rfl rfl rfl rfl rfl rfl rfl rfl rfl (am_TE.void (am_ct117 (y1 := 1) (by omega) (by omega) (show 1 ≤ 1 by omega) (show 1 ≤ 3 by omega) (show 0 ≤ (f302 11701) by omega) (show (f302 11701) ≤ 3 by omega)) (fun f354 a354 hq355 => ?_) (fun _ _ _ h => h))
                  obtain ⟨v356, rfl, rfl, hq355⟩ := hq355
                  replace hq355 : 0 < v356 ∧ v356 ≤ 3 ∧ f302 11701 ≤ v356 := hq355
                  refine am_riload_n rfl rfl rfl ?_
                  refine am_rbipush rfl (by decide) ?_
                  refine am_ric_ne rfl rfl (by unfold am_rg; omega) (by unfold am_rg; omega) (fun hc357 => ?_) (fun hc357 => ?_)
                  · have J358 := am_Rf11701 (v := v356) hI304 (by omega) (by omega)
                    have m359 : am_mn fz az (am_ud f302 11701 v356) a302 := am_mn.halt hm307 (by omega)
                    have q360 := am_Rg11713 hI304.1.1
                    have q361 := am_Rg11755 hI304.1.1
                    have q362 := am_Rg11709 hI304.1.1
                    have q363 := am_Rg11718 hI304.1.1
                    have q364 := am_Rg11741 hI304.1.1
                    have q365 := am_Rg11750 hI304.1.1
                    have q366 := am_Rg11753 hI304.1.1
                    have q367 := am_Rg11757 hI304.1.1
                    have q368 := am_Rg11763 hI304.1.1
                    exact am_T.drop (L1 := [(0, .ref 117), (1, am_iv x1), (2, am_iv 0), (4, am_iv 32)]) (ih.2 (show (2 * (200 * (3500 - am_ph f302 a302 ) + 8 * (f302 11713) + 3 - (v356)) + 1).toNat < n by omega) J358 m359 (show (-2147483648 ≤ x1 ∧ x1 ≤ 2147483647) by omega) (show (-2147483648 ≤ 0 ∧ 0 ≤ 2147483647) by omega) (show (-2147483648 ≤ 32 ∧ 32 ≤ 2147483647) by omega) (show x1 = z11713 by omega) (show 0 ≤ x1 by omega) (show (0 = 0 ∨ 0 = 1) by omega) (show x1 ≤ (f302 11713) by omega) (show (f302 11713) ≤ x1 + 16 - 16 * 0 by omega) (show zp0 + 1 + 0 ≤ am_at (a302 124) 0 + 2 * (v356) + 2 * z11713 by omega) (show zph + 1 ≤ am_ph f302 a302  + (v356) by omega) (show (0 ≤ 32 → (f302 11755) + 1 ≤ am_ph f302 a302  - zph) by omega) (show (f302 11755) ≤ am_ph f302 a302  - zph by omega) (show (f302 11709) = z11709 by omega) (show (f302 11718) = z11718 by omega) (show (f302 11741) = z11741 by omega) (show (f302 11750) = z11750 by omega) (show (f302 11753) = z11753 by omega) (show (f302 11757) = z11757 by omega) (show (f302 11763) = z11763 by omega) (show zph ≤ am_ph f302 a302  by omega) (show zp0 ≤ am_at (a302 124) 0 by omega) (show zph ≥ 0 by omega) (show zp0 ≥ 0 by omega)) (by simp)
                  · refine am_raload_n rfl rfl rfl ?_
                    have J369 := am_Rf11701 (v := v356) hI304 (by omega) (by omega)
                    refine am_evirtualI (m := am_m131) (As := [.ref 117]) (S1 := []) rfl rfl rfl rfl rfl rfl rfl rfl rfl rfl (am_TE.int (am_ct132  (by omega) J369) (fun b370 f370 a370 hq371 => ?_) (fun _ _ _ h => h))
                    have m374 : am_mn fz az (am_ud f302 11701 v356) a302 := am_mn.halt hm307 (by omega)
                    obtain ⟨hI372, hk373, hq371⟩ := hq371
                    replace hq371 : (-2147483648 ≤ b370 ∧ b370 ≤ 2147483647) ∧ -1 ≤ b370 ∧ ((f302 11713)) ≤ f370 11713 ∧ f370 11713 ≤ ((f302 11713)) + 1 := hq371
                    have mm375 : v356 ≤ f370 11701 ∧ am_ph f302 a302 ≤ am_ph f370 a370 ∧ am_at (a302 124) 0 ≤ am_at (a370 124) 0 ∧ am_at (a370 125) 0 = am_at (a302 125) 0 := hk373.1
                    have hm376 := am_mn.trans m374 hk373.1
                    have t377 : f370 11709 = f302 11709 := hk373.2.1 11709 rfl
                    have t378 : f370 11718 = f302 11718 := hk373.2.1 11718 rfl
                    have t379 : f370 11741 = f302 11741 := hk373.2.1 11741 rfl
                    have t380 : f370 11750 = f302 11750 := hk373.2.1 11750 rfl
                    have t381 : f370 11753 = f302 11753 := hk373.2.1 11753 rfl
                    have t382 : f370 11757 = f302 11757 := hk373.2.1 11757 rfl
                    have t383 : f370 11763 = f302 11763 := hk373.2.1 11763 rfl
                    have t384 : f370 11755 = f302 11755 := hk373.2.1 11755 rfl
                    refine am_ristore (L1 := [(0, .ref 117), (1, am_iv x1), (2, am_iv 0), (3, am_iv b15), (4, am_iv b370)]) rfl rfl rfl rfl rfl ?_
                    have q385 := am_Rg11701 hI372.1.1
                    have q386 := am_Rg11713 hI372.1.1
                    have q387 := am_Rg11755 hI372.1.1
                    have q388 := am_Rg11709 hI372.1.1
                    have q389 := am_Rg11718 hI372.1.1
                    have q390 := am_Rg11741 hI372.1.1
                    have q391 := am_Rg11750 hI372.1.1
                    have q392 := am_Rg11753 hI372.1.1
                    have q393 := am_Rg11757 hI372.1.1
                    have q394 := am_Rg11763 hI372.1.1
                    exact am_T.drop (L1 := [(0, .ref 117), (1, am_iv x1), (2, am_iv 0), (4, am_iv b370)]) (ih.2 (by omega) hI372 hm376 (by omega) (by omega) (by omega) (by omega) (by omega) (by omega) (by omega) (by omega) (by omega) (by omega) (by omega) (by omega) (by omega) (by omega) (by omega) (by omega) (by omega) (by omega) (by omega) (by omega) (by omega) (by omega) (by omega)) (by simp)
              · refine am_raload_n rfl rfl rfl ?_
                have q395 := am_Rg11713 hI304.1.1
                refine am_rgetf (S1 := [am_iv (f302 11713)]) rfl rfl ?_
                refine am_riload_n rfl rfl rfl ?_
                refine am_ric_ne rfl rfl (by unfold am_rg; omega) (by unfold am_rg; omega) (fun hc396 => ?_) (fun hc396 => ?_)
                · refine am_riconst rfl ?_
                  refine am_ristore_n (L1 := [(0, .ref 117), (1, am_iv x1), (2, am_iv 0), (3, am_iv b15), (4, am_iv 32)]) rfl rfl rfl rfl rfl ?_
                  refine am_riload_n rfl rfl rfl ?_
                  refine am_rbipush rfl (by decide) ?_
                  refine am_ric_ne rfl rfl (by unfold am_rg; omega) (by unfold am_rg; omega) (fun hc397 => ?_) (fun hc397 => ?_)
                  · refine am_riload_n rfl rfl rfl ?_
                    refine am_rbipush rfl (by decide) ?_
                    refine am_ric_ne rfl rfl (by unfold am_rg; omega) (by unfold am_rg; omega) (fun hc398 => ?_) (fun hc398 => ?_)
                    · have q399 := am_Rg11701 hI304.1.1
                      have q400 := am_Rg11755 hI304.1.1
                      have q401 := am_Rg11709 hI304.1.1
                      have q402 := am_Rg11718 hI304.1.1
                      have q403 := am_Rg11741 hI304.1.1
                      have q404 := am_Rg11750 hI304.1.1
                      have q405 := am_Rg11753 hI304.1.1
                      have q406 := am_Rg11757 hI304.1.1
                      have q407 := am_Rg11763 hI304.1.1
                      exact am_T.drop (L1 := [(0, .ref 117), (1, am_iv x1), (2, am_iv 0), (4, am_iv 32)]) (ih.2 (by omega) hI304 hm307 (by omega) (by omega) (by omega) (by omega) (by omega) (by omega) (by omega) (by omega) (by omega) (by omega) (by omega) (by omega) (by omega) (by omega) (by omega) (by omega) (by omega) (by omega) (by omega) (by omega) (by omega) (by omega) (by omega)) (by simp)
                    · refine am_raload_n rfl rfl rfl ?_
                      refine am_evirtualI (m := am_m131) (As := [.ref 117]) (S1 := []) rfl rfl rfl rfl rfl rfl rfl rfl rfl rfl (am_TE.int (am_ct132  (by omega) hI304) (fun b408 f408 a408 hq409 => ?_) (fun _ _ _ h => h))
                      obtain ⟨hI410, hk411, hq409⟩ := hq409
                      replace hq409 : (-2147483648 ≤ b408 ∧ b408 ≤ 2147483647) ∧ -1 ≤ b408 ∧ ((f302 11713)) ≤ f408 11713 ∧ f408 11713 ≤ ((f302 11713)) + 1 := hq409
                      have mm412 : f302 11701 ≤ f408 11701 ∧ am_ph f302 a302 ≤ am_ph f408 a408 ∧ am_at (a302 124) 0 ≤ am_at (a408 124) 0 ∧ am_at (a408 125) 0 = am_at (a302 125) 0 := hk411.1
                      have hm413 := am_mn.trans hm307 hk411.1
                      have t414 : f408 11709 = f302 11709 := hk411.2.1 11709 rfl
                      have t415 : f408 11718 = f302 11718 := hk411.2.1 11718 rfl
                      have t416 : f408 11741 = f302 11741 := hk411.2.1 11741 rfl
                      have t417 : f408 11750 = f302 11750 := hk411.2.1 11750 rfl
                      have t418 : f408 11753 = f302 11753 := hk411.2.1 11753 rfl
                      have t419 : f408 11757 = f302 11757 := hk411.2.1 11757 rfl
                      have t420 : f408 11763 = f302 11763 := hk411.2.1 11763 rfl
                      have t421 : f408 11755 = f302 11755 := hk411.2.1 11755 rfl
                      refine am_ristore (L1 := [(0, .ref 117), (1, am_iv x1), (2, am_iv 0), (3, am_iv b15), (4, am_iv b408)]) rfl rfl rfl rfl rfl ?_
                      have q422 := am_Rg11701 hI410.1.1
                      have q423 := am_Rg11713 hI410.1.1
                      have q424 := am_Rg11755 hI410.1.1
                      have q425 := am_Rg11709 hI410.1.1
                      have q426 := am_Rg11718 hI410.1.1
                      have q427 := am_Rg11741 hI410.1.1
                      have q428 := am_Rg11750 hI410.1.1
                      have q429 := am_Rg11753 hI410.1.1
                      have q430 := am_Rg11757 hI410.1.1
                      have q431 := am_Rg11763 hI410.1.1
                      exact am_T.drop (L1 := [(0, .ref 117), (1, am_iv x1), (2, am_iv 0), (4, am_iv b408)]) (ih.2 (by omega) hI410 hm413 (by omega) (by omega) (by omega) (by omega) (by omega) (by omega) (by omega) (by omega) (by omega) (by omega) (by omega) (by omega) (by omega) (by omega) (by omega) (by omega) (by omega) (by omega) (by omega) (by omega) (by omega) (by omega) (by omega)) (by simp)
                  · refine am_raload_n rfl rfl rfl ?_
                    refine am_riconst rfl ?_
                    have q432 := am_Rg11701 hI304.1.1
                    refine am_evirtualV (m := am_m116) (As := [.ref 117, am_iv 1]) (S1 := []) rfl rfl rfl rfl rfl rfl rfl rfl rfl rfl (am_TE.void (am_ct117 (y1 := 1) (by omega) (by omega) (show 1 ≤ 1 by omega) (show 1 ≤ 3 by omega) (show 0 ≤ (f302 11701) by omega) (show (f302 11701) ≤ 3 by omega)) (fun f433 a433 hq434 => ?_) (fun _ _ _ h => h))
                    obtain ⟨v435, rfl, rfl, hq434⟩ := hq434
                    replace hq434 : 0 < v435 ∧ v435 ≤ 3 ∧ f302 11701 ≤ v435 := hq434
                    refine am_riload_n rfl rfl rfl ?_
                    refine am_rbipush rfl (by decide) ?_
                    refine am_ric_ne rfl rfl (by unfold am_rg; omega) (by unfold am_rg; omega) (fun hc436 => ?_) (fun hc436 => ?_)
                    · have J437 := am_Rf11701 (v := v435) hI304 (by omega) (by omega)
                      have m438 : am_mn fz az (am_ud f302 11701 v435) a302 := am_mn.halt hm307 (by omega)
                      have q439 := am_Rg11755 hI304.1.1
                      have q440 := am_Rg11709 hI304.1.1
                      have q441 := am_Rg11718 hI304.1.1
                      have q442 := am_Rg11741 hI304.1.1
                      have q443 := am_Rg11750 hI304.1.1
                      have q444 := am_Rg11753 hI304.1.1
                      have q445 := am_Rg11757 hI304.1.1
                      have q446 := am_Rg11763 hI304.1.1
                      exact am_T.drop (L1 := [(0, .ref 117), (1, am_iv x1), (2, am_iv 0), (4, am_iv 32)]) (ih.2 (show (2 * (200 * (3500 - am_ph f302 a302 ) + 8 * (f302 11713) + 3 - (v435)) + 1).toNat < n by omega) J437 m438 (show (-2147483648 ≤ x1 ∧ x1 ≤ 2147483647) by omega) (show (-2147483648 ≤ 0 ∧ 0 ≤ 2147483647) by omega) (show (-2147483648 ≤ 32 ∧ 32 ≤ 2147483647) by omega) (show x1 = z11713 by omega) (show 0 ≤ x1 by omega) (show (0 = 0 ∨ 0 = 1) by omega) (show x1 ≤ (f302 11713) by omega) (show (f302 11713) ≤ x1 + 16 - 16 * 0 by omega) (show zp0 + 1 + 0 ≤ am_at (a302 124) 0 + 2 * (v435) + 2 * z11713 by omega) (show zph + 1 ≤ am_ph f302 a302  + (v435) by omega) (show (0 ≤ 32 → (f302 11755) + 1 ≤ am_ph f302 a302  - zph) by omega) (show (f302 11755) ≤ am_ph f302 a302  - zph by omega) (show (f302 11709) = z11709 by omega) (show (f302 11718) = z11718 by omega) (show (f302 11741) = z11741 by omega) (show (f302 11750) = z11750 by omega) (show (f302 11753) = z11753 by omega) (show (f302 11757) = z11757 by omega) (show (f302 11763) = z11763 by omega) (show zph ≤ am_ph f302 a302  by omega) (show zp0 ≤ am_at (a302 124) 0 by omega) (show zph ≥ 0 by omega) (show zp0 ≥ 0 by omega)) (by simp)
                    · refine am_raload_n rfl rfl rfl ?_
                      have J447 := am_Rf11701 (v := v435) hI304 (by omega) (by omega)
                      refine am_evirtualI (m := am_m131) (As := [.ref 117]) (S1 := []) rfl rfl rfl rfl rfl rfl rfl rfl rfl rfl (am_TE.int (am_ct132  (by omega) J447) (fun b448 f448 a448 hq449 => ?_) (fun _ _ _ h => h))
                      have m452 : am_mn fz az (am_ud f302 11701 v435) a302 := am_mn.halt hm307 (by omega)
                      obtain ⟨hI450, hk451, hq449⟩ := hq449
                      replace hq449 : (-2147483648 ≤ b448 ∧ b448 ≤ 2147483647) ∧ -1 ≤ b448 ∧ ((f302 11713)) ≤ f448 11713 ∧ f448 11713 ≤ ((f302 11713)) + 1 := hq449
                      have mm453 : v435 ≤ f448 11701 ∧ am_ph f302 a302 ≤ am_ph f448 a448 ∧ am_at (a302 124) 0 ≤ am_at (a448 124) 0 ∧ am_at (a448 125) 0 = am_at (a302 125) 0 := hk451.1
                      have hm454 := am_mn.trans m452 hk451.1
                      have t455 : f448 11709 = f302 11709 := hk451.2.1 11709 rfl
                      have t456 : f448 11718 = f302 11718 := hk451.2.1 11718 rfl
                      have t457 : f448 11741 = f302 11741 := hk451.2.1 11741 rfl
                      have t458 : f448 11750 = f302 11750 := hk451.2.1 11750 rfl
                      have t459 : f448 11753 = f302 11753 := hk451.2.1 11753 rfl
                      have t460 : f448 11757 = f302 11757 := hk451.2.1 11757 rfl
                      have t461 : f448 11763 = f302 11763 := hk451.2.1 11763 rfl
                      have t462 : f448 11755 = f302 11755 := hk451.2.1 11755 rfl
                      refine am_ristore (L1 := [(0, .ref 117), (1, am_iv x1), (2, am_iv 0), (3, am_iv b15), (4, am_iv b448)]) rfl rfl rfl rfl rfl ?_
                      have q463 := am_Rg11701 hI450.1.1
                      have q464 := am_Rg11713 hI450.1.1
                      have q465 := am_Rg11755 hI450.1.1
                      have q466 := am_Rg11709 hI450.1.1
                      have q467 := am_Rg11718 hI450.1.1
                      have q468 := am_Rg11741 hI450.1.1
                      have q469 := am_Rg11750 hI450.1.1
                      have q470 := am_Rg11753 hI450.1.1
                      have q471 := am_Rg11757 hI450.1.1
                      have q472 := am_Rg11763 hI450.1.1
                      exact am_T.drop (L1 := [(0, .ref 117), (1, am_iv x1), (2, am_iv 0), (4, am_iv b448)]) (ih.2 (by omega) hI450 hm454 (by omega) (by omega) (by omega) (by omega) (by omega) (by omega) (by omega) (by omega) (by omega) (by omega) (by omega) (by omega) (by omega) (by omega) (by omega) (by omega) (by omega) (by omega) (by omega) (by omega) (by omega) (by omega) (by omega)) (by simp)
                · refine am_riconst rfl ?_
                  refine am_rgoto rfl rfl ?_
                  refine am_ristore_n (L1 := [(0, .ref 117), (1, am_iv x1), (2, am_iv 1), (3, am_iv b15), (4, am_iv 32)]) rfl rfl rfl rfl rfl ?_
                  refine am_riload_n rfl rfl rfl ?_
                  refine am_rbipush rfl (by decide) ?_
                  refine am_ric_ne rfl rfl (by unfold am_rg; omega) (by unfold am_rg; omega) (fun hc473 => ?_) (fun hc473 => ?_)
                  · refine am_riload_n rfl rfl rfl ?_
                    refine am_rbipush rfl (by decide) ?_
                    refine am_ric_ne rfl rfl (by unfold am_rg; omega) (by unfold am_rg; omega) (fun hc474 => ?_) (fun hc474 => ?_)
                    · have q475 := am_Rg11701 hI304.1.1
                      have q476 := am_Rg11755 hI304.1.1
                      have q477 := am_Rg11709 hI304.1.1
                      have q478 := am_Rg11718 hI304.1.1
                      have q479 := am_Rg11741 hI304.1.1
                      have q480 := am_Rg11750 hI304.1.1
                      have q481 := am_Rg11753 hI304.1.1
                      have q482 := am_Rg11757 hI304.1.1
                      have q483 := am_Rg11763 hI304.1.1
                      exact am_T.drop (L1 := [(0, .ref 117), (1, am_iv x1), (2, am_iv 1), (4, am_iv 32)]) (ih.2 (by omega) hI304 hm307 (by omega) (by omega) (by omega) (by omega) (by omega) (by omega) (by omega) (by omega) (by omega) (by omega) (by omega) (by omega) (by omega) (by omega) (by omega) (by omega) (by omega) (by omega) (by omega) (by omega) (by omega) (by omega) (by omega)) (by simp)
                    · refine am_raload_n rfl rfl rfl ?_
                      refine am_evirtualI (m := am_m131) (As := [.ref 117]) (S1 := []) rfl rfl rfl rfl rfl rfl rfl rfl rfl rfl (am_TE.int (am_ct132  (by omega) hI304) (fun b484 f484 a484 hq485 => ?_) (fun _ _ _ h => h))
                      obtain ⟨hI486, hk487, hq485⟩ := hq485
                      replace hq485 : (-2147483648 ≤ b484 ∧ b484 ≤ 2147483647) ∧ -1 ≤ b484 ∧ ((f302 11713)) ≤ f484 11713 ∧ f484 11713 ≤ ((f302 11713)) + 1 := hq485
                      have mm488 : f302 11701 ≤ f484 11701 ∧ am_ph f302 a302 ≤ am_ph f484 a484 ∧ am_at (a302 124) 0 ≤ am_at (a484 124) 0 ∧ am_at (a484 125) 0 = am_at (a302 125) 0 := hk487.1
                      have hm489 := am_mn.trans hm307 hk487.1
                      have t490 : f484 11709 = f302 11709 := hk487.2.1 11709 rfl
                      have t491 : f484 11718 = f302 11718 := hk487.2.1 11718 rfl
                      have t492 : f484 11741 = f302 11741 := hk487.2.1 11741 rfl
                      have t493 : f484 11750 = f302 11750 := hk487.2.1 11750 rfl
                      have t494 : f484 11753 = f302 11753 := hk487.2.1 11753 rfl
                      have t495 : f484 11757 = f302 11757 := hk487.2.1 11757 rfl
                      have t496 : f484 11763 = f302 11763 := hk487.2.1 11763 rfl
                      have t497 : f484 11755 = f302 11755 := hk487.2.1 11755 rfl
                      refine am_ristore (L1 := [(0, .ref 117), (1, am_iv x1), (2, am_iv 1), (3, am_iv b15), (4, am_iv b484)]) rfl rfl rfl rfl rfl ?_
                      have q498 := am_Rg11701 hI486.1.1
                      have q499 := am_Rg11713 hI486.1.1
                      have q500 := am_Rg11755 hI486.1.1
                      have q501 := am_Rg11709 hI486.1.1
                      have q502 := am_Rg11718 hI486.1.1
                      have q503 := am_Rg11741 hI486.1.1
                      have q504 := am_Rg11750 hI486.1.1
                      have q505 := am_Rg11753 hI486.1.1
                      have q506 := am_Rg11757 hI486.1.1
                      have q507 := am_Rg11763 hI486.1.1
                      exact am_T.drop (L1 := [(0, .ref 117), (1, am_iv x1), (2, am_iv 1), (4, am_iv b484)]) (ih.2 (by omega) hI486 hm489 (by omega) (by omega) (by omega) (by omega) (by omega) (by omega) (by omega) (by omega) (by omega) (by omega) (by omega) (by omega) (by omega) (by omega) (by omega) (by omega) (by omega) (by omega) (by omega) (by omega) (by omega) (by omega) (by omega)) (by simp)
                  · refine am_raload_n rfl rfl rfl ?_
                    refine am_riconst rfl ?_
                    have q508 := am_Rg11701 hI304.1.1
                    refine am_evirtualV (m := am_m116) (As := [.ref 117, am_iv 1]) (S1 := []) rfl rfl rfl rfl rfl rfl rfl rfl rfl rfl (am_TE.void (am_ct117 (y1 := 1) (by omega) (by omega) (show 1 ≤ 1 by omega) (show 1 ≤ 3 by omega) (show 0 ≤ (f302 11701) by omega) (show (f302 11701) ≤ 3 by omega)) (fun f509 a509 hq510 => ?_) (fun _ _ _ h => h))
                    obtain ⟨v511, rfl, rfl, hq510⟩ := hq510
                    replace hq510 : 0 < v511 ∧ v511 ≤ 3 ∧ f302 11701 ≤ v511 := hq510
                    refine am_riload_n rfl rfl rfl ?_
                    refine am_rbipush rfl (by decide) ?_
                    refine am_ric_ne rfl rfl (by unfold am_rg; omega) (by unfold am_rg; omega) (fun hc512 => ?_) (fun hc512 => ?_)
                    · have J513 := am_Rf11701 (v := v511) hI304 (by omega) (by omega)
                      have m514 : am_mn fz az (am_ud f302 11701 v511) a302 := am_mn.halt hm307 (by omega)
                      have q515 := am_Rg11755 hI304.1.1
                      have q516 := am_Rg11709 hI304.1.1
                      have q517 := am_Rg11718 hI304.1.1
                      have q518 := am_Rg11741 hI304.1.1
                      have q519 := am_Rg11750 hI304.1.1
                      have q520 := am_Rg11753 hI304.1.1
                      have q521 := am_Rg11757 hI304.1.1
                      have q522 := am_Rg11763 hI304.1.1
                      exact am_T.drop (L1 := [(0, .ref 117), (1, am_iv x1), (2, am_iv 1), (4, am_iv 32)]) (ih.2 (show (2 * (200 * (3500 - am_ph f302 a302 ) + 8 * (f302 11713) + 3 - (v511)) + 1).toNat < n by omega) J513 m514 (show (-2147483648 ≤ x1 ∧ x1 ≤ 2147483647) by omega) (show (-2147483648 ≤ 1 ∧ 1 ≤ 2147483647) by omega) (show (-2147483648 ≤ 32 ∧ 32 ≤ 2147483647) by omega) (show x1 = z11713 by omega) (show 0 ≤ x1 by omega) (show (1 = 0 ∨ 1 = 1) by omega) (show x1 ≤ (f302 11713) by omega) (show (f302 11713) ≤ x1 + 16 - 16 * 1 by omega) (show zp0 + 1 + 1 ≤ am_at (a302 124) 0 + 2 * (v511) + 2 * z11713 by omega) (show zph + 1 ≤ am_ph f302 a302  + (v511) by omega) (show (0 ≤ 32 → (f302 11755) + 1 ≤ am_ph f302 a302  - zph) by omega) (show (f302 11755) ≤ am_ph f302 a302  - zph by omega) (show (f302 11709) = z11709 by omega) (show (f302 11718) = z11718 by omega) (show (f302 11741) = z11741 by omega) (show (f302 11750) = z11750 by omega) (show (f302 11753) = z11753 by omega) (show (f302 11757) = z11757 by omega) (show (f302 11763) = z11763 by omega) (show zph ≤ am_ph f302 a302  by omega) (show zp0 ≤ am_at (a302 124) 0 by omega) (show zph ≥ 0 by omega) (show zp0 ≥ 0 by omega)) (by simp)
                    · refine am_raload_n rfl rfl rfl ?_
                      have J523 := am_Rf11701 (v := v511) hI304 (by omega) (by omega)
                      refine am_evirtualI (m := am_m131) (As := [.ref 117]) (S1 := []) rfl rfl rfl rfl rfl rfl rfl rfl rfl rfl (am_TE.int (am_ct132  (by omega) J523) (fun b524 f524 a524 hq525 => ?_) (fun _ _ _ h => h))
                      have m528 : am_mn fz az (am_ud f302 11701 v511) a302 := am_mn.halt hm307 (by omega)
                      obtain ⟨hI526, hk527, hq525⟩ := hq525
                      replace hq525 : (-2147483648 ≤ b524 ∧ b524 ≤ 2147483647) ∧ -1 ≤ b524 ∧ ((f302 11713)) ≤ f524 11713 ∧ f524 11713 ≤ ((f302 11713)) + 1 := hq525
                      have mm529 : v511 ≤ f524 11701 ∧ am_ph f302 a302 ≤ am_ph f524 a524 ∧ am_at (a302 124) 0 ≤ am_at (a524 124) 0 ∧ am_at (a524 125) 0 = am_at (a302 125) 0 := hk527.1
                      have hm530 := am_mn.trans m528 hk527.1
                      have t531 : f524 11709 = f302 11709 := hk527.2.1 11709 rfl
                      have t532 : f524 11718 = f302 11718 := hk527.2.1 11718 rfl
                      have t533 : f524 11741 = f302 11741 := hk527.2.1 11741 rfl
                      have t534 : f524 11750 = f302 11750 := hk527.2.1 11750 rfl
                      have t535 : f524 11753 = f302 11753 := hk527.2.1 11753 rfl
                      have t536 : f524 11757 = f302 11757 := hk527.2.1 11757 rfl
                      have t537 : f524 11763 = f302 11763 := hk527.2.1 11763 rfl
                      have t538 : f524 11755 = f302 11755 := hk527.2.1 11755 rfl
                      refine am_ristore (L1 := [(0, .ref 117), (1, am_iv x1), (2, am_iv 1), (3, am_iv b15), (4, am_iv b524)]) rfl rfl rfl rfl rfl ?_
                      have q539 := am_Rg11701 hI526.1.1
                      have q540 := am_Rg11713 hI526.1.1
                      have q541 := am_Rg11755 hI526.1.1
                      have q542 := am_Rg11709 hI526.1.1
                      have q543 := am_Rg11718 hI526.1.1
                      have q544 := am_Rg11741 hI526.1.1
                      have q545 := am_Rg11750 hI526.1.1
                      have q546 := am_Rg11753 hI526.1.1
                      have q547 := am_Rg11757 hI526.1.1
                      have q548 := am_Rg11763 hI526.1.1
                      exact am_T.drop (L1 := [(0, .ref 117), (1, am_iv x1), (2, am_iv 1), (4, am_iv b524)]) (ih.2 (by omega) hI526 hm530 (by omega) (by omega) (by omega) (by omega) (by omega) (by omega) (by omega) (by omega) (by omega) (by omega) (by omega) (by omega) (by omega) (by omega) (by omega) (by omega) (by omega) (by omega) (by omega) (by omega) (by omega) (by omega) (by omega)) (by simp)
            · refine am_riconst rfl ?_
              refine am_ristore (L1 := [(0, .ref 117), (1, am_iv x1), (2, am_iv x2), (3, am_iv b15), (4, am_iv ((-1)))]) rfl rfl rfl rfl rfl ?_
              refine am_raload_n rfl rfl rfl ?_
              refine am_rgetf (S1 := [am_iv (f 11713)]) rfl rfl ?_
              refine am_riload_n rfl rfl rfl ?_
              refine am_ric_le rfl rfl (by unfold am_rg; omega) (by unfold am_rg; omega) (fun hc549 => ?_) (fun hc549 => ?_)
              · refine am_raload_n rfl rfl rfl ?_
                refine am_riconst rfl ?_
                refine am_evirtualV (m := am_m116) (As := [.ref 117, am_iv 1]) (S1 := []) rfl rfl rfl rfl rfl rfl rfl rfl rfl rfl (am_TE.void (am_ct117 (y1 := 1) (by omega) (by omega) (show 1 ≤ 1 by omega) (show 1 ≤ 3 by omega) (show 0 ≤ (f 11701) by omega) (show (f 11701) ≤ 3 by omega)) (fun f550 a550 hq551 => ?_) (fun _ _ _ h => h))
                obtain ⟨v552, rfl, rfl, hq551⟩ := hq551
                replace hq551 : 0 < v552 ∧ v552 ≤ 3 ∧ f 11701 ≤ v552 := hq551
                refine am_rgoto rfl rfl ?_
                have J553 := am_Rf11701 (v := v552) hI (by omega) (by omega)
                have m554 : am_mn fz az (am_ud f 11701 v552) a := am_mn.halt hp0 (by omega)
                exact am_T.drop (L1 := [(0, .ref 117), (1, am_iv x1), (2, am_iv x2), (4, am_iv ((-1)))]) (ih.2 (show (2 * (200 * (3500 - am_ph f a ) + 8 * (f 11713) + 3 - (v552)) + 1).toNat < n by omega) J553 m554 (show (-2147483648 ≤ x1 ∧ x1 ≤ 2147483647) by omega) (show (-2147483648 ≤ x2 ∧ x2 ≤ 2147483647) by omega) (show (-2147483648 ≤ ((-1)) ∧ ((-1)) ≤ 2147483647) by omega) (show x1 = z11713 by omega) (show 0 ≤ x1 by omega) (show (x2 = 0 ∨ x2 = 1) by omega) (show x1 ≤ (f 11713) by omega) (show (f 11713) ≤ x1 + 16 - 16 * x2 by omega) (show zp0 + 1 + x2 ≤ am_at (a 124) 0 + 2 * (v552) + 2 * z11713 by omega) (show zph + 1 ≤ am_ph f a  + (v552) by omega) (show (0 ≤ ((-1)) → (f 11755) + 1 ≤ am_ph f a  - zph) by omega) (show (f 11755) ≤ am_ph f a  - zph by omega) (show (f 11709) = z11709 by omega) (show (f 11718) = z11718 by omega) (show (f 11741) = z11741 by omega) (show (f 11750) = z11750 by omega) (show (f 11753) = z11753 by omega) (show (f 11757) = z11757 by omega) (show (f 11763) = z11763 by omega) (show zph ≤ am_ph f a  by omega) (show zp0 ≤ am_at (a 124) 0 by omega) (show zph ≥ 0 by omega) (show zp0 ≥ 0 by omega)) (by simp)
              · refine am_raload_n rfl rfl rfl ?_
                have ok555 : am_at (a 124) (f 11713) = am_at (a 125) (f 11713) := am_PK.no hq16.2.2.1 (by omega) (show f 11701 = 0 by omega)
                refine am_evirtualV (m := am_m133) (As := [.ref 117]) (S1 := []) rfl rfl rfl rfl rfl rfl rfl rfl rfl rfl (am_TE.void (am_ct134  (by omega) hI (show 1 ≤ (f 11713) by omega) (show am_at (a 124) ((f 11713)) = am_at (a 125) ((f 11713)) by omega)) (fun f556 a556 hq557 => ?_) (fun _ _ _ h => h))
                obtain ⟨hI558, hk559, hq557⟩ := hq557
                replace hq557 : f556 11701 = ((f 11701)) ∧ f556 11713 = ((f 11713)) - 1 ∧ am_ph f556 a556 = (am_ph f a ) ∧ am_at (a556 124) 0 = (am_at (a 124) 0) := hq557
                have mm560 : f 11701 ≤ f556 11701 ∧ am_ph f a ≤ am_ph f556 a556 ∧ am_at (a 124) 0 ≤ am_at (a556 124) 0 ∧ am_at (a556 125) 0 = am_at (a 125) 0 := hk559.1
                have hm561 := am_mn.trans hp0 hk559.1
                have t562 : f556 11709 = f 11709 := hk559.2.1 11709 rfl
                have t563 : f556 11718 = f 11718 := hk559.2.1 11718 rfl
                have t564 : f556 11741 = f 11741 := hk559.2.1 11741 rfl
                have t565 : f556 11750 = f 11750 := hk559.2.1 11750 rfl
                have t566 : f556 11753 = f 11753 := hk559.2.1 11753 rfl
                have t567 : f556 11757 = f 11757 := hk559.2.1 11757 rfl
                have t568 : f556 11763 = f 11763 := hk559.2.1 11763 rfl
                have t569 : f556 11755 = f 11755 := hk559.2.1 11755 rfl
                refine am_rgoto rfl rfl ?_
                have q570 := am_Rg11701 hI558.1.1
                have q571 := am_Rg11713 hI558.1.1
                have q572 := am_Rg11755 hI558.1.1
                have q573 := am_Rg11709 hI558.1.1
                have q574 := am_Rg11718 hI558.1.1
                have q575 := am_Rg11741 hI558.1.1
                have q576 := am_Rg11750 hI558.1.1
                have q577 := am_Rg11753 hI558.1.1
                have q578 := am_Rg11757 hI558.1.1
                have q579 := am_Rg11763 hI558.1.1
                exact am_T.drop (L1 := [(0, .ref 117), (1, am_iv x1), (2, am_iv x2), (4, am_iv ((-1)))]) (ih.2 (by omega) hI558 hm561 (by omega) (by omega) (by omega) (by omega) (by omega) (by omega) (by omega) (by omega) (by omega) (by omega) (by omega) (by omega) (by omega) (by omega) (by omega) (by omega) (by omega) (by omega) (by omega) (by omega) (by omega) (by omega) (by omega)) (by simp)
    · intro f a x1 x2 x4 hn hI hp0 hp1 hp2 hp3 hp4 hp5 hp6 hp7 hp8 hp9 hp10 hp11 hp12 hp13 hp14 hp15 hp16 hp17 hp18 hp19 hp20 hp21 hp22 hp23
      have q1 := am_RV_ph hI
      have q2 := am_RV_p0 hI
      have q3 := am_Rg11713 hI.1.1
      have q4 := am_Rg11701 hI.1.1
      have q5 := am_Rg11755 hI.1.1
      have q6 := am_Rg11709 hI.1.1
      have q7 := am_Rg11718 hI.1.1
      have q8 := am_Rg11741 hI.1.1
      have q9 := am_Rg11750 hI.1.1
      have q10 := am_Rg11753 hI.1.1
      have q11 := am_Rg11757 hI.1.1
      have q12 := am_Rg11763 hI.1.1
      refine am_riload rfl rfl rfl ?_
      refine am_rif_lt rfl rfl (by unfold am_rg; omega) (fun hc13 => ?_) (fun hc13 => ?_)
      · refine am_rgoto rfl rfl ?_
        exact am_T.drop (L1 := [(0, .ref 117), (1, am_iv x1), (2, am_iv x2)]) (ih.1 (by omega) hI hp0 (by omega) (by omega) (by omega) (by omega) (by omega) (by omega) (by omega) (by omega) (by omega) (by omega) (by omega) (by omega) (by omega) (by omega) (by omega) (by omega) (by omega) (by omega) (by omega) (by omega) (by omega)) (by simp)
      · refine am_riload_n rfl rfl rfl ?_
        refine am_rif_ne rfl rfl (by unfold am_rg; omega) (fun hc14 => ?_) (fun hc14 => ?_)
        · refine am_rgoto rfl rfl ?_
          exact am_T.drop (L1 := [(0, .ref 117), (1, am_iv x1), (2, am_iv x2)]) (ih.1 (by omega) hI hp0 (by omega) (by omega) (by omega) (by omega) (by omega) (by omega) (by omega) (by omega) (by omega) (by omega) (by omega) (by omega) (by omega) (by omega) (by omega) (by omega) (by omega) (by omega) (by omega) (by omega) (by omega)) (by simp)
        · refine am_raload_n rfl rfl rfl ?_
          refine am_rgetf (S1 := [am_iv (f 11701)]) rfl rfl ?_
          refine am_rif_ne rfl rfl (by unfold am_rg; omega) (fun hc15 => ?_) (fun hc15 => ?_)
          · refine am_rgoto rfl rfl ?_
            exact am_T.drop (L1 := [(0, .ref 117), (1, am_iv x1), (2, am_iv x2)]) (ih.1 (by omega) hI hp0 (by omega) (by omega) (by omega) (by omega) (by omega) (by omega) (by omega) (by omega) (by omega) (by omega) (by omega) (by omega) (by omega) (by omega) (by omega) (by omega) (by omega) (by omega) (by omega) (by omega) (by omega)) (by simp)
          · refine am_raload_n rfl rfl rfl ?_
            refine am_rgetf (S1 := [.ref 156]) rfl rfl ?_
            refine am_raload_n rfl rfl rfl ?_
            refine am_rgetf (S1 := [am_iv (f 11755), .ref 156]) rfl rfl ?_
            refine am_riload rfl rfl rfl ?_
            have q16 : (a 156).length = 2600 := am_Rl156 (am_RL 156 rfl hI.1.1)
            have i17 : am_ib (a 156) (f 11755) := by unfold am_ib; omega
            have hl18 : am_LR 156 ((a 156).set (f 11755).toNat x4) := am_RS156 (am_RL 156 rfl hI.1.1) (by omega) (by omega)
            refine am_riastore (l := a 156) (h1 := am_enc f (am_ud a 156 ((a 156).set (f 11755).toNat x4)) w e) rfl am_ge156 i17 (am_sa156 _) ?_
            refine am_raload_n rfl rfl rfl ?_
            refine am_rdup rfl rfl ?_
            refine am_rgetf (S1 := [am_iv (f 11755), .ref 117]) rfl rfl ?_
            refine am_riconst rfl ?_
            refine am_riadd rfl ?_
            refine am_rputf (S1 := []) (h1 := am_enc (am_ud f 11755 ((f 11755) + 1)) (am_ud a 156 ((a 156).set (f 11755).toNat x4)) w e) rfl (am_pfB rfl am_ge117 rfl (am_sf11755 _)) (by rw [am_enc_len, am_enc_len]) ?_
            refine am_rgoto rfl rfl ?_
            have J19 := am_Rf11755 (v := (f 11755) + 1) hI (by omega) (by omega)
            have J20 := am_Ra156 J19 hl18
            have m21 : am_mn fz az (am_ud f 11755 ((f 11755) + 1)) a := am_mn_f rfl rfl rfl hp0
            have m22 : am_mn fz az (am_ud f 11755 ((f 11755) + 1)) (am_ud a 156 ((a 156).set (f 11755).toNat x4)) := am_mn_a rfl rfl m21
            exact am_T.drop (L1 := [(0, .ref 117), (1, am_iv x1), (2, am_iv x2)]) (ih.1 (show (2 * (200 * (3500 - am_ph f a ) + 8 * (f 11713) + 3 - (f 11701))).toNat < n by omega) J20 m22 (show (-2147483648 ≤ x1 ∧ x1 ≤ 2147483647) by omega) (show (-2147483648 ≤ x2 ∧ x2 ≤ 2147483647) by omega) (show x1 = z11713 by omega) (show 0 ≤ x1 by omega) (show (x2 = 0 ∨ x2 = 1) by omega) (show x1 ≤ (f 11713) by omega) (show (f 11713) ≤ x1 + 16 - 16 * x2 by omega) (show zp0 + 1 + x2 ≤ am_at (a 124) 0 + 2 * (f 11701) + 2 * z11713 by omega) (show zph + 1 ≤ am_ph f a  + (f 11701) by omega) (show ((f 11755) + 1) ≤ am_ph f a  - zph by omega) (show (f 11709) = z11709 by omega) (show (f 11718) = z11718 by omega) (show (f 11741) = z11741 by omega) (show (f 11750) = z11750 by omega) (show (f 11753) = z11753 by omega) (show (f 11757) = z11757 by omega) (show (f 11763) = z11763 by omega) (show zph ≤ am_ph f a  by omega) (show zp0 ≤ am_at (a 124) 0 by omega) (show zph ≥ 0 by omega) (show zp0 ≥ 0 by omega)) (by simp)
set_option maxRecDepth 100000 in
set_option maxHeartbeats 4000000 in
theorem am_ct135_18 {X : List Value} {w : Value} {e : Nat} {g : aF} {h : aA} {E : Nat → aF → aA → Prop} {d : Nat} {z11709 : Int} {z11718 : Int} {z11741 : Int} {z11750 : Int} {z11753 : Int} {z11757 : Int} {z11763 : Int} {z11713 : Int} {zph : Int} {zp0 : Int} {fz : aF} {az : aA} (hd : 5 ≤ d + 1) (n : Nat) : ∀ {f : aF} {a : aA} {x1 : Int} {x2 : Int}, (2 * (200 * (3500 - am_ph f a) + 8 * f 11713 + 3 - f 11701)).toNat < n → am_RV g h f a → am_mn fz az f a → (-2147483648 ≤ x1 ∧ x1 ≤ 2147483647) → (-2147483648 ≤ x2 ∧ x2 ≤ 2147483647) → x1 = z11713 → 0 ≤ x1 → (x2 = 0 ∨ x2 = 1) → x1 ≤ f 11713 → f 11713 ≤ x1 + 16 - 16 * x2 → zp0 + 1 + x2 ≤ am_at (a 124) 0 + 2 * f 11701 + 2 * z11713 → zph + 1 ≤ am_ph f a + f 11701 → f 11755 ≤ am_ph f a - zph → f 11709 = z11709 → f 11718 = z11718 → f 11741 = z11741 → f 11750 = z11750 → f 11753 = z11753 → f 11757 = z11757 → f 11763 = z11763 → zph ≤ am_ph f a → zp0 ≤ am_at (a 124) 0 → zph ≥ 0 → zp0 ≥ 0 → am_TE X (d + 1) am_m134 18 [(0, .ref 117), (1, am_iv x1), (2, am_iv x2)] [] f a w e (am_QV (fun f1 a1 => am_RV g h f1 a1 ∧ am_mn fz az f1 a1 ∧ f1 11709 = z11709 ∧ f1 11718 = z11718 ∧ f1 11741 = z11741 ∧ f1 11750 = z11750 ∧ f1 11753 = z11753 ∧ f1 11757 = z11757 ∧ f1 11763 = z11763 ∧ z11713 ≤ f1 11713 ∧ f1 11713 ≤ z11713 + 16 * f1 11701 ∧ 0 ≤ f1 11755 ∧ f1 11755 ≤ am_ph f1 a1 - zph ∧ zph + 1 ≤ am_ph f1 a1 + f1 11701 ∧ zp0 + 2 ≤ am_at (a1 124) 0 + 2 * f1 11701 + 2 * z11713)) E := (am_ct135_L18 hd n).1
set_option maxRecDepth 100000 in
set_option maxHeartbeats 4000000 in
theorem am_ct135_126 {X : List Value} {w : Value} {e : Nat} {g : aF} {h : aA} {E : Nat → aF → aA → Prop} {d : Nat} {z11709 : Int} {z11718 : Int} {z11741 : Int} {z11750 : Int} {z11753 : Int} {z11757 : Int} {z11763 : Int} {z11713 : Int} {zph : Int} {zp0 : Int} {fz : aF} {az : aA} (hd : 5 ≤ d + 1) (n : Nat) : ∀ {f : aF} {a : aA} {x1 : Int} {x2 : Int} {x4 : Int}, (2 * (200 * (3500 - am_ph f a) + 8 * f 11713 + 3 - f 11701) + 1).toNat < n → am_RV g h f a → am_mn fz az f a → (-2147483648 ≤ x1 ∧ x1 ≤ 2147483647) → (-2147483648 ≤ x2 ∧ x2 ≤ 2147483647) → (-2147483648 ≤ x4 ∧ x4 ≤ 2147483647) → x1 = z11713 → 0 ≤ x1 → (x2 = 0 ∨ x2 = 1) → x1 ≤ f 11713 → f 11713 ≤ x1 + 16 - 16 * x2 → zp0 + 1 + x2 ≤ am_at (a 124) 0 + 2 * f 11701 + 2 * z11713 → zph + 1 ≤ am_ph f a + f 11701 → (0 ≤ x4 → f 11755 + 1 ≤ am_ph f a - zph) → f 11755 ≤ am_ph f a - zph → f 11709 = z11709 → f 11718 = z11718 → f 11741 = z11741 → f 11750 = z11750 → f 11753 = z11753 → f 11757 = z11757 → f 11763 = z11763 → zph ≤ am_ph f a → zp0 ≤ am_at (a 124) 0 → zph ≥ 0 → zp0 ≥ 0 → am_TE X (d + 1) am_m134 126 [(0, .ref 117), (1, am_iv x1), (2, am_iv x2), (4, am_iv x4)] [] f a w e (am_QV (fun f1 a1 => am_RV g h f1 a1 ∧ am_mn fz az f1 a1 ∧ f1 11709 = z11709 ∧ f1 11718 = z11718 ∧ f1 11741 = z11741 ∧ f1 11750 = z11750 ∧ f1 11753 = z11753 ∧ f1 11757 = z11757 ∧ f1 11763 = z11763 ∧ z11713 ≤ f1 11713 ∧ f1 11713 ≤ z11713 + 16 * f1 11701 ∧ 0 ≤ f1 11755 ∧ f1 11755 ≤ am_ph f1 a1 - zph ∧ zph + 1 ≤ am_ph f1 a1 + f1 11701 ∧ zp0 + 2 ≤ am_at (a1 124) 0 + 2 * f1 11701 + 2 * z11713)) E := (am_ct135_L18 hd n).2
set_option maxRecDepth 100000 in
set_option maxHeartbeats 4000000 in
theorem am_ct135 {X : List Value} {w : Value} {e : Nat} {g : aF} {h : aA} {E : Nat → aF → aA → Prop} {d : Nat} {f : aF} {a : aA} (hd : 5 ≤ d) (hI : am_RV g h f a) :
    am_TE X d am_m134 0 (lv_args 0 [.ref 117]) [] f a w e (am_QV (fun f1 a1 => am_RV g h f1 a1 ∧ am_mn f a f1 a1 ∧ f1 11709 = (f 11709) ∧ f1 11718 = (f 11718) ∧ f1 11741 = (f 11741) ∧ f1 11750 = (f 11750) ∧ f1 11753 = (f 11753) ∧ f1 11757 = (f 11757) ∧ f1 11763 = (f 11763) ∧ (f 11713) ≤ f1 11713 ∧ f1 11713 ≤ (f 11713) + 16 * f1 11701 ∧ 0 ≤ f1 11755 ∧ f1 11755 ≤ am_ph f1 a1 - (am_ph f a) ∧ (am_ph f a) + 1 ≤ am_ph f1 a1 + f1 11701 ∧ (am_at (a 124) 0) + 2 ≤ am_at (a1 124) 0 + 2 * f1 11701 + 2 * (f 11713))) E := by
  obtain ⟨d, rfl⟩ : ∃ d0, d = d0 + 1 := ⟨d - 1, by omega⟩
  have q1 := am_RV_ph hI
  have q2 := am_RV_p0 hI
  refine am_raload_n rfl rfl rfl ?_
  have q3 := am_Rg11713 hI.1.1
  refine am_rgetf (S1 := [am_iv (f 11713)]) rfl rfl ?_
  refine am_ristore_n (L1 := [(0, .ref 117), (1, am_iv (f 11713))]) rfl rfl rfl rfl rfl ?_
  refine am_riconst rfl ?_
  refine am_ristore_n (L1 := [(0, .ref 117), (1, am_iv (f 11713)), (2, am_iv 0)]) rfl rfl rfl rfl rfl ?_
  refine am_raload_n rfl rfl rfl ?_
  refine am_riconst rfl ?_
  refine am_rputf (S1 := []) (h1 := am_enc (am_ud f 11755 0) a w e) rfl (am_pfB rfl am_ge117 rfl (am_sf11755 _)) (by rw [am_enc_len, am_enc_len]) ?_
  refine am_raload_n rfl rfl rfl ?_
  refine am_rbipush rfl (by decide) ?_
  have J4 := am_Rf11755 (v := 0) hI (by omega) (by omega)
  refine am_evirtualV (m := am_m123) (As := [.ref 117, am_iv 34]) (S1 := []) rfl rfl rfl rfl rfl rfl rfl rfl rfl rfl (am_TE.void (am_ct124 (y1 := 34) (by omega) J4 (by omega) (show 0 ≤ 34 by omega)) (fun f5 a5 hq6 => ?_) (fun _ _ _ h => h))
  have m9 : am_mn f a (am_ud f 11755 0) a := am_mn_f rfl rfl rfl (am_mn.refl f a)
  obtain ⟨hI7, hk8, hq6⟩ := hq6
  replace hq6 : f5 11713 = ((f 11713)) ∧ (am_ph f a ) + 1 ≤ am_ph f5 a5 + 1 * (f5 11701) ∧ (am_at (a 124) 0) + 1 ≤ am_at (a5 124) 0 + 1 * (f5 11701) + 1 * ((f 11713)) := hq6
  have mm10 : f 11701 ≤ f5 11701 ∧ am_ph f a ≤ am_ph f5 a5 ∧ am_at (a 124) 0 ≤ am_at (a5 124) 0 ∧ am_at (a5 125) 0 = am_at (a 125) 0 := hk8.1
  have hm11 := am_mn.trans m9 hk8.1
  have t12 : f5 11709 = f 11709 := hk8.2.1 11709 rfl
  have t13 : f5 11718 = f 11718 := hk8.2.1 11718 rfl
  have t14 : f5 11741 = f 11741 := hk8.2.1 11741 rfl
  have t15 : f5 11750 = f 11750 := hk8.2.1 11750 rfl
  have t16 : f5 11753 = f 11753 := hk8.2.1 11753 rfl
  have t17 : f5 11757 = f 11757 := hk8.2.1 11757 rfl
  have t18 : f5 11763 = f 11763 := hk8.2.1 11763 rfl
  have t19 : f5 11755 = 0 := hk8.2.1 11755 rfl
  have q20 := am_Rg11701 hI7.1.1
  have q21 := am_Rg11713 hI7.1.1
  have q22 := am_Rg11755 hI7.1.1
  have q23 := am_Rg11709 hI7.1.1
  have q24 := am_Rg11718 hI7.1.1
  have q25 := am_Rg11741 hI7.1.1
  have q26 := am_Rg11750 hI7.1.1
  have q27 := am_Rg11753 hI7.1.1
  have q28 := am_Rg11757 hI7.1.1
  have q29 := am_Rg11763 hI7.1.1
  exact am_ct135_18 hd (_ + 1) (Nat.lt_succ_self _) hI7 hm11 (by omega) (by omega) (by omega) (by omega) (by omega) (by omega) (by omega) (by omega) (by omega) (by omega) (by omega) (by omega) (by omega) (by omega) (by omega) (by omega) (by omega) (by omega) (by omega) (by omega) (by omega)
set_option maxRecDepth 100000 in
set_option maxHeartbeats 4000000 in
theorem am_ct136_4 {X : List Value} {w : Value} {e : Nat} {g : aF} {h : aA} {E : Nat → aF → aA → Prop} {d : Nat} {z55 : Int} {z11701 : Int} {z11713 : Int} {z11709 : Int} {z11718 : Int} {z11741 : Int} {z11750 : Int} {z11753 : Int} {z11757 : Int} {z11763 : Int} {zph : Int} {zp0 : Int} {fz : aF} {az : aA} (hd : 1 ≤ d + 1) (n : Nat) :
    ∀ {f : aF} {a : aA} {x1 : Int} {x2 : Int}, (f 11755 - x2).toNat < n → am_RV g h f a → am_mn fz az f a → (-2147483648 ≤ x1 ∧ x1 ≤ 2147483647) → (-2147483648 ≤ x2 ∧ x2 ≤ 2147483647) → 0 ≤ x1 → x1 ≤ x2 → x2 ≤ f 11755 → f 11755 = z55 → am_ph f a = zph → am_at (a 124) 0 = zp0 → f 11701 = z11701 → f 11713 = z11713 → f 11709 = z11709 → f 11718 = z11718 → f 11741 = z11741 → f 11750 = z11750 → f 11753 = z11753 → f 11757 = z11757 → f 11763 = z11763 → zph ≤ am_ph f a → zp0 ≤ am_at (a 124) 0 → zph ≥ 0 → zp0 ≥ 0 → am_TE X (d + 1) am_m135 4 [(0, .ref 117), (1, am_iv x1), (2, am_iv x2)] [] f a w e (am_QV (fun f1 a1 => am_RV g h f1 a1 ∧ am_mn fz az f1 a1 ∧ f1 11701 = z11701 ∧ f1 11713 = z11713 ∧ f1 11709 = z11709 ∧ f1 11718 = z11718 ∧ f1 11741 = z11741 ∧ f1 11750 = z11750 ∧ f1 11753 = z11753 ∧ f1 11757 = z11757 ∧ f1 11763 = z11763 ∧ f1 11755 ≤ z55 ∧ am_ph f1 a1 = zph ∧ am_at (a1 124) 0 = zp0)) E := by
  induction n with
  | zero => intros; omega
  | succ n ih =>
    intro f a x1 x2 hn hI hp0 hp1 hp2 hp3 hp4 hp5 hp6 hp7 hp8 hp9 hp10 hp11 hp12 hp13 hp14 hp15 hp16 hp17 hp18 hp19 hp20 hp21
    have q1 := am_RV_ph hI
    have q2 := am_RV_p0 hI
    have q3 := am_Rg11755 hI.1.1
    have q4 := am_Rg11701 hI.1.1
    have q5 := am_Rg11713 hI.1.1
    have q6 := am_Rg11709 hI.1.1
    have q7 := am_Rg11718 hI.1.1
    have q8 := am_Rg11741 hI.1.1
    have q9 := am_Rg11750 hI.1.1
    have q10 := am_Rg11753 hI.1.1
    have q11 := am_Rg11757 hI.1.1
    have q12 := am_Rg11763 hI.1.1
    refine am_riload_n rfl rfl rfl ?_
    refine am_raload_n rfl rfl rfl ?_
    refine am_rgetf (S1 := [am_iv (f 11755), am_iv x2]) rfl rfl ?_
    refine am_ric_ge rfl rfl (by unfold am_rg; omega) (by unfold am_rg; omega) (fun hc13 => ?_) (fun hc13 => ?_)
    · refine am_raload_n rfl rfl rfl ?_
      refine am_riload_n rfl rfl rfl ?_
      refine am_rif_le rfl rfl (by unfold am_rg; omega) (fun hc14 => ?_) (fun hc14 => ?_)
      · refine am_riload_n rfl rfl rfl ?_
        refine am_rputf (S1 := []) (h1 := am_enc (am_ud f 11755 x1) a w e) rfl (am_pfB rfl am_ge117 rfl (am_sf11755 _)) (by rw [am_enc_len, am_enc_len]) ?_
        have J15 := am_Rf11755 (v := x1) hI (by omega) (by omega)
        have m16 : am_mn fz az (am_ud f 11755 x1) a := am_mn_f rfl rfl rfl hp0
        exact am_eret rfl rfl ⟨J15, m16, (show f 11701 = z11701 by omega), (show f 11713 = z11713 by omega), (show f 11709 = z11709 by omega), (show f 11718 = z11718 by omega), (show f 11741 = z11741 by omega), (show f 11750 = z11750 by omega), (show f 11753 = z11753 by omega), (show f 11757 = z11757 by omega), (show f 11763 = z11763 by omega), (show x1 ≤ z55 by omega), (show am_ph f a = zph by omega), (show am_at (a 124) 0 = zp0 by omega)⟩
      · refine am_raload_n rfl rfl rfl ?_
        refine am_rgetf (S1 := [.ref 156, .ref 117]) rfl rfl ?_
        refine am_riload_n rfl rfl rfl ?_
        refine am_riconst rfl ?_
        refine am_risub rfl ?_
        have q17 : (a 156).length = 2600 := am_Rl156 (am_RL 156 rfl hI.1.1)
        have i18 : am_ib (a 156) (x1 - 1) := by unfold am_ib; omega
        have q19 := am_Rb156 (am_RL 156 rfl hI.1.1) i18
        refine am_riaload (l := a 156) rfl am_ge156 i18 ?_
        refine am_rbipush rfl (by decide) ?_
        refine am_ric_ne rfl rfl (by unfold am_rg; omega) (by unfold am_rg; omega) (fun hc20 => ?_) (fun hc20 => ?_)
        · refine am_riload_n rfl rfl rfl ?_
          refine am_rputf (S1 := []) (h1 := am_enc (am_ud f 11755 x1) a w e) rfl (am_pfB rfl am_ge117 rfl (am_sf11755 _)) (by rw [am_enc_len, am_enc_len]) ?_
          have J21 := am_Rf11755 (v := x1) hI (by omega) (by omega)
          have m22 : am_mn fz az (am_ud f 11755 x1) a := am_mn_f rfl rfl rfl hp0
          exact am_eret rfl rfl ⟨J21, m22, (show f 11701 = z11701 by omega), (show f 11713 = z11713 by omega), (show f 11709 = z11709 by omega), (show f 11718 = z11718 by omega), (show f 11741 = z11741 by omega), (show f 11750 = z11750 by omega), (show f 11753 = z11753 by omega), (show f 11757 = z11757 by omega), (show f 11763 = z11763 by omega), (show x1 ≤ z55 by omega), (show am_ph f a = zph by omega), (show am_at (a 124) 0 = zp0 by omega)⟩
        · refine am_riload_n rfl rfl rfl ?_
          refine am_riconst rfl ?_
          refine am_risub rfl ?_
          refine am_rgoto rfl rfl ?_
          refine am_rputf (S1 := []) (h1 := am_enc (am_ud f 11755 (x1 - 1)) a w e) rfl (am_pfB rfl am_ge117 rfl (am_sf11755 _)) (by rw [am_enc_len, am_enc_len]) ?_
          have J23 := am_Rf11755 (v := x1 - 1) hI (by omega) (by omega)
          have m24 : am_mn fz az (am_ud f 11755 (x1 - 1)) a := am_mn_f rfl rfl rfl hp0
          exact am_eret rfl rfl ⟨J23, m24, (show f 11701 = z11701 by omega), (show f 11713 = z11713 by omega), (show f 11709 = z11709 by omega), (show f 11718 = z11718 by omega), (show f 11741 = z11741 by omega), (show f 11750 = z11750 by omega), (show f 11753 = z11753 by omega), (show f 11757 = z11757 by omega), (show f 11763 = z11763 by omega), (show x1 - 1 ≤ z55 by omega), (show am_ph f a = zph by omega), (show am_at (a 124) 0 = zp0 by omega)⟩
    · refine am_raload_n rfl rfl rfl ?_
      refine am_rgetf (S1 := [.ref 156]) rfl rfl ?_
      refine am_riload_n rfl rfl rfl ?_
      have q25 : (a 156).length = 2600 := am_Rl156 (am_RL 156 rfl hI.1.1)
      have i26 : am_ib (a 156) x2 := by unfold am_ib; omega
      have q27 := am_Rb156 (am_RL 156 rfl hI.1.1) i26
      refine am_riaload (l := a 156) rfl am_ge156 i26 ?_
      refine am_rbipush rfl (by decide) ?_
      refine am_ric_ne rfl rfl (by unfold am_rg; omega) (by unfold am_rg; omega) (fun hc28 => ?_) (fun hc28 => ?_)
      · refine am_riconst rfl ?_
        refine am_ristore_n (L1 := [(0, .ref 117), (1, am_iv x1), (2, am_iv x2), (3, am_iv 0)]) rfl rfl rfl rfl rfl ?_
        refine am_riload_n rfl rfl rfl ?_
        refine am_rif_ne rfl rfl (by unfold am_rg; omega) (fun hc29 => ?_) (fun hc29 => ?_)
        · exfalso; omega
        refine am_raload_n rfl rfl rfl ?_
        refine am_rgetf (S1 := [.ref 156]) rfl rfl ?_
        refine am_riload_n rfl rfl rfl ?_
        refine am_raload_n rfl rfl rfl ?_
        refine am_rgetf (S1 := [.ref 156, am_iv x1, .ref 156]) rfl rfl ?_
        refine am_riload_n rfl rfl rfl ?_
        have i30 : am_ib (a 156) x2 := by unfold am_ib; omega
        refine am_riaload (l := a 156) rfl am_ge156 i30 ?_
        have i31 : am_ib (a 156) x1 := by unfold am_ib; omega
        have hl32 : am_LR 156 ((a 156).set x1.toNat (am_at (a 156) x2)) := am_RS156 (am_RL 156 rfl hI.1.1) (by omega) (by omega)
        refine am_riastore (l := a 156) (h1 := am_enc f (am_ud a 156 ((a 156).set x1.toNat (am_at (a 156) x2))) w e) rfl am_ge156 i31 (am_sa156 _) ?_
        refine am_riinc (L1 := [(0, .ref 117), (1, am_iv (x1 + 1)), (2, am_iv x2), (3, am_iv 0)]) rfl rfl rfl rfl rfl ?_
        refine am_riinc (L1 := [(0, .ref 117), (1, am_iv (x1 + 1)), (2, am_iv (x2 + 1)), (3, am_iv 0)]) rfl rfl rfl rfl rfl ?_
        refine am_rgoto rfl rfl ?_
        have J33 := am_Ra156 hI hl32
        have m34 : am_mn fz az f (am_ud a 156 ((a 156).set x1.toNat (am_at (a 156) x2))) := am_mn_a rfl rfl hp0
        exact am_T.drop (L1 := [(0, .ref 117), (1, am_iv (x1 + 1)), (2, am_iv (x2 + 1))]) (ih (show ((f 11755) - (x2 + 1)).toNat < n by omega) J33 m34 (show (-2147483648 ≤ (x1 + 1) ∧ (x1 + 1) ≤ 2147483647) by omega) (show (-2147483648 ≤ (x2 + 1) ∧ (x2 + 1) ≤ 2147483647) by omega) (show 0 ≤ (x1 + 1) by omega) (show (x1 + 1) ≤ (x2 + 1) by omega) (show (x2 + 1) ≤ (f 11755) by omega) (show (f 11755) = z55 by omega) (show am_ph f a  = zph by omega) (show am_at (a 124) 0 = zp0 by omega) (show (f 11701) = z11701 by omega) (show (f 11713) = z11713 by omega) (show (f 11709) = z11709 by omega) (show (f 11718) = z11718 by omega) (show (f 11741) = z11741 by omega) (show (f 11750) = z11750 by omega) (show (f 11753) = z11753 by omega) (show (f 11757) = z11757 by omega) (show (f 11763) = z11763 by omega) (show zph ≤ am_ph f a  by omega) (show zp0 ≤ am_at (a 124) 0 by omega) (show zph ≥ 0 by omega) (show zp0 ≥ 0 by omega)) (by simp)
      · refine am_riload_n rfl rfl rfl ?_
        refine am_rif_eq rfl rfl (by unfold am_rg; omega) (fun hc35 => ?_) (fun hc35 => ?_)
        · refine am_riconst rfl ?_
          refine am_rgoto rfl rfl ?_
          refine am_ristore_n (L1 := [(0, .ref 117), (1, am_iv x1), (2, am_iv x2), (3, am_iv 1)]) rfl rfl rfl rfl rfl ?_
          refine am_riload_n rfl rfl rfl ?_
          refine am_rif_ne rfl rfl (by unfold am_rg; omega) (fun hc36 => ?_) (fun hc36 => ?_)
          rotate_left
          · exfalso; omega
          refine am_riinc (L1 := [(0, .ref 117), (1, am_iv x1), (2, am_iv (x2 + 1)), (3, am_iv 1)]) rfl rfl rfl rfl rfl ?_
          refine am_rgoto rfl rfl ?_
          exact am_T.drop (L1 := [(0, .ref 117), (1, am_iv x1), (2, am_iv (x2 + 1))]) (ih (by omega) hI hp0 (by omega) (by omega) (by omega) (by omega) (by omega) (by omega) (by omega) (by omega) (by omega) (by omega) (by omega) (by omega) (by omega) (by omega) (by omega) (by omega) (by omega) (by omega) (by omega) (by omega) (by omega)) (by simp)
        · refine am_raload_n rfl rfl rfl ?_
          refine am_rgetf (S1 := [.ref 156]) rfl rfl ?_
          refine am_riload_n rfl rfl rfl ?_
          refine am_riconst rfl ?_
          refine am_risub rfl ?_
          have i37 : am_ib (a 156) (x1 - 1) := by unfold am_ib; omega
          have q38 := am_Rb156 (am_RL 156 rfl hI.1.1) i37
          refine am_riaload (l := a 156) rfl am_ge156 i37 ?_
          refine am_rbipush rfl (by decide) ?_
          refine am_ric_ne rfl rfl (by unfold am_rg; omega) (by unfold am_rg; omega) (fun hc39 => ?_) (fun hc39 => ?_)
          · refine am_riconst rfl ?_
            refine am_ristore_n (L1 := [(0, .ref 117), (1, am_iv x1), (2, am_iv x2), (3, am_iv 0)]) rfl rfl rfl rfl rfl ?_
            refine am_riload_n rfl rfl rfl ?_
            refine am_rif_ne rfl rfl (by unfold am_rg; omega) (fun hc40 => ?_) (fun hc40 => ?_)
            · exfalso; omega
            refine am_raload_n rfl rfl rfl ?_
            refine am_rgetf (S1 := [.ref 156]) rfl rfl ?_
            refine am_riload_n rfl rfl rfl ?_
            refine am_raload_n rfl rfl rfl ?_
            refine am_rgetf (S1 := [.ref 156, am_iv x1, .ref 156]) rfl rfl ?_
            refine am_riload_n rfl rfl rfl ?_
            have i41 : am_ib (a 156) x2 := by unfold am_ib; omega
            refine am_riaload (l := a 156) rfl am_ge156 i41 ?_
            have i42 : am_ib (a 156) x1 := by unfold am_ib; omega
            have hl43 : am_LR 156 ((a 156).set x1.toNat (am_at (a 156) x2)) := am_RS156 (am_RL 156 rfl hI.1.1) (by omega) (by omega)
            refine am_riastore (l := a 156) (h1 := am_enc f (am_ud a 156 ((a 156).set x1.toNat (am_at (a 156) x2))) w e) rfl am_ge156 i42 (am_sa156 _) ?_
            refine am_riinc (L1 := [(0, .ref 117), (1, am_iv (x1 + 1)), (2, am_iv x2), (3, am_iv 0)]) rfl rfl rfl rfl rfl ?_
            refine am_riinc (L1 := [(0, .ref 117), (1, am_iv (x1 + 1)), (2, am_iv (x2 + 1)), (3, am_iv 0)]) rfl rfl rfl rfl rfl ?_
            refine am_rgoto rfl rfl ?_
            have J44 := am_Ra156 hI hl43
            have m45 : am_mn fz az f (am_ud a 156 ((a 156).set x1.toNat (am_at (a 156) x2))) := am_mn_a rfl rfl hp0
            exact am_T.drop (L1 := [(0, .ref 117), (1, am_iv (x1 + 1)), (2, am_iv (x2 + 1))]) (ih (show ((f 11755) - (x2 + 1)).toNat < n by omega) J44 m45 (show (-2147483648 ≤ (x1 + 1) ∧ (x1 + 1) ≤ 2147483647) by omega) (show (-2147483648 ≤ (x2 + 1) ∧ (x2 + 1) ≤ 2147483647) by omega) (show 0 ≤ (x1 + 1) by omega) (show (x1 + 1) ≤ (x2 + 1) by omega) (show (x2 + 1) ≤ (f 11755) by omega) (show (f 11755) = z55 by omega) (show am_ph f a  = zph by omega) (show am_at (a 124) 0 = zp0 by omega) (show (f 11701) = z11701 by omega) (show (f 11713) = z11713 by omega) (show (f 11709) = z11709 by omega) (show (f 11718) = z11718 by omega) (show (f 11741) = z11741 by omega) (show (f 11750) = z11750 by omega) (show (f 11753) = z11753 by omega) (show (f 11757) = z11757 by omega) (show (f 11763) = z11763 by omega) (show zph ≤ am_ph f a  by omega) (show zp0 ≤ am_at (a 124) 0 by omega) (show zph ≥ 0 by omega) (show zp0 ≥ 0 by omega)) (by simp)
          · refine am_riconst rfl ?_
            refine am_rgoto rfl rfl ?_
            refine am_ristore_n (L1 := [(0, .ref 117), (1, am_iv x1), (2, am_iv x2), (3, am_iv 1)]) rfl rfl rfl rfl rfl ?_
            refine am_riload_n rfl rfl rfl ?_
            refine am_rif_ne rfl rfl (by unfold am_rg; omega) (fun hc46 => ?_) (fun hc46 => ?_)
            rotate_left
            · exfalso; omega
            refine am_riinc (L1 := [(0, .ref 117), (1, am_iv x1), (2, am_iv (x2 + 1)), (3, am_iv 1)]) rfl rfl rfl rfl rfl ?_
            refine am_rgoto rfl rfl ?_
            exact am_T.drop (L1 := [(0, .ref 117), (1, am_iv x1), (2, am_iv (x2 + 1))]) (ih (by omega) hI hp0 (by omega) (by omega) (by omega) (by omega) (by omega) (by omega) (by omega) (by omega) (by omega) (by omega) (by omega) (by omega) (by omega) (by omega) (by omega) (by omega) (by omega) (by omega) (by omega) (by omega) (by omega)) (by simp)
set_option maxRecDepth 100000 in
set_option maxHeartbeats 4000000 in
theorem am_ct136 {X : List Value} {w : Value} {e : Nat} {g : aF} {h : aA} {E : Nat → aF → aA → Prop} {d : Nat} {f : aF} {a : aA} (hd : 1 ≤ d) (hI : am_RV g h f a) :
    am_TE X d am_m135 0 (lv_args 0 [.ref 117]) [] f a w e (am_QV (fun f1 a1 => am_RV g h f1 a1 ∧ am_mn f a f1 a1 ∧ f1 11701 = (f 11701) ∧ f1 11713 = (f 11713) ∧ f1 11709 = (f 11709) ∧ f1 11718 = (f 11718) ∧ f1 11741 = (f 11741) ∧ f1 11750 = (f 11750) ∧ f1 11753 = (f 11753) ∧ f1 11757 = (f 11757) ∧ f1 11763 = (f 11763) ∧ f1 11755 ≤ (f 11755) ∧ am_ph f1 a1 = (am_ph f a) ∧ am_at (a1 124) 0 = (am_at (a 124) 0))) E := by
  obtain ⟨d, rfl⟩ : ∃ d0, d = d0 + 1 := ⟨d - 1, by omega⟩
  have q1 := am_RV_ph hI
  have q2 := am_RV_p0 hI
  refine am_riconst rfl ?_
  refine am_ristore_n (L1 := [(0, .ref 117), (1, am_iv 0)]) rfl rfl rfl rfl rfl ?_
  refine am_riconst rfl ?_
  refine am_ristore_n (L1 := [(0, .ref 117), (1, am_iv 0), (2, am_iv 0)]) rfl rfl rfl rfl rfl ?_
  have q3 := am_Rg11701 hI.1.1
  have q4 := am_Rg11755 hI.1.1
  have q5 := am_Rg11713 hI.1.1
  have q6 := am_Rg11709 hI.1.1
  have q7 := am_Rg11718 hI.1.1
  have q8 := am_Rg11741 hI.1.1
  have q9 := am_Rg11750 hI.1.1
  have q10 := am_Rg11753 hI.1.1
  have q11 := am_Rg11757 hI.1.1
  have q12 := am_Rg11763 hI.1.1
  exact am_ct136_4 hd (_ + 1) (Nat.lt_succ_self _) hI (am_mn.refl f a) (by omega) (by omega) (by omega) (by omega) (by omega) (by omega) (by omega) (by omega) (by omega) (by omega) (by omega) (by omega) (by omega) (by omega) (by omega) (by omega) (by omega) (by omega) (by omega) (by omega) (by omega)
set_option maxRecDepth 100000 in
set_option maxHeartbeats 4000000 in
theorem am_ct137 {X : List Value} {w : Value} {e : Nat} {g : aF} {h : aA} {E : Nat → aF → aA → Prop} {d : Nat} {f : aF} {a : aA} (hd : 4 ≤ d) (hI : am_RV g h f a) :
    am_TE X d am_m136 0 (lv_args 0 [.ref 117]) [] f a w e (am_QV (fun f1 a1 => am_RV g h f1 a1 ∧ am_mo f a f1 a1 ∧ f1 11713 = (f 11713))) E := by
  obtain ⟨d, rfl⟩ : ∃ d0, d = d0 + 1 := ⟨d - 1, by omega⟩
  have q1 := am_RV_ph hI
  have q2 := am_RV_p0 hI
  refine am_raload_n rfl rfl rfl ?_
  refine am_evirtualI (m := am_m121) (As := [.ref 117]) (S1 := []) rfl rfl rfl rfl rfl rfl rfl rfl rfl rfl (am_TE.int (am_ct122  (by omega) hI) (fun b3 f3 a3 hq4 => ?_) (fun _ _ _ h => h))
  obtain ⟨rfl, rfl, hq4⟩ := hq4
  refine am_rbipush rfl (by decide) ?_
  refine am_ric_ne rfl rfl (by unfold am_rg; omega) (by unfold am_rg; omega) (fun hc5 => ?_) (fun hc5 => ?_)
  · refine am_raload_n rfl rfl rfl ?_
    refine am_evirtualI (m := am_m121) (As := [.ref 117]) (S1 := []) rfl rfl rfl rfl rfl rfl rfl rfl rfl rfl (am_TE.int (am_ct122  (by omega) hI) (fun b6 f6 a6 hq7 => ?_) (fun _ _ _ h => h))
    obtain ⟨rfl, rfl, hq7⟩ := hq7
    refine am_rbipush rfl (by decide) ?_
    refine am_ric_ne rfl rfl (by unfold am_rg; omega) (by unfold am_rg; omega) (fun hc8 => ?_) (fun hc8 => ?_)
    · have q9 := am_Rg11701 hI.1.1
      have q10 := am_Rg11713 hI.1.1
      exact am_eret rfl rfl ⟨hI, (am_mo.refl f a), (show f 11713 = (f 11713) by omega)⟩
    · refine am_raload_n rfl rfl rfl ?_
      refine am_rldc2 rfl rfl ?_
      refine am_evirtualV (m := am_m124) (As := [.ref 117, .long (88327114737987)]) (S1 := []) rfl rfl rfl rfl rfl rfl rfl rfl rfl rfl (am_TE.void (am_ct125 (y1 := 88327114737987) (by omega) hI (by decide)) (fun f11 a11 hq12 => ?_) (fun _ _ _ h => h))
      obtain ⟨hI13, hk14, hq12⟩ := hq12
      replace hq12 : f11 11713 = ((f 11713)) ∧ (am_ph f a ) + 1 ≤ am_ph f11 a11 + 1 * (f11 11701) ∧ (am_at (a 124) 0) + 1 ≤ am_at (a11 124) 0 + 1 * (f11 11701) + 1 * ((f 11713)) := hq12
      have mm15 : f 11701 ≤ f11 11701 ∧ am_ph f a ≤ am_ph f11 a11 ∧ am_at (a 124) 0 ≤ am_at (a11 124) 0 ∧ am_at (a11 125) 0 = am_at (a 125) 0 := hk14.1
      have hm16 := am_mo.trans (am_mo.refl f a) hk14
      refine am_rgoto rfl rfl ?_
      refine am_raload_n rfl rfl rfl ?_
      refine am_riconst rfl ?_
      have q17 := am_Rg11701 hI13.1.1
      refine am_evirtualV (m := am_m116) (As := [.ref 117, am_iv 3]) (S1 := []) rfl rfl rfl rfl rfl rfl rfl rfl rfl rfl (am_TE.void (am_ct117 (y1 := 3) (by omega) (by omega) (show 1 ≤ 3 by omega) (show 3 ≤ 3 by omega) (show 0 ≤ (f11 11701) by omega) (show (f11 11701) ≤ 3 by omega)) (fun f18 a18 hq19 => ?_) (fun _ _ _ h => h))
      obtain ⟨v20, rfl, rfl, hq19⟩ := hq19
      replace hq19 : 0 < v20 ∧ v20 ≤ 3 ∧ f11 11701 ≤ v20 := hq19
      have J21 := am_Rf11701 (v := v20) hI13 (by omega) (by omega)
      have m22 : am_mo f a (am_ud f11 11701 v20) a11 := am_mo.halt hm16 (by omega)
      have q23 := am_Rg11713 hI13.1.1
      exact am_eret rfl rfl ⟨J21, m22, (show f11 11713 = (f 11713) by omega)⟩
  · refine am_raload_n rfl rfl rfl ?_
    refine am_rldc2 rfl rfl ?_
    refine am_evirtualV (m := am_m124) (As := [.ref 117, .long (91643115226445)]) (S1 := []) rfl rfl rfl rfl rfl rfl rfl rfl rfl rfl (am_TE.void (am_ct125 (y1 := 91643115226445) (by omega) hI (by decide)) (fun f24 a24 hq25 => ?_) (fun _ _ _ h => h))
    obtain ⟨hI26, hk27, hq25⟩ := hq25
    replace hq25 : f24 11713 = ((f 11713)) ∧ (am_ph f a ) + 1 ≤ am_ph f24 a24 + 1 * (f24 11701) ∧ (am_at (a 124) 0) + 1 ≤ am_at (a24 124) 0 + 1 * (f24 11701) + 1 * ((f 11713)) := hq25
    have mm28 : f 11701 ≤ f24 11701 ∧ am_ph f a ≤ am_ph f24 a24 ∧ am_at (a 124) 0 ≤ am_at (a24 124) 0 ∧ am_at (a24 125) 0 = am_at (a 125) 0 := hk27.1
    have hm29 := am_mo.trans (am_mo.refl f a) hk27
    refine am_rgoto rfl rfl ?_
    refine am_raload_n rfl rfl rfl ?_
    refine am_riconst rfl ?_
    have q30 := am_Rg11701 hI26.1.1
    refine am_evirtualV (m := am_m116) (As := [.ref 117, am_iv 3]) (S1 := []) rfl rfl rfl rfl rfl rfl rfl rfl rfl rfl (am_TE.void (am_ct117 (y1 := 3) (by omega) (by omega) (show 1 ≤ 3 by omega) (show 3 ≤ 3 by omega) (show 0 ≤ (f24 11701) by omega) (show (f24 11701) ≤ 3 by omega)) (fun f31 a31 hq32 => ?_) (fun _ _ _ h => h))
    obtain ⟨v33, rfl, rfl, hq32⟩ := hq32
    replace hq32 : 0 < v33 ∧ v33 ≤ 3 ∧ f24 11701 ≤ v33 := hq32
    have J34 := am_Rf11701 (v := v33) hI26 (by omega) (by omega)
    have m35 : am_mo f a (am_ud f24 11701 v33) a24 := am_mo.halt hm29 (by omega)
    have q36 := am_Rg11713 hI26.1.1
    exact am_eret rfl rfl ⟨J34, m35, (show f24 11713 = (f 11713) by omega)⟩
set_option maxRecDepth 100000 in
set_option maxHeartbeats 4000000 in
theorem am_ct145_2 {X : List Value} {w : Value} {e : Nat} {g : aF} {h : aA} {E : Nat → aF → aA → Prop} {d : Nat} (hd : 1 ≤ d + 1) (n : Nat) :
    ∀ {f : aF} {a : aA} {x1 : Int} {x2 : Int} {x3 : Int}, (f 11741 - x3).toNat < n → am_RV g h f a → (-2147483648 ≤ x1 ∧ x1 ≤ 2147483647) → (-2147483648 ≤ x2 ∧ x2 ≤ 2147483647) → (-2147483648 ≤ x3 ∧ x3 ≤ 2147483647) → 0 ≤ x3 → am_TE X (d + 1) am_m144 2 [(0, .ref 117), (1, am_iv x1), (2, am_iv x2), (3, am_iv x3)] [] f a w e (am_QI (fun b f1 a1 => f = f1 ∧ a = a1 ∧ (-2147483648 ≤ b ∧ b ≤ 2147483647) ∧ (-1 ≤ b ∧ b < f 11741))) E := by
  induction n with
  | zero => intros; omega
  | succ n ih =>
    intro f a x1 x2 x3 hn hI hp0 hp1 hp2 hp3
    have q1 := am_RV_ph hI
    have q2 := am_Rg11741 hI.1.1
    refine am_riload_n rfl rfl rfl ?_
    refine am_raload_n rfl rfl rfl ?_
    refine am_rgetf (S1 := [am_iv (f 11741), am_iv x3]) rfl rfl ?_
    refine am_ric_ge rfl rfl (by unfold am_rg; omega) (by unfold am_rg; omega) (fun hc3 => ?_) (fun hc3 => ?_)
    · refine am_riconst rfl ?_
      have q4 := am_Rg11701 hI.1.1
      exact am_eiret rfl rfl ⟨rfl, rfl, (show (-2147483648 ≤ ((-1) : Int) ∧ ((-1) : Int) ≤ 2147483647) by omega), (show (-1 ≤ (((-1) : Int)) ∧ (((-1) : Int)) < f 11741) by omega)⟩
    · refine am_raload_n rfl rfl rfl ?_
      refine am_rgetf (S1 := [.ref 145]) rfl rfl ?_
      refine am_riload_n rfl rfl rfl ?_
      have q5 : (a 145).length = 64 := am_Rl145 (am_RL 145 rfl hI.1.1)
      have i6 : am_ib (a 145) x3 := by unfold am_ib; omega
      have q7 := am_Rb145 (am_RL 145 rfl hI.1.1) i6
      refine am_riaload (l := a 145) rfl am_ge145 i6 ?_
      refine am_riload_n rfl rfl rfl ?_
      refine am_ric_ne rfl rfl (by unfold am_rg; omega) (by unfold am_rg; omega) (fun hc8 => ?_) (fun hc8 => ?_)
      · refine am_riinc (L1 := [(0, .ref 117), (1, am_iv x1), (2, am_iv x2), (3, am_iv (x3 + 1))]) rfl rfl rfl rfl rfl ?_
        refine am_rgoto rfl rfl ?_
        have q9 := am_Rg11701 hI.1.1
        exact ih (by omega) hI (by omega) (by omega) (by omega) (by omega)
      · refine am_raload_n rfl rfl rfl ?_
        refine am_rgetf (S1 := [.ref 146]) rfl rfl ?_
        refine am_riload_n rfl rfl rfl ?_
        have q10 : (a 146).length = 64 := am_Rl146 (am_RL 146 rfl hI.1.1)
        have i11 : am_ib (a 146) x3 := by unfold am_ib; omega
        have q12 := am_Rb146 (am_RL 146 rfl hI.1.1) i11
        refine am_riaload (l := a 146) rfl am_ge146 i11 ?_
        refine am_riload_n rfl rfl rfl ?_
        refine am_ric_ne rfl rfl (by unfold am_rg; omega) (by unfold am_rg; omega) (fun hc13 => ?_) (fun hc13 => ?_)
        · refine am_riinc (L1 := [(0, .ref 117), (1, am_iv x1), (2, am_iv x2), (3, am_iv (x3 + 1))]) rfl rfl rfl rfl rfl ?_
          refine am_rgoto rfl rfl ?_
          have q14 := am_Rg11701 hI.1.1
          exact ih (by omega) hI (by omega) (by omega) (by omega) (by omega)
        · refine am_riload_n rfl rfl rfl ?_
          have q15 := am_Rg11701 hI.1.1
          exact am_eiret rfl rfl ⟨rfl, rfl, (show (-2147483648 ≤ x3 ∧ x3 ≤ 2147483647) by omega), (show (-1 ≤ x3 ∧ x3 < f 11741) by omega)⟩
set_option maxRecDepth 100000 in
set_option maxHeartbeats 4000000 in
theorem am_ct145 {X : List Value} {w : Value} {e : Nat} {g : aF} {h : aA} {E : Nat → aF → aA → Prop} {d : Nat} {y1 : Int} {y2 : Int} {f : aF} {a : aA} (hd : 1 ≤ d) (hI : am_RV g h f a) (hp0 : (-2147483648 ≤ y1 ∧ y1 ≤ 2147483647)) (hp1 : (-2147483648 ≤ y2 ∧ y2 ≤ 2147483647)) :
    am_TE X d am_m144 0 (lv_args 0 [.ref 117, am_iv y1, am_iv y2]) [] f a w e (am_QI (fun b f1 a1 => f = f1 ∧ a = a1 ∧ (-2147483648 ≤ b ∧ b ≤ 2147483647) ∧ (-1 ≤ b ∧ b < f 11741))) E := by
  obtain ⟨d, rfl⟩ : ∃ d0, d = d0 + 1 := ⟨d - 1, by omega⟩
  have q1 := am_RV_ph hI
  refine am_riconst rfl ?_
  refine am_ristore_n (L1 := [(0, .ref 117), (1, am_iv y1), (2, am_iv y2), (3, am_iv 0)]) rfl rfl rfl rfl rfl ?_
  have q2 := am_Rg11701 hI.1.1
  exact am_ct145_2 hd (_ + 1) (Nat.lt_succ_self _) hI (by omega) (by omega) (by omega) (by omega)
