set_option maxRecDepth 100000 in
set_option maxHeartbeats 4000000 in
theorem am_ct167 {X : List Value} {w : Value} {e : Nat} {g : aF} {h : aA} {E : Nat → aF → aA → Prop} {d : Nat} {f : aF} {a : aA} (hd : 3 ≤ d) (hI : am_RV g h f a) (hp0 : 1 ≤ f 11718 + f 11701) :
    am_TE X d am_m166 0 (lv_args 0 [.ref 117]) [] f a w e (am_QV (fun f1 a1 => am_RV g h f1 a1 ∧ am_mn f a f1 a1 ∧ f1 11713 = (f 11713) ∧ f1 11709 = (f 11709) ∧ f1 11741 = (f 11741) ∧ f1 11750 = (f 11750) ∧ f1 11753 = (f 11753) ∧ (f 11718) - 1 ≤ f1 11718 ∧ f1 11718 ≤ (f 11718))) E := by
  obtain ⟨d, rfl⟩ : ∃ d0, d = d0 + 1 := ⟨d - 1, by omega⟩
  have q1 := am_RV_ph hI
  have q2 := am_RV_p0 hI
  have q3 := am_Rg11701 hI.1.1
  have q4 := am_Rg11718 hI.1.1
  refine am_raload_n rfl rfl rfl ?_
  refine am_rgetf (S1 := [am_iv (f 11701)]) rfl rfl ?_
  refine am_rif_eq rfl rfl (by unfold am_rg; omega) (fun hc5 => ?_) (fun hc5 => ?_)
  · refine am_raload_n rfl rfl rfl ?_
    refine am_rgetf (S1 := [.ref 128]) rfl rfl ?_
    refine am_raload_n rfl rfl rfl ?_
    refine am_rgetf (S1 := [am_iv (f 11718), .ref 128]) rfl rfl ?_
    refine am_riconst rfl ?_
    refine am_risub rfl ?_
    have q6 : (a 128).length = 20 := am_Rl128 (am_RL 128 rfl hI.1.1)
    have i7 : am_ib (a 128) ((f 11718) - 1) := by unfold am_ib; omega
    have q8 := am_Rb128 (am_RL 128 rfl hI.1.1) i7
    refine am_riaload (l := a 128) rfl am_ge128 i7 ?_
    refine am_ristore_n (L1 := [(0, .ref 117), (1, am_iv (am_at (a 128) ((f 11718) - 1)))]) rfl rfl rfl rfl rfl ?_
    refine am_raload_n rfl rfl rfl ?_
    refine am_riconst rfl ?_
    refine am_rbipush rfl (by decide) ?_
    refine am_riload_n rfl rfl rfl ?_
    refine am_riadd rfl ?_
    refine am_evirtualV (m := am_m155) (As := [.ref 117, am_iv 4, am_iv (97 + (am_at (a 128) ((f 11718) - 1)))]) (S1 := []) rfl rfl rfl rfl rfl rfl rfl rfl rfl rfl (am_TE.void (am_ct156 (y1 := 4) (y2 := (97 + (am_at (a 128) ((f 11718) - 1)))) (by omega) hI (by omega) (by omega)) (fun f9 a9 hq10 => ?_) (fun _ _ _ h => h))
    obtain ⟨hI11, hk12, hq10⟩ := hq10
    replace hq10 : f9 11713 = ((f 11713)) ∧ f9 11718 = ((f 11718)) ∧ f9 11709 = ((f 11709)) ∧ f9 11741 = ((f 11741)) ∧ f9 11750 = ((f 11750)) ∧ f9 11753 = ((f 11753)) ∧ f9 11755 = ((f 11755)) ∧ 1 ≤ f9 11757 + f9 11701 := hq10
    have mm13 : f 11701 ≤ f9 11701 ∧ am_ph f a ≤ am_ph f9 a9 ∧ am_at (a 124) 0 ≤ am_at (a9 124) 0 ∧ am_at (a9 125) 0 = am_at (a 125) 0 := hk12
    have hm14 := am_mn.trans (am_mn.refl f a) hk12
    refine am_raload_n rfl rfl rfl ?_
    refine am_rgetf (S1 := [.ref 132]) rfl rfl ?_
    refine am_riload_n rfl rfl rfl ?_
    have q15 : (a9 132).length = 26 := am_Rl132 (am_RL 132 rfl hI11.1.1)
    have i16 : am_ib (a9 132) (am_at (a 128) ((f 11718) - 1)) := by unfold am_ib; omega
    have q17 := am_Rb132 (am_RL 132 rfl hI11.1.1) i16
    refine am_riaload (l := a9 132) rfl am_ge132 i16 ?_
    refine am_riconst rfl ?_
    refine am_ric_ne rfl rfl (by unfold am_rg; omega) (by unfold am_rg; omega) (fun hc18 => ?_) (fun hc18 => ?_)
    · refine am_raload_n rfl rfl rfl ?_
      refine am_rdup rfl rfl ?_
      have q19 := am_Rg11718 hI11.1.1
      refine am_rgetf (S1 := [am_iv (f9 11718), .ref 117]) rfl rfl ?_
      refine am_riconst rfl ?_
      refine am_risub rfl ?_
      refine am_rputf (S1 := []) (h1 := am_enc (am_ud f9 11718 ((f9 11718) - 1)) a9 w e) rfl (am_pfB rfl am_ge117 rfl (am_sf11718 _)) (by rw [am_enc_len, am_enc_len]) ?_
      have q20 := am_Rg11701 hI11.1.1
      have q22 := hI11.2.1
      have q23 := am_Rg11713 hI11.1.1
      have J21 := am_Rf11718 (v := (f9 11718) - 1) hI11 (by omega) (by omega) (show (f9 11718) - 1 + f9 11713 ≤ 16 by omega)
      have m24 : am_mn f a (am_ud f9 11718 ((f9 11718) - 1)) a9 := am_mn_f rfl rfl rfl hm14
      have q25 := am_Rg11709 hI11.1.1
      have q26 := am_Rg11741 hI11.1.1
      have q27 := am_Rg11750 hI11.1.1
      have q28 := am_Rg11753 hI11.1.1
      exact am_eret rfl rfl ⟨J21, m24, (show f9 11713 = (f 11713) by omega), (show f9 11709 = (f 11709) by omega), (show f9 11741 = (f 11741) by omega), (show f9 11750 = (f 11750) by omega), (show f9 11753 = (f 11753) by omega), (show (f 11718) - 1 ≤ (f9 11718) - 1 by omega), (show (f9 11718) - 1 ≤ (f 11718) by omega)⟩
    · refine am_raload_n rfl rfl rfl ?_
      refine am_rgetf (S1 := [.ref 131]) rfl rfl ?_
      refine am_raload_n rfl rfl rfl ?_
      have q29 := am_Rg11718 hI11.1.1
      refine am_rgetf (S1 := [am_iv (f9 11718), .ref 131]) rfl rfl ?_
      refine am_riconst rfl ?_
      refine am_risub rfl ?_
      have q30 : (a9 131).length = 20 := am_Rl131 (am_RL 131 rfl hI11.1.1)
      have i31 : am_ib (a9 131) ((f9 11718) - 1) := by unfold am_ib; omega
      have q32 := am_Rb131 (am_RL 131 rfl hI11.1.1) i31
      refine am_rbaload (l := a9 131) rfl am_ge131 i31 ?_
      refine am_rif_ne rfl rfl (by unfold am_rg; omega) (fun hc33 => ?_) (fun hc33 => ?_)
      · refine am_raload_n rfl rfl rfl ?_
        refine am_rdup rfl rfl ?_
        refine am_rgetf (S1 := [am_iv (f9 11718), .ref 117]) rfl rfl ?_
        refine am_riconst rfl ?_
        refine am_risub rfl ?_
        refine am_rputf (S1 := []) (h1 := am_enc (am_ud f9 11718 ((f9 11718) - 1)) a9 w e) rfl (am_pfB rfl am_ge117 rfl (am_sf11718 _)) (by rw [am_enc_len, am_enc_len]) ?_
        have q34 := am_Rg11701 hI11.1.1
        have q36 := hI11.2.1
        have q37 := am_Rg11713 hI11.1.1
        have J35 := am_Rf11718 (v := (f9 11718) - 1) hI11 (by omega) (by omega) (show (f9 11718) - 1 + f9 11713 ≤ 16 by omega)
        have m38 : am_mn f a (am_ud f9 11718 ((f9 11718) - 1)) a9 := am_mn_f rfl rfl rfl hm14
        have q39 := am_Rg11709 hI11.1.1
        have q40 := am_Rg11741 hI11.1.1
        have q41 := am_Rg11750 hI11.1.1
        have q42 := am_Rg11753 hI11.1.1
        exact am_eret rfl rfl ⟨J35, m38, (show f9 11713 = (f 11713) by omega), (show f9 11709 = (f 11709) by omega), (show f9 11741 = (f 11741) by omega), (show f9 11750 = (f 11750) by omega), (show f9 11753 = (f 11753) by omega), (show (f 11718) - 1 ≤ (f9 11718) - 1 by omega), (show (f9 11718) - 1 ≤ (f 11718) by omega)⟩
      · refine am_raload_n rfl rfl rfl ?_
        refine am_rdup rfl rfl ?_
        have q43 := am_Rg11704 hI11.1.1
        refine am_rgetf (S1 := [am_iv (f9 11704), .ref 117]) rfl rfl ?_
        refine am_riconst rfl ?_
        have q44 := am_or_rg (f9 11704) 4
        refine am_rior rfl ?_
        refine am_rputf (S1 := []) (h1 := am_enc (am_ud f9 11704 (am_or (f9 11704) 4)) a9 w e) rfl (am_pfB rfl am_ge117 rfl (am_sf11704 _)) (by rw [am_enc_len, am_enc_len]) ?_
        refine am_raload_n rfl rfl rfl ?_
        refine am_rdup rfl rfl ?_
        refine am_rgetf (S1 := [am_iv (f9 11718), .ref 117]) rfl rfl ?_
        refine am_riconst rfl ?_
        refine am_risub rfl ?_
        refine am_rputf (S1 := []) (h1 := am_enc (am_ud (am_ud f9 11704 (am_or (f9 11704) 4)) 11718 ((f9 11718) - 1)) a9 w e) rfl (am_pfB rfl am_ge117 rfl (am_sf11718 _)) (by rw [am_enc_len, am_enc_len]) ?_
        have q45 := am_Rg11701 hI11.1.1
        have J46 := am_Rf11704 (v := am_or (f9 11704) 4) hI11 (by omega) (by omega)
        have q48 := hI11.2.1
        have q49 := am_Rg11713 hI11.1.1
        have J47 := am_Rf11718 (v := (f9 11718) - 1) J46 (by omega) (by omega) (show (f9 11718) - 1 + f9 11713 ≤ 16 by omega)
        have m50 : am_mn f a (am_ud f9 11704 (am_or (f9 11704) 4)) a9 := am_mn_f rfl rfl rfl hm14
        have m51 : am_mn f a (am_ud (am_ud f9 11704 (am_or (f9 11704) 4)) 11718 ((f9 11718) - 1)) a9 := am_mn_f rfl rfl rfl m50
        have q52 := am_Rg11709 hI11.1.1
        have q53 := am_Rg11741 hI11.1.1
        have q54 := am_Rg11750 hI11.1.1
        have q55 := am_Rg11753 hI11.1.1
        exact am_eret rfl rfl ⟨J47, m51, (show f9 11713 = (f 11713) by omega), (show f9 11709 = (f 11709) by omega), (show f9 11741 = (f 11741) by omega), (show f9 11750 = (f 11750) by omega), (show f9 11753 = (f 11753) by omega), (show (f 11718) - 1 ≤ (f9 11718) - 1 by omega), (show (f9 11718) - 1 ≤ (f 11718) by omega)⟩
  · have q56 := am_Rg11713 hI.1.1
    have q57 := am_Rg11709 hI.1.1
    have q58 := am_Rg11741 hI.1.1
    have q59 := am_Rg11750 hI.1.1
    have q60 := am_Rg11753 hI.1.1
    exact am_eret rfl rfl ⟨hI, (am_mn.refl f a), (show f 11713 = (f 11713) by omega), (show f 11709 = (f 11709) by omega), (show f 11741 = (f 11741) by omega), (show f 11750 = (f 11750) by omega), (show f 11753 = (f 11753) by omega), (show (f 11718) - 1 ≤ f 11718 by omega), (show f 11718 ≤ (f 11718) by omega)⟩
set_option maxRecDepth 100000 in
set_option maxHeartbeats 4000000 in
theorem am_ct166_L2 {X : List Value} {w : Value} {e : Nat} {g : aF} {h : aA} {E : Nat → aF → aA → Prop} {d : Nat} {z11713 : Int} {z11718 : Int} {z11709 : Int} {z11741 : Int} {z11750 : Int} {z11753 : Int} {fz : aF} {az : aA} (hd : 4 ≤ d + 1) (n : Nat) :
    (∀ {f : aF} {a : aA} {x1 : Int} {x2 : Int} {x3 : Int}, (4000 * (64 - x3) + 3000).toNat < n → am_RV g h f a → am_mn fz az f a → (-2147483648 ≤ x1 ∧ x1 ≤ 2147483647) → (-2147483648 ≤ x2 ∧ x2 ≤ 2147483647) → (-2147483648 ≤ x3 ∧ x3 ≤ 2147483647) → 0 ≤ x3 → x3 ≤ 64 → f 11713 = z11713 → f 11718 = z11718 → f 11709 = z11709 → f 11741 = z11741 → f 11750 = z11750 → f 11753 = z11753 → am_TE X (d + 1) am_m165 2 [(0, .ref 117), (1, am_iv x1), (2, am_iv x2), (3, am_iv x3)] [] f a w e (am_QV (fun f1 a1 => am_RV g h f1 a1 ∧ am_mn fz az f1 a1 ∧ f1 11713 = z11713 ∧ f1 11718 = z11718 ∧ f1 11709 = z11709 ∧ f1 11741 = z11741 ∧ f1 11750 = z11750 ∧ f1 11753 = z11753)) E) ∧ (∀ {f : aF} {a : aA} {x1 : Int} {x2 : Int} {x3 : Int} {x5 : Int}, (4000 * (64 - x3) + 2600 - x5).toNat < n → am_RV g h f a → am_mn fz az f a → (-2147483648 ≤ x1 ∧ x1 ≤ 2147483647) → (-2147483648 ≤ x2 ∧ x2 ≤ 2147483647) → (-2147483648 ≤ x3 ∧ x3 ≤ 2147483647) → (-2147483648 ≤ x5 ∧ x5 ≤ 2147483647) → 0 ≤ x3 → x3 < 64 → 0 ≤ x5 → x5 ≤ 2600 → am_at (a 149) x3 + f 11755 ≤ 3200 → f 11713 = z11713 → f 11718 = z11718 → f 11709 = z11709 → f 11741 = z11741 → f 11750 = z11750 → f 11753 = z11753 → am_TE X (d + 1) am_m165 100 [(0, .ref 117), (1, am_iv x1), (2, am_iv x2), (3, am_iv x3), (5, am_iv x5)] [] f a w e (am_QV (fun f1 a1 => am_RV g h f1 a1 ∧ am_mn fz az f1 a1 ∧ f1 11713 = z11713 ∧ f1 11718 = z11718 ∧ f1 11709 = z11709 ∧ f1 11741 = z11741 ∧ f1 11750 = z11750 ∧ f1 11753 = z11753)) E) := by
  induction n with
  | zero => refine ⟨?_, ?_⟩ <;> intros <;> omega
  | succ n ih =>
    refine ⟨?_, ?_⟩
    · intro f a x1 x2 x3 hn hI hp0 hp1 hp2 hp3 hp4 hp5 hp6 hp7 hp8 hp9 hp10 hp11
      have q1 := am_RV_ph hI
      have q2 := am_RV_p0 hI
      have q3 := am_Rg11713 hI.1.1
      have q4 := am_Rg11718 hI.1.1
      have q5 := am_Rg11709 hI.1.1
      have q6 := am_Rg11741 hI.1.1
      have q7 := am_Rg11750 hI.1.1
      have q8 := am_Rg11753 hI.1.1
      refine am_riload_n rfl rfl rfl ?_
      refine am_raload_n rfl rfl rfl ?_
      refine am_rgetf (S1 := [am_iv (f 11741), am_iv x3]) rfl rfl ?_
      refine am_ric_ge rfl rfl (by unfold am_rg; omega) (by unfold am_rg; omega) (fun hc9 => ?_) (fun hc9 => ?_)
      · have q10 := am_Rg11701 hI.1.1
        exact am_eret rfl rfl ⟨hI, hp0, (show f 11713 = z11713 by omega), (show f 11718 = z11718 by omega), (show f 11709 = z11709 by omega), (show f 11741 = z11741 by omega), (show f 11750 = z11750 by omega), (show f 11753 = z11753 by omega)⟩
      · refine am_raload_n rfl rfl rfl ?_
        have q11 := am_Rg11701 hI.1.1
        refine am_rgetf (S1 := [am_iv (f 11701)]) rfl rfl ?_
        refine am_rif_ne rfl rfl (by unfold am_rg; omega) (fun hc12 => ?_) (fun hc12 => ?_)
        · exact am_eret rfl rfl ⟨hI, hp0, (show f 11713 = z11713 by omega), (show f 11718 = z11718 by omega), (show f 11709 = z11709 by omega), (show f 11741 = z11741 by omega), (show f 11750 = z11750 by omega), (show f 11753 = z11753 by omega)⟩
        · refine am_raload_n rfl rfl rfl ?_
          refine am_rgetf (S1 := [.ref 145]) rfl rfl ?_
          refine am_riload_n rfl rfl rfl ?_
          have q13 : (a 145).length = 64 := am_Rl145 (am_RL 145 rfl hI.1.1)
          have i14 : am_ib (a 145) x3 := by unfold am_ib; omega
          have q15 := am_Rb145 (am_RL 145 rfl hI.1.1) i14
          refine am_riaload (l := a 145) rfl am_ge145 i14 ?_
          refine am_riload_n rfl rfl rfl ?_
          refine am_ric_ne rfl rfl (by unfold am_rg; omega) (by unfold am_rg; omega) (fun hc16 => ?_) (fun hc16 => ?_)
          · refine am_riconst rfl ?_
            refine am_ristore (L1 := [(0, .ref 117), (1, am_iv x1), (2, am_iv x2), (3, am_iv x3), (4, am_iv 0)]) rfl rfl rfl rfl rfl ?_
            refine am_riload rfl rfl rfl ?_
            refine am_rif_eq rfl rfl (by unfold am_rg; omega) (fun hc17 => ?_) (fun hc17 => ?_)
            rotate_left
            · exfalso; omega
            refine am_riload rfl rfl rfl ?_
            refine am_rif_eq rfl rfl (by unfold am_rg; omega) (fun hc18 => ?_) (fun hc18 => ?_)
            rotate_left
            · exfalso; omega
            refine am_riinc (L1 := [(0, .ref 117), (1, am_iv x1), (2, am_iv x2), (3, am_iv (x3 + 1)), (4, am_iv 0)]) rfl rfl rfl rfl rfl ?_
            refine am_rgoto rfl rfl ?_
            exact am_T.drop (L1 := [(0, .ref 117), (1, am_iv x1), (2, am_iv x2), (3, am_iv (x3 + 1))]) (ih.1 (by omega) hI hp0 (by omega) (by omega) (by omega) (by omega) (by omega) (by omega) (by omega) (by omega) (by omega) (by omega) (by omega)) (by simp)
          · refine am_riload_n rfl rfl rfl ?_
            refine am_raload_n rfl rfl rfl ?_
            refine am_rgetf (S1 := [.ref 146, am_iv x2]) rfl rfl ?_
            refine am_riload_n rfl rfl rfl ?_
            have q19 : (a 146).length = 64 := am_Rl146 (am_RL 146 rfl hI.1.1)
            have i20 : am_ib (a 146) x3 := by unfold am_ib; omega
            have q21 := am_Rb146 (am_RL 146 rfl hI.1.1) i20
            refine am_riaload (l := a 146) rfl am_ge146 i20 ?_
            have q22 := am_shr_rg x2 (am_at (a 146) x3)
            refine am_rishr rfl ?_
            refine am_riconst rfl ?_
            have q23 := am_and_rg (am_shr x2 (am_at (a 146) x3)) 1
            refine am_riand rfl ?_
            refine am_rif_ne rfl rfl (by unfold am_rg; omega) (fun hc24 => ?_) (fun hc24 => ?_)
            · refine am_riconst rfl ?_
              refine am_ristore (L1 := [(0, .ref 117), (1, am_iv x1), (2, am_iv x2), (3, am_iv x3), (4, am_iv 0)]) rfl rfl rfl rfl rfl ?_
              refine am_riload rfl rfl rfl ?_
              refine am_rif_eq rfl rfl (by unfold am_rg; omega) (fun hc25 => ?_) (fun hc25 => ?_)
              rotate_left
              · exfalso; omega
              refine am_riload rfl rfl rfl ?_
              refine am_rif_eq rfl rfl (by unfold am_rg; omega) (fun hc26 => ?_) (fun hc26 => ?_)
              rotate_left
              · exfalso; omega
              refine am_riinc (L1 := [(0, .ref 117), (1, am_iv x1), (2, am_iv x2), (3, am_iv (x3 + 1)), (4, am_iv 0)]) rfl rfl rfl rfl rfl ?_
              refine am_rgoto rfl rfl ?_
              exact am_T.drop (L1 := [(0, .ref 117), (1, am_iv x1), (2, am_iv x2), (3, am_iv (x3 + 1))]) (ih.1 (by omega) hI hp0 (by omega) (by omega) (by omega) (by omega) (by omega) (by omega) (by omega) (by omega) (by omega) (by omega) (by omega)) (by simp)
            · refine am_riconst rfl ?_
              refine am_rgoto rfl rfl ?_
              refine am_ristore (L1 := [(0, .ref 117), (1, am_iv x1), (2, am_iv x2), (3, am_iv x3), (4, am_iv 1)]) rfl rfl rfl rfl rfl ?_
              refine am_riload rfl rfl rfl ?_
              refine am_rif_eq rfl rfl (by unfold am_rg; omega) (fun hc27 => ?_) (fun hc27 => ?_)
              · exfalso; omega
              refine am_raload_n rfl rfl rfl ?_
              refine am_rgetf (S1 := [.ref 148]) rfl rfl ?_
              refine am_riload_n rfl rfl rfl ?_
              have q28 : (a 148).length = 64 := am_Rl148 (am_RL 148 rfl hI.1.1)
              have i29 : am_ib (a 148) x3 := by unfold am_ib; omega
              have q30 := am_Rb148 (am_RL 148 rfl hI.1.1) i29
              refine am_riaload (l := a 148) rfl am_ge148 i29 ?_
              refine am_rif_ne rfl rfl (by unfold am_rg; omega) (fun hc31 => ?_) (fun hc31 => ?_)
              · refine am_riload rfl rfl rfl ?_
                refine am_rif_eq rfl rfl (by unfold am_rg; omega) (fun hc32 => ?_) (fun hc32 => ?_)
                · exfalso; omega
                refine am_raload_n rfl rfl rfl ?_
                refine am_rgetf (S1 := [.ref 148]) rfl rfl ?_
                refine am_riload_n rfl rfl rfl ?_
                have i33 : am_ib (a 148) x3 := by unfold am_ib; omega
                refine am_riaload (l := a 148) rfl am_ge148 i33 ?_
                refine am_riconst rfl ?_
                refine am_ric_lt rfl rfl (by unfold am_rg; omega) (by unfold am_rg; omega) (fun hc34 => ?_) (fun hc34 => ?_)
                · refine am_riinc (L1 := [(0, .ref 117), (1, am_iv x1), (2, am_iv x2), (3, am_iv (x3 + 1)), (4, am_iv 1)]) rfl rfl rfl rfl rfl ?_
                  refine am_rgoto rfl rfl ?_
                  exact am_T.drop (L1 := [(0, .ref 117), (1, am_iv x1), (2, am_iv x2), (3, am_iv (x3 + 1))]) (ih.1 (by omega) hI hp0 (by omega) (by omega) (by omega) (by omega) (by omega) (by omega) (by omega) (by omega) (by omega) (by omega) (by omega)) (by simp)
                · refine am_raload_n rfl rfl rfl ?_
                  refine am_raload_n rfl rfl rfl ?_
                  refine am_rgetf (S1 := [.ref 150, .ref 117]) rfl rfl ?_
                  refine am_riload_n rfl rfl rfl ?_
                  have q35 : (a 150).length = 64 := am_Rl150 (am_RL 150 rfl hI.1.1)
                  have i36 : am_ib (a 150) x3 := by unfold am_ib; omega
                  have q37 := am_Rb150 (am_RL 150 rfl hI.1.1) i36
                  have r4 := hI.1.2.1 x3 (by omega) (by omega)
                  refine am_riaload (l := a 150) rfl am_ge150 i36 ?_
                  refine am_rputf (S1 := []) (h1 := am_enc (am_ud f 11755 (am_at (a 150) x3)) a w e) rfl (am_pfB rfl am_ge117 rfl (am_sf11755 _)) (by rw [am_enc_len, am_enc_len]) ?_
                  refine am_riconst rfl ?_
                  refine am_ristore (L1 := [(0, .ref 117), (1, am_iv x1), (2, am_iv x2), (3, am_iv x3), (4, am_iv 1), (5, am_iv 0)]) rfl rfl rfl rfl rfl ?_
                  have J38 := am_Rf11755 (v := am_at (a 150) x3) hI (by omega) (by omega)
                  have m39 : am_mn fz az (am_ud f 11755 (am_at (a 150) x3)) a := am_mn_f rfl rfl rfl hp0
                  exact am_T.drop (L1 := [(0, .ref 117), (1, am_iv x1), (2, am_iv x2), (3, am_iv x3), (5, am_iv 0)]) (ih.2 (show (4000 * (64 - x3) + 2600 - 0).toNat < n by omega) J38 m39 (show (-2147483648 ≤ x1 ∧ x1 ≤ 2147483647) by omega) (show (-2147483648 ≤ x2 ∧ x2 ≤ 2147483647) by omega) (show (-2147483648 ≤ x3 ∧ x3 ≤ 2147483647) by omega) (show (-2147483648 ≤ 0 ∧ 0 ≤ 2147483647) by omega) (show 0 ≤ x3 by omega) (show x3 < 64 by omega) (show 0 ≤ 0 by omega) (show 0 ≤ 2600 by omega) (show am_at (a 149) x3 + (am_at (a 150) x3) ≤ 3200 by omega) (show (f 11713) = z11713 by omega) (show (f 11718) = z11718 by omega) (show (f 11709) = z11709 by omega) (show (f 11741) = z11741 by omega) (show (f 11750) = z11750 by omega) (show (f 11753) = z11753 by omega)) (by simp)
              · refine am_raload_n rfl rfl rfl ?_
                refine am_rdup rfl rfl ?_
                have q40 := am_Rg11704 hI.1.1
                refine am_rgetf (S1 := [am_iv (f 11704), .ref 117]) rfl rfl ?_
                refine am_rbipush rfl (by decide) ?_
                have q41 := am_or_rg (f 11704) 16
                refine am_rior rfl ?_
                refine am_rputf (S1 := []) (h1 := am_enc (am_ud f 11704 (am_or (f 11704) 16)) a w e) rfl (am_pfB rfl am_ge117 rfl (am_sf11704 _)) (by rw [am_enc_len, am_enc_len]) ?_
                refine am_riload rfl rfl rfl ?_
                refine am_rif_eq rfl rfl (by unfold am_rg; omega) (fun hc42 => ?_) (fun hc42 => ?_)
                · exfalso; omega
                refine am_raload_n rfl rfl rfl ?_
                refine am_rgetf (S1 := [.ref 148]) rfl rfl ?_
                refine am_riload_n rfl rfl rfl ?_
                have i43 : am_ib (a 148) x3 := by unfold am_ib; omega
                refine am_riaload (l := a 148) rfl am_ge148 i43 ?_
                refine am_riconst rfl ?_
                refine am_ric_lt rfl rfl (by unfold am_rg; omega) (by unfold am_rg; omega) (fun hc44 => ?_) (fun hc44 => ?_)
                · refine am_riinc (L1 := [(0, .ref 117), (1, am_iv x1), (2, am_iv x2), (3, am_iv (x3 + 1)), (4, am_iv 1)]) rfl rfl rfl rfl rfl ?_
                  refine am_rgoto rfl rfl ?_
                  have J45 := am_Rf11704 (v := am_or (f 11704) 16) hI (by omega) (by omega)
                  have m46 : am_mn fz az (am_ud f 11704 (am_or (f 11704) 16)) a := am_mn_f rfl rfl rfl hp0
                  exact am_T.drop (L1 := [(0, .ref 117), (1, am_iv x1), (2, am_iv x2), (3, am_iv (x3 + 1))]) (ih.1 (show (4000 * (64 - (x3 + 1)) + 3000).toNat < n by omega) J45 m46 (show (-2147483648 ≤ x1 ∧ x1 ≤ 2147483647) by omega) (show (-2147483648 ≤ x2 ∧ x2 ≤ 2147483647) by omega) (show (-2147483648 ≤ (x3 + 1) ∧ (x3 + 1) ≤ 2147483647) by omega) (show 0 ≤ (x3 + 1) by omega) (show (x3 + 1) ≤ 64 by omega) (show (f 11713) = z11713 by omega) (show (f 11718) = z11718 by omega) (show (f 11709) = z11709 by omega) (show (f 11741) = z11741 by omega) (show (f 11750) = z11750 by omega) (show (f 11753) = z11753 by omega)) (by simp)
                · refine am_raload_n rfl rfl rfl ?_
                  refine am_raload_n rfl rfl rfl ?_
                  refine am_rgetf (S1 := [.ref 150, .ref 117]) rfl rfl ?_
                  refine am_riload_n rfl rfl rfl ?_
                  have q47 : (a 150).length = 64 := am_Rl150 (am_RL 150 rfl hI.1.1)
                  have i48 : am_ib (a 150) x3 := by unfold am_ib; omega
                  have q49 := am_Rb150 (am_RL 150 rfl hI.1.1) i48
                  have r4 := hI.1.2.1 x3 (by omega) (by omega)
                  refine am_riaload (l := a 150) rfl am_ge150 i48 ?_
                  refine am_rputf (S1 := []) (h1 := am_enc (am_ud (am_ud f 11704 (am_or (f 11704) 16)) 11755 (am_at (a 150) x3)) a w e) rfl (am_pfB rfl am_ge117 rfl (am_sf11755 _)) (by rw [am_enc_len, am_enc_len]) ?_
                  refine am_riconst rfl ?_
                  refine am_ristore (L1 := [(0, .ref 117), (1, am_iv x1), (2, am_iv x2), (3, am_iv x3), (4, am_iv 1), (5, am_iv 0)]) rfl rfl rfl rfl rfl ?_
                  have J50 := am_Rf11704 (v := am_or (f 11704) 16) hI (by omega) (by omega)
                  have J51 := am_Rf11755 (v := am_at (a 150) x3) J50 (by omega) (by omega)
                  have m52 : am_mn fz az (am_ud f 11704 (am_or (f 11704) 16)) a := am_mn_f rfl rfl rfl hp0
                  have m53 : am_mn fz az (am_ud (am_ud f 11704 (am_or (f 11704) 16)) 11755 (am_at (a 150) x3)) a := am_mn_f rfl rfl rfl m52
                  exact am_T.drop (L1 := [(0, .ref 117), (1, am_iv x1), (2, am_iv x2), (3, am_iv x3), (5, am_iv 0)]) (ih.2 (show (4000 * (64 - x3) + 2600 - 0).toNat < n by omega) J51 m53 (show (-2147483648 ≤ x1 ∧ x1 ≤ 2147483647) by omega) (show (-2147483648 ≤ x2 ∧ x2 ≤ 2147483647) by omega) (show (-2147483648 ≤ x3 ∧ x3 ≤ 2147483647) by omega) (show (-2147483648 ≤ 0 ∧ 0 ≤ 2147483647) by omega) (show 0 ≤ x3 by omega) (show x3 < 64 by omega) (show 0 ≤ 0 by omega) (show 0 ≤ 2600 by omega) (show am_at (a 149) x3 + (am_at (a 150) x3) ≤ 3200 by omega) (show (f 11713) = z11713 by omega) (show (f 11718) = z11718 by omega) (show (f 11709) = z11709 by omega) (show (f 11741) = z11741 by omega) (show (f 11750) = z11750 by omega) (show (f 11753) = z11753 by omega)) (by simp)
    · intro f a x1 x2 x3 x5 hn hI hp0 hp1 hp2 hp3 hp4 hp5 hp6 hp7 hp8 hp9 hp10 hp11 hp12 hp13 hp14 hp15
      have q1 := am_RV_ph hI
      have q2 := am_RV_p0 hI
      have q3 := am_Rg11755 hI.1.1
      have q4 := am_Rg11713 hI.1.1
      have q5 := am_Rg11718 hI.1.1
      have q6 := am_Rg11709 hI.1.1
      have q7 := am_Rg11741 hI.1.1
      have q8 := am_Rg11750 hI.1.1
      have q9 := am_Rg11753 hI.1.1
      refine am_riload rfl rfl rfl ?_
      refine am_raload_n rfl rfl rfl ?_
      refine am_rgetf (S1 := [am_iv (f 11755), am_iv x5]) rfl rfl ?_
      refine am_ric_ge rfl rfl (by unfold am_rg; omega) (by unfold am_rg; omega) (fun hc10 => ?_) (fun hc10 => ?_)
      · refine am_raload_n rfl rfl rfl ?_
        refine am_riload_n rfl rfl rfl ?_
        refine am_raload_n rfl rfl rfl ?_
        refine am_rgetf (S1 := [.ref 146, am_iv x3, .ref 117]) rfl rfl ?_
        refine am_riload_n rfl rfl rfl ?_
        have q11 : (a 146).length = 64 := am_Rl146 (am_RL 146 rfl hI.1.1)
        have i12 : am_ib (a 146) x3 := by unfold am_ib; omega
        have q13 := am_Rb146 (am_RL 146 rfl hI.1.1) i12
        refine am_riaload (l := a 146) rfl am_ge146 i12 ?_
        refine am_evirtualV (m := am_m161) (As := [.ref 117, am_iv x3, am_iv (am_at (a 146) x3)]) (S1 := []) rfl rfl rfl rfl rfl rfl rfl rfl rfl rfl (am_TE.void (am_ct162 (y1 := x3) (y2 := (am_at (a 146) x3)) (by omega) hI (by omega) (by omega) (show x3 < 64 by omega) (show 0 ≤ (am_at (a 146) x3) by omega) (show (am_at (a 146) x3) ≤ 25 by omega)) (fun f14 a14 hq15 => ?_) (fun _ _ _ h => h))
        obtain ⟨hI16, hk17, hq15⟩ := hq15
        replace hq15 : f14 11713 = ((f 11713)) ∧ f14 11718 = ((f 11718)) ∧ f14 11709 = ((f 11709)) ∧ f14 11741 = ((f 11741)) ∧ f14 11750 = ((f 11750)) ∧ f14 11753 = ((f 11753)) ∧ f14 11755 = ((f 11755)) := hq15
        have mm18 : f 11701 ≤ f14 11701 ∧ am_ph f a ≤ am_ph f14 a14 ∧ am_at (a 124) 0 ≤ am_at (a14 124) 0 ∧ am_at (a14 125) 0 = am_at (a 125) 0 := hk17
        have hm19 := am_mn.trans hp0 hk17
        refine am_riinc (L1 := [(0, .ref 117), (1, am_iv x1), (2, am_iv x2), (3, am_iv (x3 + 1)), (5, am_iv x5)]) rfl rfl rfl rfl rfl ?_
        refine am_rgoto rfl rfl ?_
        have q20 := am_Rg11701 hI16.1.1
        have q21 := am_Rg11713 hI16.1.1
        have q22 := am_Rg11718 hI16.1.1
        have q23 := am_Rg11709 hI16.1.1
        have q24 := am_Rg11741 hI16.1.1
        have q25 := am_Rg11750 hI16.1.1
        have q26 := am_Rg11753 hI16.1.1
        exact am_T.drop (L1 := [(0, .ref 117), (1, am_iv x1), (2, am_iv x2), (3, am_iv (x3 + 1))]) (ih.1 (by omega) hI16 hm19 (by omega) (by omega) (by omega) (by omega) (by omega) (by omega) (by omega) (by omega) (by omega) (by omega) (by omega)) (by simp)
      · refine am_raload_n rfl rfl rfl ?_
        refine am_rgetf (S1 := [.ref 156]) rfl rfl ?_
        refine am_riload rfl rfl rfl ?_
        refine am_raload_n rfl rfl rfl ?_
        refine am_rgetf (S1 := [.ref 155, am_iv x5, .ref 156]) rfl rfl ?_
        refine am_raload_n rfl rfl rfl ?_
        refine am_rgetf (S1 := [.ref 149, .ref 155, am_iv x5, .ref 156]) rfl rfl ?_
        refine am_riload_n rfl rfl rfl ?_
        have q27 : (a 149).length = 64 := am_Rl149 (am_RL 149 rfl hI.1.1)
        have i28 : am_ib (a 149) x3 := by unfold am_ib; omega
        have q29 := am_Rb149 (am_RL 149 rfl hI.1.1) i28
        refine am_riaload (l := a 149) rfl am_ge149 i28 ?_
        refine am_riload rfl rfl rfl ?_
        refine am_riadd rfl ?_
        have q30 : (a 155).length = 3200 := am_Rl155 (am_RL 155 rfl hI.1.1)
        have i31 : am_ib (a 155) ((am_at (a 149) x3) + x5) := by unfold am_ib; omega
        have q32 := am_Rb155 (am_RL 155 rfl hI.1.1) i31
        refine am_riaload (l := a 155) rfl am_ge155 i31 ?_
        have q33 : (a 156).length = 2600 := am_Rl156 (am_RL 156 rfl hI.1.1)
        have i34 : am_ib (a 156) x5 := by unfold am_ib; omega
        have hl35 : am_LR 156 ((a 156).set x5.toNat (am_at (a 155) ((am_at (a 149) x3) + x5))) := am_RS156 (am_RL 156 rfl hI.1.1) (by omega) (by omega)
        refine am_riastore (l := a 156) (h1 := am_enc f (am_ud a 156 ((a 156).set x5.toNat (am_at (a 155) ((am_at (a 149) x3) + x5)))) w e) rfl am_ge156 i34 (am_sa156 _) ?_
        refine am_riinc (L1 := [(0, .ref 117), (1, am_iv x1), (2, am_iv x2), (3, am_iv x3), (5, am_iv (x5 + 1))]) rfl rfl rfl rfl rfl ?_
        refine am_rgoto rfl rfl ?_
        have q36 := am_Rg11701 hI.1.1
        have J37 := am_Ra156 hI hl35
        have m38 : am_mn fz az f (am_ud a 156 ((a 156).set x5.toNat (am_at (a 155) ((am_at (a 149) x3) + x5)))) := am_mn_a rfl rfl hp0
        exact ih.2 (show (4000 * (64 - x3) + 2600 - (x5 + 1)).toNat < n by omega) J37 m38 (show (-2147483648 ≤ x1 ∧ x1 ≤ 2147483647) by omega) (show (-2147483648 ≤ x2 ∧ x2 ≤ 2147483647) by omega) (show (-2147483648 ≤ x3 ∧ x3 ≤ 2147483647) by omega) (show (-2147483648 ≤ (x5 + 1) ∧ (x5 + 1) ≤ 2147483647) by omega) (show 0 ≤ x3 by omega) (show x3 < 64 by omega) (show 0 ≤ (x5 + 1) by omega) (show (x5 + 1) ≤ 2600 by omega) (show am_at (a 149) x3 + (f 11755) ≤ 3200 by omega) (show (f 11713) = z11713 by omega) (show (f 11718) = z11718 by omega) (show (f 11709) = z11709 by omega) (show (f 11741) = z11741 by omega) (show (f 11750) = z11750 by omega) (show (f 11753) = z11753 by omega)
set_option maxRecDepth 100000 in
set_option maxHeartbeats 4000000 in
theorem am_ct166_2 {X : List Value} {w : Value} {e : Nat} {g : aF} {h : aA} {E : Nat → aF → aA → Prop} {d : Nat} {z11713 : Int} {z11718 : Int} {z11709 : Int} {z11741 : Int} {z11750 : Int} {z11753 : Int} {fz : aF} {az : aA} (hd : 4 ≤ d + 1) (n : Nat) : ∀ {f : aF} {a : aA} {x1 : Int} {x2 : Int} {x3 : Int}, (4000 * (64 - x3) + 3000).toNat < n → am_RV g h f a → am_mn fz az f a → (-2147483648 ≤ x1 ∧ x1 ≤ 2147483647) → (-2147483648 ≤ x2 ∧ x2 ≤ 2147483647) → (-2147483648 ≤ x3 ∧ x3 ≤ 2147483647) → 0 ≤ x3 → x3 ≤ 64 → f 11713 = z11713 → f 11718 = z11718 → f 11709 = z11709 → f 11741 = z11741 → f 11750 = z11750 → f 11753 = z11753 → am_TE X (d + 1) am_m165 2 [(0, .ref 117), (1, am_iv x1), (2, am_iv x2), (3, am_iv x3)] [] f a w e (am_QV (fun f1 a1 => am_RV g h f1 a1 ∧ am_mn fz az f1 a1 ∧ f1 11713 = z11713 ∧ f1 11718 = z11718 ∧ f1 11709 = z11709 ∧ f1 11741 = z11741 ∧ f1 11750 = z11750 ∧ f1 11753 = z11753)) E := (am_ct166_L2 hd n).1
set_option maxRecDepth 100000 in
set_option maxHeartbeats 4000000 in
theorem am_ct166_100 {X : List Value} {w : Value} {e : Nat} {g : aF} {h : aA} {E : Nat → aF → aA → Prop} {d : Nat} {z11713 : Int} {z11718 : Int} {z11709 : Int} {z11741 : Int} {z11750 : Int} {z11753 : Int} {fz : aF} {az : aA} (hd : 4 ≤ d + 1) (n : Nat) : ∀ {f : aF} {a : aA} {x1 : Int} {x2 : Int} {x3 : Int} {x5 : Int}, (4000 * (64 - x3) + 2600 - x5).toNat < n → am_RV g h f a → am_mn fz az f a → (-2147483648 ≤ x1 ∧ x1 ≤ 2147483647) → (-2147483648 ≤ x2 ∧ x2 ≤ 2147483647) → (-2147483648 ≤ x3 ∧ x3 ≤ 2147483647) → (-2147483648 ≤ x5 ∧ x5 ≤ 2147483647) → 0 ≤ x3 → x3 < 64 → 0 ≤ x5 → x5 ≤ 2600 → am_at (a 149) x3 + f 11755 ≤ 3200 → f 11713 = z11713 → f 11718 = z11718 → f 11709 = z11709 → f 11741 = z11741 → f 11750 = z11750 → f 11753 = z11753 → am_TE X (d + 1) am_m165 100 [(0, .ref 117), (1, am_iv x1), (2, am_iv x2), (3, am_iv x3), (5, am_iv x5)] [] f a w e (am_QV (fun f1 a1 => am_RV g h f1 a1 ∧ am_mn fz az f1 a1 ∧ f1 11713 = z11713 ∧ f1 11718 = z11718 ∧ f1 11709 = z11709 ∧ f1 11741 = z11741 ∧ f1 11750 = z11750 ∧ f1 11753 = z11753)) E := (am_ct166_L2 hd n).2
set_option maxRecDepth 100000 in
set_option maxHeartbeats 4000000 in
theorem am_ct166 {X : List Value} {w : Value} {e : Nat} {g : aF} {h : aA} {E : Nat → aF → aA → Prop} {d : Nat} {y1 : Int} {y2 : Int} {f : aF} {a : aA} (hd : 4 ≤ d) (hI : am_RV g h f a) (hp0 : (-2147483648 ≤ y1 ∧ y1 ≤ 2147483647)) (hp1 : (-2147483648 ≤ y2 ∧ y2 ≤ 2147483647)) :
    am_TE X d am_m165 0 (lv_args 0 [.ref 117, am_iv y1, am_iv y2]) [] f a w e (am_QV (fun f1 a1 => am_RV g h f1 a1 ∧ am_mn f a f1 a1 ∧ f1 11713 = (f 11713) ∧ f1 11718 = (f 11718) ∧ f1 11709 = (f 11709) ∧ f1 11741 = (f 11741) ∧ f1 11750 = (f 11750) ∧ f1 11753 = (f 11753))) E := by
  obtain ⟨d, rfl⟩ : ∃ d0, d = d0 + 1 := ⟨d - 1, by omega⟩
  have q1 := am_RV_ph hI
  have q2 := am_RV_p0 hI
  refine am_riconst rfl ?_
  refine am_ristore_n (L1 := [(0, .ref 117), (1, am_iv y1), (2, am_iv y2), (3, am_iv 0)]) rfl rfl rfl rfl rfl ?_
  have q3 := am_Rg11701 hI.1.1
  have q4 := am_Rg11713 hI.1.1
  have q5 := am_Rg11718 hI.1.1
  have q6 := am_Rg11709 hI.1.1
  have q7 := am_Rg11741 hI.1.1
  have q8 := am_Rg11750 hI.1.1
  have q9 := am_Rg11753 hI.1.1
  exact am_ct166_2 hd (_ + 1) (Nat.lt_succ_self _) hI (am_mn.refl f a) (by omega) (by omega) (by omega) (by omega) (by omega) (by omega) (by omega) (by omega) (by omega) (by omega) (by omega)
set_option maxRecDepth 100000 in
set_option maxHeartbeats 4000000 in
theorem am_ct165 {X : List Value} {w : Value} {e : Nat} {g : aF} {h : aA} {E : Nat → aF → aA → Prop} {d : Nat} {y1 : Int} {y2 : Int} {f : aF} {a : aA} (hd : 6 ≤ d) (hI : am_RV g h f a) (hp0 : (-2147483648 ≤ y1 ∧ y1 ≤ 2147483647)) (hp1 : (-2147483648 ≤ y2 ∧ y2 ≤ 2147483647)) (hp2 : 0 ≤ y1) (hp3 : y1 ≤ 25) :
    am_TE X d am_m164 0 (lv_args 0 [.ref 117, am_iv y1, am_iv y2]) [] f a w e (am_QI (fun b f1 a1 => am_RV g h f1 a1 ∧ am_mn f a f1 a1 ∧ (-2147483648 ≤ b ∧ b ≤ 2147483647) ∧ f1 11718 = (f 11718) ∧ f1 11709 = (f 11709) ∧ f1 11741 = (f 11741) ∧ f1 11750 = (f 11750) ∧ f1 11753 = (f 11753) ∧ (am_ph f a) + 1 ≤ am_ph f1 a1 + 1 * (f1 11701) ∧ (am_at (a 124) 0) + 1 ≤ am_at (a1 124) 0 + 1 * (f1 11701) + 1 * (f 11713) ∧ (f 11713) ≤ f1 11713 ∧ f1 11713 ≤ (f 11713) + 16 * f1 11701)) E := by
  obtain ⟨d, rfl⟩ : ∃ d0, d = d0 + 1 := ⟨d - 1, by omega⟩
  have q1 := am_RV_ph hI
  have q2 := am_RV_p0 hI
  refine am_raload_n rfl rfl rfl ?_
  refine am_evirtualI (m := am_m127) (As := [.ref 117]) (S1 := []) rfl rfl rfl rfl rfl rfl rfl rfl rfl rfl (am_TE.int (am_ct128  (by omega) hI) (fun b3 f3 a3 hq4 => ?_) (fun _ _ _ h => h))
  obtain ⟨hI5, hk6, hq4⟩ := hq4
  replace hq4 : (-2147483648 ≤ b3 ∧ b3 ≤ 2147483647) ∧ f3 11713 = ((f 11713)) ∧ (am_ph f a ) + 1 ≤ am_ph f3 a3 + 1 * (f3 11701) ∧ (am_at (a 124) 0) + 1 ≤ am_at (a3 124) 0 + 1 * (f3 11701) + 1 * ((f 11713)) ∧ (0 ≤ b3 ∧ b3 ≤ 25) := hq4
  have mm7 : f 11701 ≤ f3 11701 ∧ am_ph f a ≤ am_ph f3 a3 ∧ am_at (a 124) 0 ≤ am_at (a3 124) 0 ∧ am_at (a3 125) 0 = am_at (a 125) 0 := hk6.1
  have hm8 := am_mn.trans (am_mn.refl f a) hk6.1
  have t9 : f3 11718 = f 11718 := hk6.2.1 11718 rfl
  have t10 : f3 11709 = f 11709 := hk6.2.1 11709 rfl
  have t11 : f3 11741 = f 11741 := hk6.2.1 11741 rfl
  have t12 : f3 11750 = f 11750 := hk6.2.1 11750 rfl
  have t13 : f3 11753 = f 11753 := hk6.2.1 11753 rfl
  have t14 : f3 11755 = f 11755 := hk6.2.1 11755 rfl
  refine am_ristore_n (L1 := [(0, .ref 117), (1, am_iv y1), (2, am_iv y2), (3, am_iv b3)]) rfl rfl rfl rfl rfl ?_
  refine am_riload_n rfl rfl rfl ?_
  refine am_riload_n rfl rfl rfl ?_
  have q15 := am_shr_rg y2 b3
  refine am_rishr rfl ?_
  refine am_riconst rfl ?_
  have q16 := am_and_rg (am_shr y2 b3) 1
  refine am_riand rfl ?_
  refine am_riconst rfl ?_
  refine am_ric_ne rfl rfl (by unfold am_rg; omega) (by unfold am_rg; omega) (fun hc17 => ?_) (fun hc17 => ?_)
  · refine am_raload_n rfl rfl rfl ?_
    refine am_evirtualI (m := am_m125) (As := [.ref 117]) (S1 := []) rfl rfl rfl rfl rfl rfl rfl rfl rfl rfl (am_TE.int (am_ct126  (by omega) hI5) (fun b18 f18 a18 hq19 => ?_) (fun _ _ _ h => h))
    obtain ⟨hI20, hk21, hq19⟩ := hq19
    replace hq19 : (b18 = 0 ∨ b18 = 1) ∧ f18 11701 = ((f3 11701)) ∧ f18 11713 = ((f3 11713)) ∧ f18 11701 ≤ 3 - 3 * b18 ∧ (am_ph f3 a3 ) + b18 ≤ am_ph f18 a18 ∧ (am_at (a3 124) 0) + b18 ≤ am_at (a18 124) 0 + ((f3 11713)) := hq19
    have mm22 : f3 11701 ≤ f18 11701 ∧ am_ph f3 a3 ≤ am_ph f18 a18 ∧ am_at (a3 124) 0 ≤ am_at (a18 124) 0 ∧ am_at (a18 125) 0 = am_at (a3 125) 0 := hk21.1
    have hm23 := am_mn.trans hm8 hk21.1
    have t24 : f18 11718 = f3 11718 := hk21.2.1 11718 rfl
    have t25 : f18 11709 = f3 11709 := hk21.2.1 11709 rfl
    have t26 : f18 11741 = f3 11741 := hk21.2.1 11741 rfl
    have t27 : f18 11750 = f3 11750 := hk21.2.1 11750 rfl
    have t28 : f18 11753 = f3 11753 := hk21.2.1 11753 rfl
    have t29 : f18 11755 = f3 11755 := hk21.2.1 11755 rfl
    refine am_rpop rfl rfl ?_
    refine am_raload_n rfl rfl rfl ?_
    refine am_rbipush rfl (by decide) ?_
    refine am_evirtualV (m := am_m123) (As := [.ref 117, am_iv 61]) (S1 := []) rfl rfl rfl rfl rfl rfl rfl rfl rfl rfl (am_TE.void (am_ct124 (y1 := 61) (by omega) hI20 (by omega) (show 0 ≤ 61 by omega)) (fun f30 a30 hq31 => ?_) (fun _ _ _ h => h))
    obtain ⟨hI32, hk33, hq31⟩ := hq31
    replace hq31 : f30 11713 = ((f18 11713)) ∧ (am_ph f18 a18 ) + 1 ≤ am_ph f30 a30 + 1 * (f30 11701) ∧ (am_at (a18 124) 0) + 1 ≤ am_at (a30 124) 0 + 1 * (f30 11701) + 1 * ((f18 11713)) := hq31
    have mm34 : f18 11701 ≤ f30 11701 ∧ am_ph f18 a18 ≤ am_ph f30 a30 ∧ am_at (a18 124) 0 ≤ am_at (a30 124) 0 ∧ am_at (a30 125) 0 = am_at (a18 125) 0 := hk33.1
    have hm35 := am_mn.trans hm23 hk33.1
    have t36 : f30 11718 = f18 11718 := hk33.2.1 11718 rfl
    have t37 : f30 11709 = f18 11709 := hk33.2.1 11709 rfl
    have t38 : f30 11741 = f18 11741 := hk33.2.1 11741 rfl
    have t39 : f30 11750 = f18 11750 := hk33.2.1 11750 rfl
    have t40 : f30 11753 = f18 11753 := hk33.2.1 11753 rfl
    have t41 : f30 11755 = f18 11755 := hk33.2.1 11755 rfl
    refine am_raload_n rfl rfl rfl ?_
    refine am_evirtualI (m := am_m125) (As := [.ref 117]) (S1 := []) rfl rfl rfl rfl rfl rfl rfl rfl rfl rfl (am_TE.int (am_ct126  (by omega) hI32) (fun b42 f42 a42 hq43 => ?_) (fun _ _ _ h => h))
    obtain ⟨hI44, hk45, hq43⟩ := hq43
    replace hq43 : (b42 = 0 ∨ b42 = 1) ∧ f42 11701 = ((f30 11701)) ∧ f42 11713 = ((f30 11713)) ∧ f42 11701 ≤ 3 - 3 * b42 ∧ (am_ph f30 a30 ) + b42 ≤ am_ph f42 a42 ∧ (am_at (a30 124) 0) + b42 ≤ am_at (a42 124) 0 + ((f30 11713)) := hq43
    have mm46 : f30 11701 ≤ f42 11701 ∧ am_ph f30 a30 ≤ am_ph f42 a42 ∧ am_at (a30 124) 0 ≤ am_at (a42 124) 0 ∧ am_at (a42 125) 0 = am_at (a30 125) 0 := hk45.1
    have hm47 := am_mn.trans hm35 hk45.1
    have t48 : f42 11718 = f30 11718 := hk45.2.1 11718 rfl
    have t49 : f42 11709 = f30 11709 := hk45.2.1 11709 rfl
    have t50 : f42 11741 = f30 11741 := hk45.2.1 11741 rfl
    have t51 : f42 11750 = f30 11750 := hk45.2.1 11750 rfl
    have t52 : f42 11753 = f30 11753 := hk45.2.1 11753 rfl
    have t53 : f42 11755 = f30 11755 := hk45.2.1 11755 rfl
    refine am_rpop rfl rfl ?_
    refine am_raload_n rfl rfl rfl ?_
    refine am_evirtualV (m := am_m134) (As := [.ref 117]) (S1 := []) rfl rfl rfl rfl rfl rfl rfl rfl rfl rfl (am_TE.void (am_ct135  (by omega) hI44) (fun f54 a54 hq55 => ?_) (fun _ _ _ h => h))
    obtain ⟨hI56, hk57, hq55⟩ := hq55
    replace hq55 : f54 11709 = ((f42 11709)) ∧ f54 11718 = ((f42 11718)) ∧ f54 11741 = ((f42 11741)) ∧ f54 11750 = ((f42 11750)) ∧ f54 11753 = ((f42 11753)) ∧ f54 11757 = ((f42 11757)) ∧ f54 11763 = ((f42 11763)) ∧ ((f42 11713)) ≤ f54 11713 ∧ f54 11713 ≤ ((f42 11713)) + 16 * f54 11701 ∧ 0 ≤ f54 11755 ∧ f54 11755 ≤ am_ph f54 a54 - (am_ph f42 a42 ) ∧ (am_ph f42 a42 ) + 1 ≤ am_ph f54 a54 + f54 11701 ∧ (am_at (a42 124) 0) + 2 ≤ am_at (a54 124) 0 + 2 * f54 11701 + 2 * ((f42 11713)) := hq55
    have mm58 : f42 11701 ≤ f54 11701 ∧ am_ph f42 a42 ≤ am_ph f54 a54 ∧ am_at (a42 124) 0 ≤ am_at (a54 124) 0 ∧ am_at (a54 125) 0 = am_at (a42 125) 0 := hk57
    have hm59 := am_mn.trans hm47 hk57
    refine am_raload_n rfl rfl rfl ?_
    refine am_riload_n rfl rfl rfl ?_
    refine am_riload_n rfl rfl rfl ?_
    refine am_evirtualI (m := am_m144) (As := [.ref 117, am_iv y1, am_iv b3]) (S1 := []) rfl rfl rfl rfl rfl rfl rfl rfl rfl rfl (am_TE.int (am_ct145 (y1 := y1) (y2 := b3) (by omega) hI56 (by omega) (by omega)) (fun b60 f60 a60 hq61 => ?_) (fun _ _ _ h => h))
    obtain ⟨rfl, rfl, hq61⟩ := hq61
    have r41 := am_Rg11741 hI56.1.1
    refine am_ristore (L1 := [(0, .ref 117), (1, am_iv y1), (2, am_iv y2), (3, am_iv b3), (4, am_iv b60)]) rfl rfl rfl rfl rfl ?_
    refine am_riload rfl rfl rfl ?_
    refine am_rif_lt rfl rfl (by unfold am_rg; omega) (fun hc62 => ?_) (fun hc62 => ?_)
    · refine am_raload_n rfl rfl rfl ?_
      have q63 := am_Rg11701 hI56.1.1
      refine am_rgetf (S1 := [am_iv (f54 11701)]) rfl rfl ?_
      refine am_rif_ne rfl rfl (by unfold am_rg; omega) (fun hc64 => ?_) (fun hc64 => ?_)
      · refine am_riload_n rfl rfl rfl ?_
        refine am_riconst rfl ?_
        refine am_riload_n rfl rfl rfl ?_
        have q65 := am_shl_rg 1 b3
        refine am_rishl rfl ?_
        have q66 := am_or_rg y2 (am_shl 1 b3)
        refine am_rior rfl ?_
        have q67 := am_Rg11718 hI56.1.1
        have q68 := am_Rg11709 hI56.1.1
        have q69 := am_Rg11741 hI56.1.1
        have q70 := am_Rg11750 hI56.1.1
        have q71 := am_Rg11753 hI56.1.1
        have q72 := am_Rg11713 hI56.1.1
        exact am_eiret rfl rfl ⟨hI56, hm59, (show (-2147483648 ≤ am_or y2 (am_shl 1 b3) ∧ am_or y2 (am_shl 1 b3) ≤ 2147483647) by omega), (show f54 11718 = (f 11718) by omega), (show f54 11709 = (f 11709) by omega), (show f54 11741 = (f 11741) by omega), (show f54 11750 = (f 11750) by omega), (show f54 11753 = (f 11753) by omega), (show (am_ph f a) + 1 ≤ am_ph f54 a54 + 1 * (f54 11701) by omega), (show (am_at (a 124) 0) + 1 ≤ am_at (a54 124) 0 + 1 * (f54 11701) + 1 * (f 11713) by omega), (show (f 11713) ≤ f54 11713 by omega), (show f54 11713 ≤ (f 11713) + 16 * f54 11701 by omega)⟩
      · refine am_raload_n rfl rfl rfl ?_
        refine am_riload rfl rfl rfl ?_
        refine am_riload_n rfl rfl rfl ?_
        refine am_evirtualV (m := am_m161) (As := [.ref 117, am_iv b60, am_iv b3]) (S1 := []) rfl rfl rfl rfl rfl rfl rfl rfl rfl rfl (am_TE.void (am_ct162 (y1 := b60) (y2 := b3) (by omega) hI56 (by omega) (by omega) (show b60 < 64 by omega) (show 0 ≤ b3 by omega) (show b3 ≤ 25 by omega)) (fun f73 a73 hq74 => ?_) (fun _ _ _ h => h))
        obtain ⟨hI75, hk76, hq74⟩ := hq74
        replace hq74 : f73 11713 = ((f54 11713)) ∧ f73 11718 = ((f54 11718)) ∧ f73 11709 = ((f54 11709)) ∧ f73 11741 = ((f54 11741)) ∧ f73 11750 = ((f54 11750)) ∧ f73 11753 = ((f54 11753)) ∧ f73 11755 = ((f54 11755)) := hq74
        have mm77 : f54 11701 ≤ f73 11701 ∧ am_ph f54 a54 ≤ am_ph f73 a73 ∧ am_at (a54 124) 0 ≤ am_at (a73 124) 0 ∧ am_at (a73 125) 0 = am_at (a54 125) 0 := hk76
        have hm78 := am_mn.trans hm59 hk76
        refine am_riload_n rfl rfl rfl ?_
        refine am_riconst rfl ?_
        refine am_riload_n rfl rfl rfl ?_
        have q79 := am_shl_rg 1 b3
        refine am_rishl rfl ?_
        have q80 := am_or_rg y2 (am_shl 1 b3)
        refine am_rior rfl ?_
        have q81 := am_Rg11701 hI75.1.1
        have q82 := am_Rg11718 hI75.1.1
        have q83 := am_Rg11709 hI75.1.1
        have q84 := am_Rg11741 hI75.1.1
        have q85 := am_Rg11750 hI75.1.1
        have q86 := am_Rg11753 hI75.1.1
        have q87 := am_Rg11713 hI75.1.1
        exact am_eiret rfl rfl ⟨hI75, hm78, (show (-2147483648 ≤ am_or y2 (am_shl 1 b3) ∧ am_or y2 (am_shl 1 b3) ≤ 2147483647) by omega), (show f73 11718 = (f 11718) by omega), (show f73 11709 = (f 11709) by omega), (show f73 11741 = (f 11741) by omega), (show f73 11750 = (f 11750) by omega), (show f73 11753 = (f 11753) by omega), (show (am_ph f a) + 1 ≤ am_ph f73 a73 + 1 * (f73 11701) by omega), (show (am_at (a 124) 0) + 1 ≤ am_at (a73 124) 0 + 1 * (f73 11701) + 1 * (f 11713) by omega), (show (f 11713) ≤ f73 11713 by omega), (show f73 11713 ≤ (f 11713) + 16 * f73 11701 by omega)⟩
    · refine am_raload_n rfl rfl rfl ?_
      refine am_rgetf (S1 := [.ref 147]) rfl rfl ?_
      refine am_riload rfl rfl rfl ?_
      have q88 : (a54 147).length = 64 := am_Rl147 (am_RL 147 rfl hI56.1.1)
      have i89 : am_ib (a54 147) b60 := by unfold am_ib; omega
      have q90 := am_Rb147 (am_RL 147 rfl hI56.1.1) i89
      refine am_riaload (l := a54 147) rfl am_ge147 i89 ?_
      refine am_rif_eq rfl rfl (by unfold am_rg; omega) (fun hc91 => ?_) (fun hc91 => ?_)
      · refine am_raload_n rfl rfl rfl ?_
        have q92 := am_Rg11701 hI56.1.1
        refine am_rgetf (S1 := [am_iv (f54 11701)]) rfl rfl ?_
        refine am_rif_ne rfl rfl (by unfold am_rg; omega) (fun hc93 => ?_) (fun hc93 => ?_)
        · refine am_riload_n rfl rfl rfl ?_
          refine am_riconst rfl ?_
          refine am_riload_n rfl rfl rfl ?_
          have q94 := am_shl_rg 1 b3
          refine am_rishl rfl ?_
          have q95 := am_or_rg y2 (am_shl 1 b3)
          refine am_rior rfl ?_
          have q96 := am_Rg11718 hI56.1.1
          have q97 := am_Rg11709 hI56.1.1
          have q98 := am_Rg11741 hI56.1.1
          have q99 := am_Rg11750 hI56.1.1
          have q100 := am_Rg11753 hI56.1.1
          have q101 := am_Rg11713 hI56.1.1
          exact am_eiret rfl rfl ⟨hI56, hm59, (show (-2147483648 ≤ am_or y2 (am_shl 1 b3) ∧ am_or y2 (am_shl 1 b3) ≤ 2147483647) by omega), (show f54 11718 = (f 11718) by omega), (show f54 11709 = (f 11709) by omega), (show f54 11741 = (f 11741) by omega), (show f54 11750 = (f 11750) by omega), (show f54 11753 = (f 11753) by omega), (show (am_ph f a) + 1 ≤ am_ph f54 a54 + 1 * (f54 11701) by omega), (show (am_at (a 124) 0) + 1 ≤ am_at (a54 124) 0 + 1 * (f54 11701) + 1 * (f 11713) by omega), (show (f 11713) ≤ f54 11713 by omega), (show f54 11713 ≤ (f 11713) + 16 * f54 11701 by omega)⟩
        · refine am_raload_n rfl rfl rfl ?_
          refine am_riload rfl rfl rfl ?_
          refine am_riload_n rfl rfl rfl ?_
          refine am_evirtualV (m := am_m161) (As := [.ref 117, am_iv b60, am_iv b3]) (S1 := []) rfl rfl rfl rfl rfl rfl rfl rfl rfl rfl (am_TE.void (am_ct162 (y1 := b60) (y2 := b3) (by omega) hI56 (by omega) (by omega) (show b60 < 64 by omega) (show 0 ≤ b3 by omega) (show b3 ≤ 25 by omega)) (fun f102 a102 hq103 => ?_) (fun _ _ _ h => h))
          obtain ⟨hI104, hk105, hq103⟩ := hq103
          replace hq103 : f102 11713 = ((f54 11713)) ∧ f102 11718 = ((f54 11718)) ∧ f102 11709 = ((f54 11709)) ∧ f102 11741 = ((f54 11741)) ∧ f102 11750 = ((f54 11750)) ∧ f102 11753 = ((f54 11753)) ∧ f102 11755 = ((f54 11755)) := hq103
          have mm106 : f54 11701 ≤ f102 11701 ∧ am_ph f54 a54 ≤ am_ph f102 a102 ∧ am_at (a54 124) 0 ≤ am_at (a102 124) 0 ∧ am_at (a102 125) 0 = am_at (a54 125) 0 := hk105
          have hm107 := am_mn.trans hm59 hk105
          refine am_riload_n rfl rfl rfl ?_
          refine am_riconst rfl ?_
          refine am_riload_n rfl rfl rfl ?_
          have q108 := am_shl_rg 1 b3
          refine am_rishl rfl ?_
          have q109 := am_or_rg y2 (am_shl 1 b3)
          refine am_rior rfl ?_
          have q110 := am_Rg11701 hI104.1.1
          have q111 := am_Rg11718 hI104.1.1
          have q112 := am_Rg11709 hI104.1.1
          have q113 := am_Rg11741 hI104.1.1
          have q114 := am_Rg11750 hI104.1.1
          have q115 := am_Rg11753 hI104.1.1
          have q116 := am_Rg11713 hI104.1.1
          exact am_eiret rfl rfl ⟨hI104, hm107, (show (-2147483648 ≤ am_or y2 (am_shl 1 b3) ∧ am_or y2 (am_shl 1 b3) ≤ 2147483647) by omega), (show f102 11718 = (f 11718) by omega), (show f102 11709 = (f 11709) by omega), (show f102 11741 = (f 11741) by omega), (show f102 11750 = (f 11750) by omega), (show f102 11753 = (f 11753) by omega), (show (am_ph f a) + 1 ≤ am_ph f102 a102 + 1 * (f102 11701) by omega), (show (am_at (a 124) 0) + 1 ≤ am_at (a102 124) 0 + 1 * (f102 11701) + 1 * (f 11713) by omega), (show (f 11713) ≤ f102 11713 by omega), (show f102 11713 ≤ (f 11713) + 16 * f102 11701 by omega)⟩
      · refine am_raload_n rfl rfl rfl ?_
        refine am_evirtualV (m := am_m135) (As := [.ref 117]) (S1 := []) rfl rfl rfl rfl rfl rfl rfl rfl rfl rfl (am_TE.void (am_ct136  (by omega) hI56) (fun f117 a117 hq118 => ?_) (fun _ _ _ h => h))
        obtain ⟨hI119, hk120, hq118⟩ := hq118
        replace hq118 : f117 11701 = ((f54 11701)) ∧ f117 11713 = ((f54 11713)) ∧ f117 11709 = ((f54 11709)) ∧ f117 11718 = ((f54 11718)) ∧ f117 11741 = ((f54 11741)) ∧ f117 11750 = ((f54 11750)) ∧ f117 11753 = ((f54 11753)) ∧ f117 11757 = ((f54 11757)) ∧ f117 11763 = ((f54 11763)) ∧ f117 11755 ≤ ((f54 11755)) ∧ am_ph f117 a117 = (am_ph f54 a54 ) ∧ am_at (a117 124) 0 = (am_at (a54 124) 0) := hq118
        have mm121 : f54 11701 ≤ f117 11701 ∧ am_ph f54 a54 ≤ am_ph f117 a117 ∧ am_at (a54 124) 0 ≤ am_at (a117 124) 0 ∧ am_at (a117 125) 0 = am_at (a54 125) 0 := hk120
        have hm122 := am_mn.trans hm59 hk120
        refine am_raload_n rfl rfl rfl ?_
        have q123 := am_Rg11701 hI119.1.1
        refine am_rgetf (S1 := [am_iv (f117 11701)]) rfl rfl ?_
        refine am_rif_ne rfl rfl (by unfold am_rg; omega) (fun hc124 => ?_) (fun hc124 => ?_)
        · refine am_riload_n rfl rfl rfl ?_
          refine am_riconst rfl ?_
          refine am_riload_n rfl rfl rfl ?_
          have q125 := am_shl_rg 1 b3
          refine am_rishl rfl ?_
          have q126 := am_or_rg y2 (am_shl 1 b3)
          refine am_rior rfl ?_
          have q127 := am_Rg11718 hI119.1.1
          have q128 := am_Rg11709 hI119.1.1
          have q129 := am_Rg11741 hI119.1.1
          have q130 := am_Rg11750 hI119.1.1
          have q131 := am_Rg11753 hI119.1.1
          have q132 := am_Rg11713 hI119.1.1
          exact am_eiret rfl rfl ⟨hI119, hm122, (show (-2147483648 ≤ am_or y2 (am_shl 1 b3) ∧ am_or y2 (am_shl 1 b3) ≤ 2147483647) by omega), (show f117 11718 = (f 11718) by omega), (show f117 11709 = (f 11709) by omega), (show f117 11741 = (f 11741) by omega), (show f117 11750 = (f 11750) by omega), (show f117 11753 = (f 11753) by omega), (show (am_ph f a) + 1 ≤ am_ph f117 a117 + 1 * (f117 11701) by omega), (show (am_at (a 124) 0) + 1 ≤ am_at (a117 124) 0 + 1 * (f117 11701) + 1 * (f 11713) by omega), (show (f 11713) ≤ f117 11713 by omega), (show f117 11713 ≤ (f 11713) + 16 * f117 11701 by omega)⟩
        · refine am_raload_n rfl rfl rfl ?_
          refine am_riload rfl rfl rfl ?_
          refine am_riload_n rfl rfl rfl ?_
          refine am_evirtualV (m := am_m161) (As := [.ref 117, am_iv b60, am_iv b3]) (S1 := []) rfl rfl rfl rfl rfl rfl rfl rfl rfl rfl (am_TE.void (am_ct162 (y1 := b60) (y2 := b3) (by omega) hI119 (by omega) (by omega) (show b60 < 64 by omega) (show 0 ≤ b3 by omega) (show b3 ≤ 25 by omega)) (fun f133 a133 hq134 => ?_) (fun _ _ _ h => h))
          obtain ⟨hI135, hk136, hq134⟩ := hq134
          replace hq134 : f133 11713 = ((f117 11713)) ∧ f133 11718 = ((f117 11718)) ∧ f133 11709 = ((f117 11709)) ∧ f133 11741 = ((f117 11741)) ∧ f133 11750 = ((f117 11750)) ∧ f133 11753 = ((f117 11753)) ∧ f133 11755 = ((f117 11755)) := hq134
          have mm137 : f117 11701 ≤ f133 11701 ∧ am_ph f117 a117 ≤ am_ph f133 a133 ∧ am_at (a117 124) 0 ≤ am_at (a133 124) 0 ∧ am_at (a133 125) 0 = am_at (a117 125) 0 := hk136
          have hm138 := am_mn.trans hm122 hk136
          refine am_riload_n rfl rfl rfl ?_
          refine am_riconst rfl ?_
          refine am_riload_n rfl rfl rfl ?_
          have q139 := am_shl_rg 1 b3
          refine am_rishl rfl ?_
          have q140 := am_or_rg y2 (am_shl 1 b3)
          refine am_rior rfl ?_
          have q141 := am_Rg11701 hI135.1.1
          have q142 := am_Rg11718 hI135.1.1
          have q143 := am_Rg11709 hI135.1.1
          have q144 := am_Rg11741 hI135.1.1
          have q145 := am_Rg11750 hI135.1.1
          have q146 := am_Rg11753 hI135.1.1
          have q147 := am_Rg11713 hI135.1.1
          exact am_eiret rfl rfl ⟨hI135, hm138, (show (-2147483648 ≤ am_or y2 (am_shl 1 b3) ∧ am_or y2 (am_shl 1 b3) ≤ 2147483647) by omega), (show f133 11718 = (f 11718) by omega), (show f133 11709 = (f 11709) by omega), (show f133 11741 = (f 11741) by omega), (show f133 11750 = (f 11750) by omega), (show f133 11753 = (f 11753) by omega), (show (am_ph f a) + 1 ≤ am_ph f133 a133 + 1 * (f133 11701) by omega), (show (am_at (a 124) 0) + 1 ≤ am_at (a133 124) 0 + 1 * (f133 11701) + 1 * (f 11713) by omega), (show (f 11713) ≤ f133 11713 by omega), (show f133 11713 ≤ (f 11713) + 16 * f133 11701 by omega)⟩
  · refine am_raload_n rfl rfl rfl ?_
    refine am_riconst rfl ?_
    have q148 := am_Rg11701 hI5.1.1
    refine am_evirtualV (m := am_m116) (As := [.ref 117, am_iv 1]) (S1 := []) rfl rfl rfl rfl rfl rfl rfl rfl rfl rfl (am_TE.void (am_ct117 (y1 := 1) (by omega) (by omega) (show 1 ≤ 1 by omega) (show 1 ≤ 3 by omega) (show 0 ≤ (f3 11701) by omega) (show (f3 11701) ≤ 3 by omega)) (fun f149 a149 hq150 => ?_) (fun _ _ _ h => h))
    obtain ⟨v151, rfl, rfl, hq150⟩ := hq150
    replace hq150 : 0 < v151 ∧ v151 ≤ 3 ∧ f3 11701 ≤ v151 := hq150
    refine am_raload_n rfl rfl rfl ?_
    have J152 := am_Rf11701 (v := v151) hI5 (by omega) (by omega)
    refine am_evirtualI (m := am_m125) (As := [.ref 117]) (S1 := []) rfl rfl rfl rfl rfl rfl rfl rfl rfl rfl (am_TE.int (am_ct126  (by omega) J152) (fun b153 f153 a153 hq154 => ?_) (fun _ _ _ h => h))
    have m157 : am_mn f a (am_ud f3 11701 v151) a3 := am_mn.halt hm8 (by omega)
    obtain ⟨hI155, hk156, hq154⟩ := hq154
    replace hq154 : (b153 = 0 ∨ b153 = 1) ∧ f153 11701 = ((v151)) ∧ f153 11713 = ((f3 11713)) ∧ f153 11701 ≤ 3 - 3 * b153 ∧ (am_ph f3 a3 ) + b153 ≤ am_ph f153 a153 ∧ (am_at (a3 124) 0) + b153 ≤ am_at (a153 124) 0 + ((f3 11713)) := hq154
    have mm158 : v151 ≤ f153 11701 ∧ am_ph f3 a3 ≤ am_ph f153 a153 ∧ am_at (a3 124) 0 ≤ am_at (a153 124) 0 ∧ am_at (a153 125) 0 = am_at (a3 125) 0 := hk156.1
    have hm159 := am_mn.trans m157 hk156.1
    have t160 : f153 11718 = f3 11718 := hk156.2.1 11718 rfl
    have t161 : f153 11709 = f3 11709 := hk156.2.1 11709 rfl
    have t162 : f153 11741 = f3 11741 := hk156.2.1 11741 rfl
    have t163 : f153 11750 = f3 11750 := hk156.2.1 11750 rfl
    have t164 : f153 11753 = f3 11753 := hk156.2.1 11753 rfl
    have t165 : f153 11755 = f3 11755 := hk156.2.1 11755 rfl
    refine am_rpop rfl rfl ?_
    refine am_raload_n rfl rfl rfl ?_
    refine am_rbipush rfl (by decide) ?_
    refine am_evirtualV (m := am_m123) (As := [.ref 117, am_iv 61]) (S1 := []) rfl rfl rfl rfl rfl rfl rfl rfl rfl rfl (am_TE.void (am_ct124 (y1 := 61) (by omega) hI155 (by omega) (show 0 ≤ 61 by omega)) (fun f166 a166 hq167 => ?_) (fun _ _ _ h => h))
    obtain ⟨hI168, hk169, hq167⟩ := hq167
    replace hq167 : f166 11713 = ((f153 11713)) ∧ (am_ph f153 a153 ) + 1 ≤ am_ph f166 a166 + 1 * (f166 11701) ∧ (am_at (a153 124) 0) + 1 ≤ am_at (a166 124) 0 + 1 * (f166 11701) + 1 * ((f153 11713)) := hq167
    have mm170 : f153 11701 ≤ f166 11701 ∧ am_ph f153 a153 ≤ am_ph f166 a166 ∧ am_at (a153 124) 0 ≤ am_at (a166 124) 0 ∧ am_at (a166 125) 0 = am_at (a153 125) 0 := hk169.1
    have hm171 := am_mn.trans hm159 hk169.1
    have t172 : f166 11718 = f153 11718 := hk169.2.1 11718 rfl
    have t173 : f166 11709 = f153 11709 := hk169.2.1 11709 rfl
    have t174 : f166 11741 = f153 11741 := hk169.2.1 11741 rfl
    have t175 : f166 11750 = f153 11750 := hk169.2.1 11750 rfl
    have t176 : f166 11753 = f153 11753 := hk169.2.1 11753 rfl
    have t177 : f166 11755 = f153 11755 := hk169.2.1 11755 rfl
    refine am_raload_n rfl rfl rfl ?_
    refine am_evirtualI (m := am_m125) (As := [.ref 117]) (S1 := []) rfl rfl rfl rfl rfl rfl rfl rfl rfl rfl (am_TE.int (am_ct126  (by omega) hI168) (fun b178 f178 a178 hq179 => ?_) (fun _ _ _ h => h))
    obtain ⟨hI180, hk181, hq179⟩ := hq179
    replace hq179 : (b178 = 0 ∨ b178 = 1) ∧ f178 11701 = ((f166 11701)) ∧ f178 11713 = ((f166 11713)) ∧ f178 11701 ≤ 3 - 3 * b178 ∧ (am_ph f166 a166 ) + b178 ≤ am_ph f178 a178 ∧ (am_at (a166 124) 0) + b178 ≤ am_at (a178 124) 0 + ((f166 11713)) := hq179
    have mm182 : f166 11701 ≤ f178 11701 ∧ am_ph f166 a166 ≤ am_ph f178 a178 ∧ am_at (a166 124) 0 ≤ am_at (a178 124) 0 ∧ am_at (a178 125) 0 = am_at (a166 125) 0 := hk181.1
    have hm183 := am_mn.trans hm171 hk181.1
    have t184 : f178 11718 = f166 11718 := hk181.2.1 11718 rfl
    have t185 : f178 11709 = f166 11709 := hk181.2.1 11709 rfl
    have t186 : f178 11741 = f166 11741 := hk181.2.1 11741 rfl
    have t187 : f178 11750 = f166 11750 := hk181.2.1 11750 rfl
    have t188 : f178 11753 = f166 11753 := hk181.2.1 11753 rfl
    have t189 : f178 11755 = f166 11755 := hk181.2.1 11755 rfl
    refine am_rpop rfl rfl ?_
    refine am_raload_n rfl rfl rfl ?_
    refine am_evirtualV (m := am_m134) (As := [.ref 117]) (S1 := []) rfl rfl rfl rfl rfl rfl rfl rfl rfl rfl (am_TE.void (am_ct135  (by omega) hI180) (fun f190 a190 hq191 => ?_) (fun _ _ _ h => h))
    obtain ⟨hI192, hk193, hq191⟩ := hq191
    replace hq191 : f190 11709 = ((f178 11709)) ∧ f190 11718 = ((f178 11718)) ∧ f190 11741 = ((f178 11741)) ∧ f190 11750 = ((f178 11750)) ∧ f190 11753 = ((f178 11753)) ∧ f190 11757 = ((f178 11757)) ∧ f190 11763 = ((f178 11763)) ∧ ((f178 11713)) ≤ f190 11713 ∧ f190 11713 ≤ ((f178 11713)) + 16 * f190 11701 ∧ 0 ≤ f190 11755 ∧ f190 11755 ≤ am_ph f190 a190 - (am_ph f178 a178 ) ∧ (am_ph f178 a178 ) + 1 ≤ am_ph f190 a190 + f190 11701 ∧ (am_at (a178 124) 0) + 2 ≤ am_at (a190 124) 0 + 2 * f190 11701 + 2 * ((f178 11713)) := hq191
    have mm194 : f178 11701 ≤ f190 11701 ∧ am_ph f178 a178 ≤ am_ph f190 a190 ∧ am_at (a178 124) 0 ≤ am_at (a190 124) 0 ∧ am_at (a190 125) 0 = am_at (a178 125) 0 := hk193
    have hm195 := am_mn.trans hm183 hk193
    refine am_raload_n rfl rfl rfl ?_
    refine am_riload_n rfl rfl rfl ?_
    refine am_riload_n rfl rfl rfl ?_
    refine am_evirtualI (m := am_m144) (As := [.ref 117, am_iv y1, am_iv b3]) (S1 := []) rfl rfl rfl rfl rfl rfl rfl rfl rfl rfl (am_TE.int (am_ct145 (y1 := y1) (y2 := b3) (by omega) hI192 (by omega) (by omega)) (fun b196 f196 a196 hq197 => ?_) (fun _ _ _ h => h))
    obtain ⟨rfl, rfl, hq197⟩ := hq197
    have r41 := am_Rg11741 hI192.1.1
    refine am_ristore (L1 := [(0, .ref 117), (1, am_iv y1), (2, am_iv y2), (3, am_iv b3), (4, am_iv b196)]) rfl rfl rfl rfl rfl ?_
    refine am_riload rfl rfl rfl ?_
    refine am_rif_lt rfl rfl (by unfold am_rg; omega) (fun hc198 => ?_) (fun hc198 => ?_)
    · refine am_raload_n rfl rfl rfl ?_
      have q199 := am_Rg11701 hI192.1.1
      refine am_rgetf (S1 := [am_iv (f190 11701)]) rfl rfl ?_
      refine am_rif_ne rfl rfl (by unfold am_rg; omega) (fun hc200 => ?_) (fun hc200 => ?_)
      · refine am_riload_n rfl rfl rfl ?_
        refine am_riconst rfl ?_
        refine am_riload_n rfl rfl rfl ?_
        have q201 := am_shl_rg 1 b3
        refine am_rishl rfl ?_
        have q202 := am_or_rg y2 (am_shl 1 b3)
        refine am_rior rfl ?_
        have q203 := am_Rg11718 hI192.1.1
        have q204 := am_Rg11709 hI192.1.1
        have q205 := am_Rg11741 hI192.1.1
        have q206 := am_Rg11750 hI192.1.1
        have q207 := am_Rg11753 hI192.1.1
        have q208 := am_Rg11713 hI192.1.1
        exact am_eiret rfl rfl ⟨hI192, hm195, (show (-2147483648 ≤ am_or y2 (am_shl 1 b3) ∧ am_or y2 (am_shl 1 b3) ≤ 2147483647) by omega), (show f190 11718 = (f 11718) by omega), (show f190 11709 = (f 11709) by omega), (show f190 11741 = (f 11741) by omega), (show f190 11750 = (f 11750) by omega), (show f190 11753 = (f 11753) by omega), (show (am_ph f a) + 1 ≤ am_ph f190 a190 + 1 * (f190 11701) by omega), (show (am_at (a 124) 0) + 1 ≤ am_at (a190 124) 0 + 1 * (f190 11701) + 1 * (f 11713) by omega), (show (f 11713) ≤ f190 11713 by omega), (show f190 11713 ≤ (f 11713) + 16 * f190 11701 by omega)⟩
      · refine am_raload_n rfl rfl rfl ?_
        refine am_riload rfl rfl rfl ?_
        refine am_riload_n rfl rfl rfl ?_
        refine am_evirtualV (m := am_m161) (As := [.ref 117, am_iv b196, am_iv b3]) (S1 := []) rfl rfl rfl rfl rfl rfl rfl rfl rfl rfl (am_TE.void (am_ct162 (y1 := b196) (y2 := b3) (by omega) hI192 (by omega) (by omega) (show b196 < 64 by omega) (show 0 ≤ b3 by omega) (show b3 ≤ 25 by omega)) (fun f209 a209 hq210 => ?_) (fun _ _ _ h => h))
        obtain ⟨hI211, hk212, hq210⟩ := hq210
        replace hq210 : f209 11713 = ((f190 11713)) ∧ f209 11718 = ((f190 11718)) ∧ f209 11709 = ((f190 11709)) ∧ f209 11741 = ((f190 11741)) ∧ f209 11750 = ((f190 11750)) ∧ f209 11753 = ((f190 11753)) ∧ f209 11755 = ((f190 11755)) := hq210
        have mm213 : f190 11701 ≤ f209 11701 ∧ am_ph f190 a190 ≤ am_ph f209 a209 ∧ am_at (a190 124) 0 ≤ am_at (a209 124) 0 ∧ am_at (a209 125) 0 = am_at (a190 125) 0 := hk212
        have hm214 := am_mn.trans hm195 hk212
        refine am_riload_n rfl rfl rfl ?_
        refine am_riconst rfl ?_
        refine am_riload_n rfl rfl rfl ?_
        have q215 := am_shl_rg 1 b3
        refine am_rishl rfl ?_
        have q216 := am_or_rg y2 (am_shl 1 b3)
        refine am_rior rfl ?_
        have q217 := am_Rg11701 hI211.1.1
        have q218 := am_Rg11718 hI211.1.1
        have q219 := am_Rg11709 hI211.1.1
        have q220 := am_Rg11741 hI211.1.1
        have q221 := am_Rg11750 hI211.1.1
        have q222 := am_Rg11753 hI211.1.1
        have q223 := am_Rg11713 hI211.1.1
        exact am_eiret rfl rfl ⟨hI211, hm214, (show (-2147483648 ≤ am_or y2 (am_shl 1 b3) ∧ am_or y2 (am_shl 1 b3) ≤ 2147483647) by omega), (show f209 11718 = (f 11718) by omega), (show f209 11709 = (f 11709) by omega), (show f209 11741 = (f 11741) by omega), (show f209 11750 = (f 11750) by omega), (show f209 11753 = (f 11753) by omega), (show (am_ph f a) + 1 ≤ am_ph f209 a209 + 1 * (f209 11701) by omega), (show (am_at (a 124) 0) + 1 ≤ am_at (a209 124) 0 + 1 * (f209 11701) + 1 * (f 11713) by omega), (show (f 11713) ≤ f209 11713 by omega), (show f209 11713 ≤ (f 11713) + 16 * f209 11701 by omega)⟩
    · refine am_raload_n rfl rfl rfl ?_
      refine am_rgetf (S1 := [.ref 147]) rfl rfl ?_
      refine am_riload rfl rfl rfl ?_
      have q224 : (a190 147).length = 64 := am_Rl147 (am_RL 147 rfl hI192.1.1)
      have i225 : am_ib (a190 147) b196 := by unfold am_ib; omega
      have q226 := am_Rb147 (am_RL 147 rfl hI192.1.1) i225
      refine am_riaload (l := a190 147) rfl am_ge147 i225 ?_
      refine am_rif_eq rfl rfl (by unfold am_rg; omega) (fun hc227 => ?_) (fun hc227 => ?_)
      · refine am_raload_n rfl rfl rfl ?_
        have q228 := am_Rg11701 hI192.1.1
        refine am_rgetf (S1 := [am_iv (f190 11701)]) rfl rfl ?_
        refine am_rif_ne rfl rfl (by unfold am_rg; omega) (fun hc229 => ?_) (fun hc229 => ?_)
        · refine am_riload_n rfl rfl rfl ?_
          refine am_riconst rfl ?_
          refine am_riload_n rfl rfl rfl ?_
          have q230 := am_shl_rg 1 b3
          refine am_rishl rfl ?_
          have q231 := am_or_rg y2 (am_shl 1 b3)
          refine am_rior rfl ?_
          have q232 := am_Rg11718 hI192.1.1
          have q233 := am_Rg11709 hI192.1.1
          have q234 := am_Rg11741 hI192.1.1
          have q235 := am_Rg11750 hI192.1.1
          have q236 := am_Rg11753 hI192.1.1
          have q237 := am_Rg11713 hI192.1.1
          exact am_eiret rfl rfl ⟨hI192, hm195, (show (-2147483648 ≤ am_or y2 (am_shl 1 b3) ∧ am_or y2 (am_shl 1 b3) ≤ 2147483647) by omega), (show f190 11718 = (f 11718) by omega), (show f190 11709 = (f 11709) by omega), (show f190 11741 = (f 11741) by omega), (show f190 11750 = (f 11750) by omega), (show f190 11753 = (f 11753) by omega), (show (am_ph f a) + 1 ≤ am_ph f190 a190 + 1 * (f190 11701) by omega), (show (am_at (a 124) 0) + 1 ≤ am_at (a190 124) 0 + 1 * (f190 11701) + 1 * (f 11713) by omega), (show (f 11713) ≤ f190 11713 by omega), (show f190 11713 ≤ (f 11713) + 16 * f190 11701 by omega)⟩
        · refine am_raload_n rfl rfl rfl ?_
          refine am_riload rfl rfl rfl ?_
          refine am_riload_n rfl rfl rfl ?_
          refine am_evirtualV (m := am_m161) (As := [.ref 117, am_iv b196, am_iv b3]) (S1 := []) rfl rfl rfl rfl rfl rfl rfl rfl rfl rfl (am_TE.void (am_ct162 (y1 := b196) (y2 := b3) (by omega) hI192 (by omega) (by omega) (show b196 < 64 by omega) (show 0 ≤ b3 by omega) (show b3 ≤ 25 by omega)) (fun f238 a238 hq239 => ?_) (fun _ _ _ h => h))
          obtain ⟨hI240, hk241, hq239⟩ := hq239
          replace hq239 : f238 11713 = ((f190 11713)) ∧ f238 11718 = ((f190 11718)) ∧ f238 11709 = ((f190 11709)) ∧ f238 11741 = ((f190 11741)) ∧ f238 11750 = ((f190 11750)) ∧ f238 11753 = ((f190 11753)) ∧ f238 11755 = ((f190 11755)) := hq239
          have mm242 : f190 11701 ≤ f238 11701 ∧ am_ph f190 a190 ≤ am_ph f238 a238 ∧ am_at (a190 124) 0 ≤ am_at (a238 124) 0 ∧ am_at (a238 125) 0 = am_at (a190 125) 0 := hk241
          have hm243 := am_mn.trans hm195 hk241
          refine am_riload_n rfl rfl rfl ?_
          refine am_riconst rfl ?_
          refine am_riload_n rfl rfl rfl ?_
          have q244 := am_shl_rg 1 b3
          refine am_rishl rfl ?_
          have q245 := am_or_rg y2 (am_shl 1 b3)
          refine am_rior rfl ?_
          have q246 := am_Rg11701 hI240.1.1
          have q247 := am_Rg11718 hI240.1.1
          have q248 := am_Rg11709 hI240.1.1
          have q249 := am_Rg11741 hI240.1.1
          have q250 := am_Rg11750 hI240.1.1
          have q251 := am_Rg11753 hI240.1.1
          have q252 := am_Rg11713 hI240.1.1
          exact am_eiret rfl rfl ⟨hI240, hm243, (show (-2147483648 ≤ am_or y2 (am_shl 1 b3) ∧ am_or y2 (am_shl 1 b3) ≤ 2147483647) by omega), (show f238 11718 = (f 11718) by omega), (show f238 11709 = (f 11709) by omega), (show f238 11741 = (f 11741) by omega), (show f238 11750 = (f 11750) by omega), (show f238 11753 = (f 11753) by omega), (show (am_ph f a) + 1 ≤ am_ph f238 a238 + 1 * (f238 11701) by omega), (show (am_at (a 124) 0) + 1 ≤ am_at (a238 124) 0 + 1 * (f238 11701) + 1 * (f 11713) by omega), (show (f 11713) ≤ f238 11713 by omega), (show f238 11713 ≤ (f 11713) + 16 * f238 11701 by omega)⟩
      · refine am_raload_n rfl rfl rfl ?_
        refine am_evirtualV (m := am_m135) (As := [.ref 117]) (S1 := []) rfl rfl rfl rfl rfl rfl rfl rfl rfl rfl (am_TE.void (am_ct136  (by omega) hI192) (fun f253 a253 hq254 => ?_) (fun _ _ _ h => h))
        obtain ⟨hI255, hk256, hq254⟩ := hq254
        replace hq254 : f253 11701 = ((f190 11701)) ∧ f253 11713 = ((f190 11713)) ∧ f253 11709 = ((f190 11709)) ∧ f253 11718 = ((f190 11718)) ∧ f253 11741 = ((f190 11741)) ∧ f253 11750 = ((f190 11750)) ∧ f253 11753 = ((f190 11753)) ∧ f253 11757 = ((f190 11757)) ∧ f253 11763 = ((f190 11763)) ∧ f253 11755 ≤ ((f190 11755)) ∧ am_ph f253 a253 = (am_ph f190 a190 ) ∧ am_at (a253 124) 0 = (am_at (a190 124) 0) := hq254
        have mm257 : f190 11701 ≤ f253 11701 ∧ am_ph f190 a190 ≤ am_ph f253 a253 ∧ am_at (a190 124) 0 ≤ am_at (a253 124) 0 ∧ am_at (a253 125) 0 = am_at (a190 125) 0 := hk256
        have hm258 := am_mn.trans hm195 hk256
        refine am_raload_n rfl rfl rfl ?_
        have q259 := am_Rg11701 hI255.1.1
        refine am_rgetf (S1 := [am_iv (f253 11701)]) rfl rfl ?_
        refine am_rif_ne rfl rfl (by unfold am_rg; omega) (fun hc260 => ?_) (fun hc260 => ?_)
        · refine am_riload_n rfl rfl rfl ?_
          refine am_riconst rfl ?_
          refine am_riload_n rfl rfl rfl ?_
          have q261 := am_shl_rg 1 b3
          refine am_rishl rfl ?_
          have q262 := am_or_rg y2 (am_shl 1 b3)
          refine am_rior rfl ?_
          have q263 := am_Rg11718 hI255.1.1
          have q264 := am_Rg11709 hI255.1.1
          have q265 := am_Rg11741 hI255.1.1
          have q266 := am_Rg11750 hI255.1.1
          have q267 := am_Rg11753 hI255.1.1
          have q268 := am_Rg11713 hI255.1.1
          exact am_eiret rfl rfl ⟨hI255, hm258, (show (-2147483648 ≤ am_or y2 (am_shl 1 b3) ∧ am_or y2 (am_shl 1 b3) ≤ 2147483647) by omega), (show f253 11718 = (f 11718) by omega), (show f253 11709 = (f 11709) by omega), (show f253 11741 = (f 11741) by omega), (show f253 11750 = (f 11750) by omega), (show f253 11753 = (f 11753) by omega), (show (am_ph f a) + 1 ≤ am_ph f253 a253 + 1 * (f253 11701) by omega), (show (am_at (a 124) 0) + 1 ≤ am_at (a253 124) 0 + 1 * (f253 11701) + 1 * (f 11713) by omega), (show (f 11713) ≤ f253 11713 by omega), (show f253 11713 ≤ (f 11713) + 16 * f253 11701 by omega)⟩
        · refine am_raload_n rfl rfl rfl ?_
          refine am_riload rfl rfl rfl ?_
          refine am_riload_n rfl rfl rfl ?_
          refine am_evirtualV (m := am_m161) (As := [.ref 117, am_iv b196, am_iv b3]) (S1 := []) rfl rfl rfl rfl rfl rfl rfl rfl rfl rfl (am_TE.void (am_ct162 (y1 := b196) (y2 := b3) (by omega) hI255 (by omega) (by omega) (show b196 < 64 by omega) (show 0 ≤ b3 by omega) (show b3 ≤ 25 by omega)) (fun f269 a269 hq270 => ?_) (fun _ _ _ h => h))
          obtain ⟨hI271, hk272, hq270⟩ := hq270
          replace hq270 : f269 11713 = ((f253 11713)) ∧ f269 11718 = ((f253 11718)) ∧ f269 11709 = ((f253 11709)) ∧ f269 11741 = ((f253 11741)) ∧ f269 11750 = ((f253 11750)) ∧ f269 11753 = ((f253 11753)) ∧ f269 11755 = ((f253 11755)) := hq270
          have mm273 : f253 11701 ≤ f269 11701 ∧ am_ph f253 a253 ≤ am_ph f269 a269 ∧ am_at (a253 124) 0 ≤ am_at (a269 124) 0 ∧ am_at (a269 125) 0 = am_at (a253 125) 0 := hk272
          have hm274 := am_mn.trans hm258 hk272
          refine am_riload_n rfl rfl rfl ?_
          refine am_riconst rfl ?_
          refine am_riload_n rfl rfl rfl ?_
          have q275 := am_shl_rg 1 b3
          refine am_rishl rfl ?_
          have q276 := am_or_rg y2 (am_shl 1 b3)
          refine am_rior rfl ?_
          have q277 := am_Rg11701 hI271.1.1
          have q278 := am_Rg11718 hI271.1.1
          have q279 := am_Rg11709 hI271.1.1
          have q280 := am_Rg11741 hI271.1.1
          have q281 := am_Rg11750 hI271.1.1
          have q282 := am_Rg11753 hI271.1.1
          have q283 := am_Rg11713 hI271.1.1
          exact am_eiret rfl rfl ⟨hI271, hm274, (show (-2147483648 ≤ am_or y2 (am_shl 1 b3) ∧ am_or y2 (am_shl 1 b3) ≤ 2147483647) by omega), (show f269 11718 = (f 11718) by omega), (show f269 11709 = (f 11709) by omega), (show f269 11741 = (f 11741) by omega), (show f269 11750 = (f 11750) by omega), (show f269 11753 = (f 11753) by omega), (show (am_ph f a) + 1 ≤ am_ph f269 a269 + 1 * (f269 11701) by omega), (show (am_at (a 124) 0) + 1 ≤ am_at (a269 124) 0 + 1 * (f269 11701) + 1 * (f 11713) by omega), (show (f 11713) ≤ f269 11713 by omega), (show f269 11713 ≤ (f 11713) + 16 * f269 11701 by omega)⟩
set_option maxRecDepth 100000 in
set_option maxHeartbeats 4000000 in
theorem am_ct164_239 {X : List Value} {w : Value} {e : Nat} {g : aF} {h : aA} {E : Nat → aF → aA → Prop} {d : Nat} {z18 : Int} {z11713 : Int} {fz : aF} {az : aA} {f : aF} {a : aA} {x1 : Int} {x2 : Int} (hd : 7 ≤ d + 1) (hI : am_RV g h f a) (hp0 : am_mn fz az f a) (hp1 : (-2147483648 ≤ x1 ∧ x1 ≤ 2147483647)) (hp2 : (-2147483648 ≤ x2 ∧ x2 ≤ 2147483647)) (hp3 : 0 ≤ x1) (hp4 : x1 ≤ 25) (hp5 : f 11718 = z18 + 1) (hp6 : 0 ≤ z18) (hp7 : z11713 ≤ f 11713) (hp8 : f 11713 ≤ z11713 + 16 * f 11701) :
    am_TE X (d + 1) am_m163 239 [(0, .ref 117), (1, am_iv x1), (2, am_iv x2)] [] f a w e (am_QV (fun f1 a1 => am_RV g h f1 a1 ∧ am_mn fz az f1 a1 ∧ z18 ≤ f1 11718 ∧ f1 11718 ≤ z18 + 1 ∧ z11713 ≤ f1 11713 ∧ f1 11713 ≤ z11713 + 16 * f1 11701)) E := by
  have q1 := am_RV_ph hI
  have q2 := am_RV_p0 hI
  have q3 := am_Rg11718 hI.1.1
  have q4 := am_Rg11713 hI.1.1
  have q5 := am_Rg11701 hI.1.1
  refine am_raload_n rfl rfl rfl ?_
  refine am_evirtualI (m := am_m121) (As := [.ref 117]) (S1 := []) rfl rfl rfl rfl rfl rfl rfl rfl rfl rfl (am_TE.int (am_ct122  (by omega) hI) (fun b6 f6 a6 hq7 => ?_) (fun _ _ _ h => h))
  obtain ⟨rfl, rfl, hq7⟩ := hq7
  refine am_rbipush rfl (by decide) ?_
  refine am_ric_ne rfl rfl (by unfold am_rg; omega) (by unfold am_rg; omega) (fun hc8 => ?_) (fun hc8 => ?_)
  · refine am_riconst rfl ?_
    refine am_ristore (L1 := [(0, .ref 117), (1, am_iv x1), (2, am_iv x2), (4, am_iv 0)]) rfl rfl rfl rfl rfl ?_
    refine am_riload rfl rfl rfl ?_
    refine am_rif_eq rfl rfl (by unfold am_rg; omega) (fun hc9 => ?_) (fun hc9 => ?_)
    rotate_left
    · exfalso; omega
    refine am_raload_n rfl rfl rfl ?_
    refine am_rbipush rfl (by decide) ?_
    refine am_evirtualV (m := am_m123) (As := [.ref 117, am_iv 62]) (S1 := []) rfl rfl rfl rfl rfl rfl rfl rfl rfl rfl (am_TE.void (am_ct124 (y1 := 62) (by omega) hI (by omega) (show 0 ≤ 62 by omega)) (fun f10 a10 hq11 => ?_) (fun _ _ _ h => h))
    obtain ⟨hI12, hk13, hq11⟩ := hq11
    replace hq11 : f10 11713 = ((f 11713)) ∧ (am_ph f a ) + 1 ≤ am_ph f10 a10 + 1 * (f10 11701) ∧ (am_at (a 124) 0) + 1 ≤ am_at (a10 124) 0 + 1 * (f10 11701) + 1 * ((f 11713)) := hq11
    have mm14 : f 11701 ≤ f10 11701 ∧ am_ph f a ≤ am_ph f10 a10 ∧ am_at (a 124) 0 ≤ am_at (a10 124) 0 ∧ am_at (a10 125) 0 = am_at (a 125) 0 := hk13.1
    have hm15 := am_mn.trans hp0 hk13.1
    have t16 : f10 11718 = f 11718 := hk13.2.1 11718 rfl
    refine am_raload_n rfl rfl rfl ?_
    refine am_riload_n rfl rfl rfl ?_
    refine am_riload_n rfl rfl rfl ?_
    refine am_evirtualV (m := am_m165) (As := [.ref 117, am_iv x1, am_iv x2]) (S1 := []) rfl rfl rfl rfl rfl rfl rfl rfl rfl rfl (am_TE.void (am_ct166 (y1 := x1) (y2 := x2) (by omega) hI12 (by omega) (by omega)) (fun f17 a17 hq18 => ?_) (fun _ _ _ h => h))
    obtain ⟨hI19, hk20, hq18⟩ := hq18
    replace hq18 : f17 11713 = ((f10 11713)) ∧ f17 11718 = ((f10 11718)) ∧ f17 11709 = ((f10 11709)) ∧ f17 11741 = ((f10 11741)) ∧ f17 11750 = ((f10 11750)) ∧ f17 11753 = ((f10 11753)) := hq18
    have mm21 : f10 11701 ≤ f17 11701 ∧ am_ph f10 a10 ≤ am_ph f17 a17 ∧ am_at (a10 124) 0 ≤ am_at (a17 124) 0 ∧ am_at (a17 125) 0 = am_at (a10 125) 0 := hk20
    have hm22 := am_mn.trans hm15 hk20
    refine am_riload rfl rfl rfl ?_
    refine am_rif_eq rfl rfl (by unfold am_rg; omega) (fun hc23 => ?_) (fun hc23 => ?_)
    rotate_left
    · exfalso; omega
    have q24 := am_Rg11701 hI19.1.1
    have q25 := am_Rg11718 hI19.1.1
    have q26 := am_Rg11713 hI19.1.1
    exact am_eret rfl rfl ⟨hI19, hm22, (show z18 ≤ f17 11718 by omega), (show f17 11718 ≤ z18 + 1 by omega), (show z11713 ≤ f17 11713 by omega), (show f17 11713 ≤ z11713 + 16 * f17 11701 by omega)⟩
  · refine am_riconst rfl ?_
    refine am_rgoto rfl rfl ?_
    refine am_ristore (L1 := [(0, .ref 117), (1, am_iv x1), (2, am_iv x2), (4, am_iv 1)]) rfl rfl rfl rfl rfl ?_
    refine am_riload rfl rfl rfl ?_
    refine am_rif_eq rfl rfl (by unfold am_rg; omega) (fun hc27 => ?_) (fun hc27 => ?_)
    · exfalso; omega
    refine am_raload_n rfl rfl rfl ?_
    have ok28 : f 11701 = 0 ∧ am_at (a 124) (f 11713) < am_at (a 125) (f 11713) := am_PK.ok hq7.2.2.1 (by omega)
    refine am_evirtualV (m := am_m122) (As := [.ref 117]) (S1 := []) rfl rfl rfl rfl rfl rfl rfl rfl rfl rfl (am_TE.void (am_ct123  (by omega) hI (show am_at (a 124) ((f 11713)) < am_at (a 125) ((f 11713)) by omega)) (fun f29 a29 hq30 => ?_) (fun _ _ _ h => h))
    obtain ⟨hI31, hk32, hq30⟩ := hq30
    replace hq30 : f29 11701 = ((f 11701)) ∧ f29 11713 = ((f 11713)) ∧ am_ph f29 a29 = (am_ph f a ) + 1 ∧ (((f 11713)) = 0 → am_at (a29 124) 0 = (am_at (a 124) 0) + 1) := hq30
    have mm33 : f 11701 ≤ f29 11701 ∧ am_ph f a ≤ am_ph f29 a29 ∧ am_at (a 124) 0 ≤ am_at (a29 124) 0 ∧ am_at (a29 125) 0 = am_at (a 125) 0 := hk32.1
    have hm34 := am_mn.trans hp0 hk32.1
    have t35 : f29 11718 = f 11718 := hk32.2.1 11718 rfl
    refine am_raload_n rfl rfl rfl ?_
    refine am_rbipush rfl (by decide) ?_
    refine am_evirtualV (m := am_m123) (As := [.ref 117, am_iv 62]) (S1 := []) rfl rfl rfl rfl rfl rfl rfl rfl rfl rfl (am_TE.void (am_ct124 (y1 := 62) (by omega) hI31 (by omega) (show 0 ≤ 62 by omega)) (fun f36 a36 hq37 => ?_) (fun _ _ _ h => h))
    obtain ⟨hI38, hk39, hq37⟩ := hq37
    replace hq37 : f36 11713 = ((f29 11713)) ∧ (am_ph f29 a29 ) + 1 ≤ am_ph f36 a36 + 1 * (f36 11701) ∧ (am_at (a29 124) 0) + 1 ≤ am_at (a36 124) 0 + 1 * (f36 11701) + 1 * ((f29 11713)) := hq37
    have mm40 : f29 11701 ≤ f36 11701 ∧ am_ph f29 a29 ≤ am_ph f36 a36 ∧ am_at (a29 124) 0 ≤ am_at (a36 124) 0 ∧ am_at (a36 125) 0 = am_at (a29 125) 0 := hk39.1
    have hm41 := am_mn.trans hm34 hk39.1
    have t42 : f36 11718 = f29 11718 := hk39.2.1 11718 rfl
    refine am_raload_n rfl rfl rfl ?_
    refine am_riload_n rfl rfl rfl ?_
    refine am_riload_n rfl rfl rfl ?_
    refine am_evirtualV (m := am_m165) (As := [.ref 117, am_iv x1, am_iv x2]) (S1 := []) rfl rfl rfl rfl rfl rfl rfl rfl rfl rfl (am_TE.void (am_ct166 (y1 := x1) (y2 := x2) (by omega) hI38 (by omega) (by omega)) (fun f43 a43 hq44 => ?_) (fun _ _ _ h => h))
    obtain ⟨hI45, hk46, hq44⟩ := hq44
    replace hq44 : f43 11713 = ((f36 11713)) ∧ f43 11718 = ((f36 11718)) ∧ f43 11709 = ((f36 11709)) ∧ f43 11741 = ((f36 11741)) ∧ f43 11750 = ((f36 11750)) ∧ f43 11753 = ((f36 11753)) := hq44
    have mm47 : f36 11701 ≤ f43 11701 ∧ am_ph f36 a36 ≤ am_ph f43 a43 ∧ am_at (a36 124) 0 ≤ am_at (a43 124) 0 ∧ am_at (a43 125) 0 = am_at (a36 125) 0 := hk46
    have hm48 := am_mn.trans hm41 hk46
    refine am_riload rfl rfl rfl ?_
    refine am_rif_eq rfl rfl (by unfold am_rg; omega) (fun hc49 => ?_) (fun hc49 => ?_)
    · exfalso; omega
    refine am_raload_n rfl rfl rfl ?_
    have q50 := am_Rg11701 hI45.1.1
    have q51 := am_Rg11718 hI45.1.1
    refine am_evirtualV (m := am_m166) (As := [.ref 117]) (S1 := []) rfl rfl rfl rfl rfl rfl rfl rfl rfl rfl (am_TE.void (am_ct167  (by omega) hI45 (show 1 ≤ (f43 11718) + (f43 11701) by omega)) (fun f52 a52 hq53 => ?_) (fun _ _ _ h => h))
    obtain ⟨hI54, hk55, hq53⟩ := hq53
    replace hq53 : f52 11713 = ((f43 11713)) ∧ f52 11709 = ((f43 11709)) ∧ f52 11741 = ((f43 11741)) ∧ f52 11750 = ((f43 11750)) ∧ f52 11753 = ((f43 11753)) ∧ ((f43 11718)) - 1 ≤ f52 11718 ∧ f52 11718 ≤ ((f43 11718)) := hq53
    have mm56 : f43 11701 ≤ f52 11701 ∧ am_ph f43 a43 ≤ am_ph f52 a52 ∧ am_at (a43 124) 0 ≤ am_at (a52 124) 0 ∧ am_at (a52 125) 0 = am_at (a43 125) 0 := hk55
    have hm57 := am_mn.trans hm48 hk55
    have q58 := am_Rg11701 hI54.1.1
    have q59 := am_Rg11718 hI54.1.1
    have q60 := am_Rg11713 hI54.1.1
    exact am_eret rfl rfl ⟨hI54, hm57, (show z18 ≤ f52 11718 by omega), (show f52 11718 ≤ z18 + 1 by omega), (show z11713 ≤ f52 11713 by omega), (show f52 11713 ≤ z11713 + 16 * f52 11701 by omega)⟩
set_option maxRecDepth 100000 in
set_option maxHeartbeats 4000000 in
theorem am_ct164_174 {X : List Value} {w : Value} {e : Nat} {g : aF} {h : aA} {E : Nat → aF → aA → Prop} {d : Nat} {z18 : Int} {z11713 : Int} {fz : aF} {az : aA} (hd : 7 ≤ d + 1) (n : Nat) :
    ∀ {f : aF} {a : aA} {x1 : Int} {x2 : Int} {x3 : Int}, (2 * (8 * (3500 - am_ph f a) + 3 - f 11701) + x3).toNat < n → am_RV g h f a → am_mn fz az f a → (-2147483648 ≤ x1 ∧ x1 ≤ 2147483647) → (-2147483648 ≤ x2 ∧ x2 ≤ 2147483647) → (-2147483648 ≤ x3 ∧ x3 ≤ 2147483647) → 0 ≤ x1 → x1 ≤ 25 → (x3 = 0 ∨ x3 = 1) → f 11718 = z18 + 1 → 0 ≤ z18 → z11713 ≤ f 11713 → f 11713 ≤ z11713 + 16 * f 11701 → am_TE X (d + 1) am_m163 174 [(0, .ref 117), (1, am_iv x1), (2, am_iv x2), (3, am_iv x3)] [] f a w e (am_QV (fun f1 a1 => am_RV g h f1 a1 ∧ am_mn fz az f1 a1 ∧ z18 ≤ f1 11718 ∧ f1 11718 ≤ z18 + 1 ∧ z11713 ≤ f1 11713 ∧ f1 11713 ≤ z11713 + 16 * f1 11701)) E := by
  induction n with
  | zero => intros; omega
  | succ n ih =>
    intro f a x1 x2 x3 hn hI hp0 hp1 hp2 hp3 hp4 hp5 hp6 hp7 hp8 hp9 hp10
    have q1 := am_RV_ph hI
    have q2 := am_RV_p0 hI
    have q3 := am_Rg11718 hI.1.1
    have q4 := am_Rg11713 hI.1.1
    have q5 := am_Rg11701 hI.1.1
    refine am_riload_n rfl rfl rfl ?_
    refine am_rif_eq rfl rfl (by unfold am_rg; omega) (fun hc6 => ?_) (fun hc6 => ?_)
    · exact am_T.drop (L1 := [(0, .ref 117), (1, am_iv x1), (2, am_iv x2)]) (am_ct164_239 hd hI hp0 (by omega) (by omega) (by omega) (by omega) (by omega) (by omega) (by omega) (by omega)) (by simp)
    · refine am_raload_n rfl rfl rfl ?_
      refine am_rgetf (S1 := [am_iv (f 11701)]) rfl rfl ?_
      refine am_rif_ne rfl rfl (by unfold am_rg; omega) (fun hc7 => ?_) (fun hc7 => ?_)
      · exact am_T.drop (L1 := [(0, .ref 117), (1, am_iv x1), (2, am_iv x2)]) (am_ct164_239 hd hI hp0 (by omega) (by omega) (by omega) (by omega) (by omega) (by omega) (by omega) (by omega)) (by simp)
      · refine am_raload_n rfl rfl rfl ?_
        refine am_evirtualI (m := am_m125) (As := [.ref 117]) (S1 := []) rfl rfl rfl rfl rfl rfl rfl rfl rfl rfl (am_TE.int (am_ct126  (by omega) hI) (fun b8 f8 a8 hq9 => ?_) (fun _ _ _ h => h))
        obtain ⟨hI10, hk11, hq9⟩ := hq9
        replace hq9 : (b8 = 0 ∨ b8 = 1) ∧ f8 11701 = ((f 11701)) ∧ f8 11713 = ((f 11713)) ∧ f8 11701 ≤ 3 - 3 * b8 ∧ (am_ph f a ) + b8 ≤ am_ph f8 a8 ∧ (am_at (a 124) 0) + b8 ≤ am_at (a8 124) 0 + ((f 11713)) := hq9
        have mm12 : f 11701 ≤ f8 11701 ∧ am_ph f a ≤ am_ph f8 a8 ∧ am_at (a 124) 0 ≤ am_at (a8 124) 0 ∧ am_at (a8 125) 0 = am_at (a 125) 0 := hk11.1
        have hm13 := am_mn.trans hp0 hk11.1
        have t14 : f8 11718 = f 11718 := hk11.2.1 11718 rfl
        refine am_ristore (L1 := [(0, .ref 117), (1, am_iv x1), (2, am_iv x2), (3, am_iv x3), (4, am_iv b8)]) rfl rfl rfl rfl rfl ?_
        refine am_raload_n rfl rfl rfl ?_
        refine am_evirtualI (m := am_m121) (As := [.ref 117]) (S1 := []) rfl rfl rfl rfl rfl rfl rfl rfl rfl rfl (am_TE.int (am_ct122  (by omega) hI10) (fun b15 f15 a15 hq16 => ?_) (fun _ _ _ h => h))
        obtain ⟨rfl, rfl, hq16⟩ := hq16
        refine am_rbipush rfl (by decide) ?_
        refine am_ric_eq rfl rfl (by unfold am_rg; omega) (by unfold am_rg; omega) (fun hc17 => ?_) (fun hc17 => ?_)
        · refine am_riconst rfl ?_
          refine am_ristore_n (L1 := [(0, .ref 117), (1, am_iv x1), (2, am_iv x2), (3, am_iv 0), (4, am_iv b8)]) rfl rfl rfl rfl rfl ?_
          refine am_riload_n rfl rfl rfl ?_
          refine am_rif_eq rfl rfl (by unfold am_rg; omega) (fun hc18 => ?_) (fun hc18 => ?_)
          rotate_left
          · exfalso; omega
          refine am_rgoto rfl rfl ?_
          have q19 := am_Rg11701 hI10.1.1
          have q20 := am_Rg11718 hI10.1.1
          have q21 := am_Rg11713 hI10.1.1
          exact am_T.drop (L1 := [(0, .ref 117), (1, am_iv x1), (2, am_iv x2), (3, am_iv 0)]) (ih (by omega) hI10 hm13 (by omega) (by omega) (by omega) (by omega) (by omega) (by omega) (by omega) (by omega) (by omega) (by omega)) (by simp)
        · refine am_raload_n rfl rfl rfl ?_
          refine am_evirtualI (m := am_m121) (As := [.ref 117]) (S1 := []) rfl rfl rfl rfl rfl rfl rfl rfl rfl rfl (am_TE.int (am_ct122  (by omega) hI10) (fun b22 f22 a22 hq23 => ?_) (fun _ _ _ h => h))
          obtain ⟨rfl, rfl, hq23⟩ := hq23
          refine am_rbipush rfl (by decide) ?_
          refine am_ric_eq rfl rfl (by unfold am_rg; omega) (by unfold am_rg; omega) (fun hc24 => ?_) (fun hc24 => ?_)
          · refine am_riconst rfl ?_
            refine am_ristore_n (L1 := [(0, .ref 117), (1, am_iv x1), (2, am_iv x2), (3, am_iv 0), (4, am_iv b8)]) rfl rfl rfl rfl rfl ?_
            refine am_riload_n rfl rfl rfl ?_
            refine am_rif_eq rfl rfl (by unfold am_rg; omega) (fun hc25 => ?_) (fun hc25 => ?_)
            rotate_left
            · exfalso; omega
            refine am_rgoto rfl rfl ?_
            have q26 := am_Rg11701 hI10.1.1
            have q27 := am_Rg11718 hI10.1.1
            have q28 := am_Rg11713 hI10.1.1
            exact am_T.drop (L1 := [(0, .ref 117), (1, am_iv x1), (2, am_iv x2), (3, am_iv 0)]) (ih (by omega) hI10 hm13 (by omega) (by omega) (by omega) (by omega) (by omega) (by omega) (by omega) (by omega) (by omega) (by omega)) (by simp)
          · refine am_riconst rfl ?_
            refine am_rgoto rfl rfl ?_
            refine am_ristore_n (L1 := [(0, .ref 117), (1, am_iv x1), (2, am_iv x2), (3, am_iv 1), (4, am_iv b8)]) rfl rfl rfl rfl rfl ?_
            refine am_riload_n rfl rfl rfl ?_
            refine am_rif_eq rfl rfl (by unfold am_rg; omega) (fun hc29 => ?_) (fun hc29 => ?_)
            · exfalso; omega
            refine am_riload rfl rfl rfl ?_
            refine am_rif_ne rfl rfl (by unfold am_rg; omega) (fun hc30 => ?_) (fun hc30 => ?_)
            · refine am_raload_n rfl rfl rfl ?_
              refine am_riload_n rfl rfl rfl ?_
              refine am_riload_n rfl rfl rfl ?_
              refine am_evirtualI (m := am_m164) (As := [.ref 117, am_iv x1, am_iv x2]) (S1 := []) rfl rfl rfl rfl rfl rfl rfl rfl rfl rfl (am_TE.int (am_ct165 (y1 := x1) (y2 := x2) (by omega) hI10 (by omega) (by omega) (show 0 ≤ x1 by omega) (show x1 ≤ 25 by omega)) (fun b31 f31 a31 hq32 => ?_) (fun _ _ _ h => h))
              obtain ⟨hI33, hk34, hq32⟩ := hq32
              replace hq32 : (-2147483648 ≤ b31 ∧ b31 ≤ 2147483647) ∧ f31 11718 = ((f8 11718)) ∧ f31 11709 = ((f8 11709)) ∧ f31 11741 = ((f8 11741)) ∧ f31 11750 = ((f8 11750)) ∧ f31 11753 = ((f8 11753)) ∧ (am_ph f8 a8 ) + 1 ≤ am_ph f31 a31 + 1 * (f31 11701) ∧ (am_at (a8 124) 0) + 1 ≤ am_at (a31 124) 0 + 1 * (f31 11701) + 1 * ((f8 11713)) ∧ ((f8 11713)) ≤ f31 11713 ∧ f31 11713 ≤ ((f8 11713)) + 16 * f31 11701 := hq32
              have mm35 : f8 11701 ≤ f31 11701 ∧ am_ph f8 a8 ≤ am_ph f31 a31 ∧ am_at (a8 124) 0 ≤ am_at (a31 124) 0 ∧ am_at (a31 125) 0 = am_at (a8 125) 0 := hk34
              have hm36 := am_mn.trans hm13 hk34
              refine am_ristore_n (L1 := [(0, .ref 117), (1, am_iv x1), (2, am_iv b31), (3, am_iv 1), (4, am_iv b8)]) rfl rfl rfl rfl rfl ?_
              refine am_rgoto rfl rfl ?_
              have q37 := am_Rg11701 hI33.1.1
              have q38 := am_Rg11718 hI33.1.1
              have q39 := am_Rg11713 hI33.1.1
              exact am_T.drop (L1 := [(0, .ref 117), (1, am_iv x1), (2, am_iv b31), (3, am_iv 1)]) (ih (by omega) hI33 hm36 (by omega) (by omega) (by omega) (by omega) (by omega) (by omega) (by omega) (by omega) (by omega) (by omega)) (by simp)
            · refine am_raload_n rfl rfl rfl ?_
              refine am_riconst rfl ?_
              have q40 := am_Rg11701 hI10.1.1
              refine am_evirtualV (m := am_m116) (As := [.ref 117, am_iv 1]) (S1 := []) rfl rfl rfl rfl rfl rfl rfl rfl rfl rfl (am_TE.void (am_ct117 (y1 := 1) (by omega) (by omega) (show 1 ≤ 1 by omega) (show 1 ≤ 3 by omega) (show 0 ≤ (f8 11701) by omega) (show (f8 11701) ≤ 3 by omega)) (fun f41 a41 hq42 => ?_) (fun _ _ _ h => h))
              obtain ⟨v43, rfl, rfl, hq42⟩ := hq42
              replace hq42 : 0 < v43 ∧ v43 ≤ 3 ∧ f8 11701 ≤ v43 := hq42
              refine am_raload_n rfl rfl rfl ?_
              refine am_riload_n rfl rfl rfl ?_
              refine am_riload_n rfl rfl rfl ?_
              have J44 := am_Rf11701 (v := v43) hI10 (by omega) (by omega)
              refine am_evirtualI (m := am_m164) (As := [.ref 117, am_iv x1, am_iv x2]) (S1 := []) rfl rfl rfl rfl rfl rfl rfl rfl rfl rfl (am_TE.int (am_ct165 (y1 := x1) (y2 := x2) (by omega) J44 (by omega) (by omega) (show 0 ≤ x1 by omega) (show x1 ≤ 25 by omega)) (fun b45 f45 a45 hq46 => ?_) (fun _ _ _ h => h))
              have m49 : am_mn fz az (am_ud f8 11701 v43) a8 := am_mn.halt hm13 (by omega)
              obtain ⟨hI47, hk48, hq46⟩ := hq46
              replace hq46 : (-2147483648 ≤ b45 ∧ b45 ≤ 2147483647) ∧ f45 11718 = ((f8 11718)) ∧ f45 11709 = ((f8 11709)) ∧ f45 11741 = ((f8 11741)) ∧ f45 11750 = ((f8 11750)) ∧ f45 11753 = ((f8 11753)) ∧ (am_ph f8 a8 ) + 1 ≤ am_ph f45 a45 + 1 * (f45 11701) ∧ (am_at (a8 124) 0) + 1 ≤ am_at (a45 124) 0 + 1 * (f45 11701) + 1 * ((f8 11713)) ∧ ((f8 11713)) ≤ f45 11713 ∧ f45 11713 ≤ ((f8 11713)) + 16 * f45 11701 := hq46
              have mm50 : v43 ≤ f45 11701 ∧ am_ph f8 a8 ≤ am_ph f45 a45 ∧ am_at (a8 124) 0 ≤ am_at (a45 124) 0 ∧ am_at (a45 125) 0 = am_at (a8 125) 0 := hk48
              have hm51 := am_mn.trans m49 hk48
              refine am_ristore_n (L1 := [(0, .ref 117), (1, am_iv x1), (2, am_iv b45), (3, am_iv 1), (4, am_iv b8)]) rfl rfl rfl rfl rfl ?_
              refine am_rgoto rfl rfl ?_
              have q52 := am_Rg11701 hI47.1.1
              have q53 := am_Rg11718 hI47.1.1
              have q54 := am_Rg11713 hI47.1.1
              exact am_T.drop (L1 := [(0, .ref 117), (1, am_iv x1), (2, am_iv b45), (3, am_iv 1)]) (ih (by omega) hI47 hm51 (by omega) (by omega) (by omega) (by omega) (by omega) (by omega) (by omega) (by omega) (by omega) (by omega)) (by simp)
set_option maxRecDepth 100000 in
set_option maxHeartbeats 4000000 in
theorem am_ct164_107 {X : List Value} {w : Value} {e : Nat} {g : aF} {h : aA} {E : Nat → aF → aA → Prop} {d : Nat} {z18 : Int} {z11713 : Int} {fz : aF} {az : aA} {f : aF} {a : aA} {x1 : Int} (hd : 7 ≤ d + 1) (hI : am_RV g h f a) (hp0 : am_mn fz az f a) (hp1 : (-2147483648 ≤ x1 ∧ x1 ≤ 2147483647)) (hp2 : 0 ≤ x1) (hp3 : x1 ≤ 25) (hp4 : f 11718 = z18) (hp5 : 0 ≤ z18) (hp6 : f 11713 = z11713) (hp7 : f 11718 + f 11713 ≤ 15) :
    am_TE X (d + 1) am_m163 107 [(0, .ref 117), (1, am_iv x1)] [] f a w e (am_QV (fun f1 a1 => am_RV g h f1 a1 ∧ am_mn fz az f1 a1 ∧ z18 ≤ f1 11718 ∧ f1 11718 ≤ z18 + 1 ∧ z11713 ≤ f1 11713 ∧ f1 11713 ≤ z11713 + 16 * f1 11701)) E := by
  have q1 := am_RV_ph hI
  have q2 := am_RV_p0 hI
  have q3 := am_Rg11718 hI.1.1
  have q4 := am_Rg11713 hI.1.1
  refine am_raload_n rfl rfl rfl ?_
  refine am_rgetf (S1 := [.ref 128]) rfl rfl ?_
  refine am_raload_n rfl rfl rfl ?_
  refine am_rgetf (S1 := [am_iv (f 11718), .ref 128]) rfl rfl ?_
  refine am_riload_n rfl rfl rfl ?_
  have q5 : (a 128).length = 20 := am_Rl128 (am_RL 128 rfl hI.1.1)
  have i6 : am_ib (a 128) (f 11718) := by unfold am_ib; omega
  have hl7 : am_LR 128 ((a 128).set (f 11718).toNat x1) := am_RS128 (am_RL 128 rfl hI.1.1) (by omega) (by omega)
  refine am_riastore (l := a 128) (h1 := am_enc f (am_ud a 128 ((a 128).set (f 11718).toNat x1)) w e) rfl am_ge128 i6 (am_sa128 _) ?_
  refine am_raload_n rfl rfl rfl ?_
  refine am_rgetf (S1 := [.ref 129]) rfl rfl ?_
  refine am_raload_n rfl rfl rfl ?_
  refine am_rgetf (S1 := [am_iv (f 11718), .ref 129]) rfl rfl ?_
  refine am_raload_n rfl rfl rfl ?_
  refine am_rgetf (S1 := [am_iv (f 11713), am_iv (f 11718), .ref 129]) rfl rfl ?_
  have q8 : (a 129).length = 20 := am_Rl129 (am_RL 129 rfl hI.1.1)
  have i9 : am_ib (a 129) (f 11718) := by unfold am_ib; omega
  have hl10 : am_LR 129 ((a 129).set (f 11718).toNat (f 11713)) := am_RS129 (am_RL 129 rfl hI.1.1) (by omega) (by omega)
  refine am_riastore (l := a 129) (h1 := am_enc f (am_ud (am_ud a 128 ((a 128).set (f 11718).toNat x1)) 129 ((a 129).set (f 11718).toNat (f 11713))) w e) rfl am_ge129 i9 (am_sa129 _) ?_
  refine am_raload_n rfl rfl rfl ?_
  refine am_rgetf (S1 := [.ref 130]) rfl rfl ?_
  refine am_raload_n rfl rfl rfl ?_
  refine am_rgetf (S1 := [am_iv (f 11718), .ref 130]) rfl rfl ?_
  refine am_raload_n rfl rfl rfl ?_
  refine am_rgetf (S1 := [.ref 137, am_iv (f 11718), .ref 130]) rfl rfl ?_
  refine am_riload_n rfl rfl rfl ?_
  have q11 : (a 137).length = 27 := am_Rl137 (am_RL 137 rfl hI.1.1)
  have i12 : am_ib (a 137) x1 := by unfold am_ib; omega
  have q13 := am_Rb137 (am_RL 137 rfl hI.1.1) i12
  refine am_riaload (l := a 137) rfl am_ge137 i12 ?_
  have q14 : (a 130).length = 20 := am_Rl130 (am_RL 130 rfl hI.1.1)
  have i15 : am_ib (a 130) (f 11718) := by unfold am_ib; omega
  have hl16 : am_LR 130 ((a 130).set (f 11718).toNat (am_at (a 137) x1)) := am_RS130 (am_RL 130 rfl hI.1.1) (by omega) (by omega)
  refine am_riastore (l := a 130) (h1 := am_enc f (am_ud (am_ud (am_ud a 128 ((a 128).set (f 11718).toNat x1)) 129 ((a 129).set (f 11718).toNat (f 11713))) 130 ((a 130).set (f 11718).toNat (am_at (a 137) x1))) w e) rfl am_ge130 i15 (am_sa130 _) ?_
  refine am_raload_n rfl rfl rfl ?_
  refine am_rgetf (S1 := [.ref 131]) rfl rfl ?_
  refine am_raload_n rfl rfl rfl ?_
  refine am_rgetf (S1 := [am_iv (f 11718), .ref 131]) rfl rfl ?_
  refine am_raload_n rfl rfl rfl ?_
  refine am_rgetf (S1 := [.ref 139, am_iv (f 11718), .ref 131]) rfl rfl ?_
  refine am_riload_n rfl rfl rfl ?_
  have q17 : (a 139).length = 27 := am_Rl139 (am_RL 139 rfl hI.1.1)
  have i18 : am_ib (a 139) x1 := by unfold am_ib; omega
  have q19 := am_Rb139 (am_RL 139 rfl hI.1.1) i18
  refine am_rbaload (l := a 139) rfl am_ge139 i18 ?_
  have q20 : (a 131).length = 20 := am_Rl131 (am_RL 131 rfl hI.1.1)
  have i21 : am_ib (a 131) (f 11718) := by unfold am_ib; omega
  have hl22 : am_LR 131 ((a 131).set (f 11718).toNat (am_at (a 139) x1)) := am_RS131 (am_RL 131 rfl hI.1.1) (by omega) (by omega)
  refine am_rbastore (l := a 131) (h1 := am_enc f (am_ud (am_ud (am_ud (am_ud a 128 ((a 128).set (f 11718).toNat x1)) 129 ((a 129).set (f 11718).toNat (f 11713))) 130 ((a 130).set (f 11718).toNat (am_at (a 137) x1))) 131 ((a 131).set (f 11718).toNat (am_at (a 139) x1))) w e) rfl am_ge131 i21 (by omega) (am_sa131 _) ?_
  refine am_raload_n rfl rfl rfl ?_
  refine am_rdup rfl rfl ?_
  refine am_rgetf (S1 := [am_iv (f 11718), .ref 117]) rfl rfl ?_
  refine am_riconst rfl ?_
  refine am_riadd rfl ?_
  refine am_rputf (S1 := []) (h1 := am_enc (am_ud f 11718 ((f 11718) + 1)) (am_ud (am_ud (am_ud (am_ud a 128 ((a 128).set (f 11718).toNat x1)) 129 ((a 129).set (f 11718).toNat (f 11713))) 130 ((a 130).set (f 11718).toNat (am_at (a 137) x1))) 131 ((a 131).set (f 11718).toNat (am_at (a 139) x1))) w e) rfl (am_pfB rfl am_ge117 rfl (am_sf11718 _)) (by rw [am_enc_len, am_enc_len]) ?_
  refine am_riconst rfl ?_
  refine am_ristore_n (L1 := [(0, .ref 117), (1, am_iv x1), (2, am_iv 0)]) rfl rfl rfl rfl rfl ?_
  refine am_riconst rfl ?_
  refine am_ristore_n (L1 := [(0, .ref 117), (1, am_iv x1), (2, am_iv 0), (3, am_iv 1)]) rfl rfl rfl rfl rfl ?_
  have q23 := am_Rg11701 hI.1.1
  have q25 := hI.2.1
  have J24 := am_Rf11718 (v := (f 11718) + 1) hI (by omega) (by omega) (show (f 11718) + 1 + f 11713 ≤ 16 by omega)
  have J26 := am_Ra128 J24 hl7
  have J27 := am_Ra129 J26 hl10
  have J28 := am_Ra130 J27 hl16
  have J29 := am_Ra131 J28 hl22
  have m30 : am_mn fz az (am_ud f 11718 ((f 11718) + 1)) a := am_mn_f rfl rfl rfl hp0
  have m31 : am_mn fz az (am_ud f 11718 ((f 11718) + 1)) (am_ud a 128 ((a 128).set (f 11718).toNat x1)) := am_mn_a rfl rfl m30
  have m32 : am_mn fz az (am_ud f 11718 ((f 11718) + 1)) (am_ud (am_ud a 128 ((a 128).set (f 11718).toNat x1)) 129 ((a 129).set (f 11718).toNat (f 11713))) := am_mn_a rfl rfl m31
  have m33 : am_mn fz az (am_ud f 11718 ((f 11718) + 1)) (am_ud (am_ud (am_ud a 128 ((a 128).set (f 11718).toNat x1)) 129 ((a 129).set (f 11718).toNat (f 11713))) 130 ((a 130).set (f 11718).toNat (am_at (a 137) x1))) := am_mn_a rfl rfl m32
  have m34 : am_mn fz az (am_ud f 11718 ((f 11718) + 1)) (am_ud (am_ud (am_ud (am_ud a 128 ((a 128).set (f 11718).toNat x1)) 129 ((a 129).set (f 11718).toNat (f 11713))) 130 ((a 130).set (f 11718).toNat (am_at (a 137) x1))) 131 ((a 131).set (f 11718).toNat (am_at (a 139) x1))) := am_mn_a rfl rfl m33
  exact am_ct164_174 hd (_ + 1) (Nat.lt_succ_self _) J29 m34 (show (-2147483648 ≤ x1 ∧ x1 ≤ 2147483647) by omega) (show (-2147483648 ≤ 0 ∧ 0 ≤ 2147483647) by omega) (show (-2147483648 ≤ 1 ∧ 1 ≤ 2147483647) by omega) (show 0 ≤ x1 by omega) (show x1 ≤ 25 by omega) (show (1 = 0 ∨ 1 = 1) by omega) (show ((f 11718) + 1) = z18 + 1 by omega) (show 0 ≤ z18 by omega) (show z11713 ≤ (f 11713) by omega) (show (f 11713) ≤ z11713 + 16 * (f 11701) by omega)
set_option maxRecDepth 100000 in
set_option maxHeartbeats 4000000 in
theorem am_ct164_79 {X : List Value} {w : Value} {e : Nat} {g : aF} {h : aA} {E : Nat → aF → aA → Prop} {d : Nat} {z18 : Int} {z11713 : Int} {fz : aF} {az : aA} {f : aF} {a : aA} {x1 : Int} (hd : 7 ≤ d + 1) (hI : am_RV g h f a) (hp0 : am_mn fz az f a) (hp1 : (-2147483648 ≤ x1 ∧ x1 ≤ 2147483647)) (hp2 : 0 ≤ x1) (hp3 : x1 ≤ 25) (hp4 : f 11718 = z18) (hp5 : 0 ≤ z18) (hp6 : f 11713 = z11713) (hp7 : f 11718 + f 11713 ≤ 15) :
    am_TE X (d + 1) am_m163 79 [(0, .ref 117), (1, am_iv x1)] [] f a w e (am_QV (fun f1 a1 => am_RV g h f1 a1 ∧ am_mn fz az f1 a1 ∧ z18 ≤ f1 11718 ∧ f1 11718 ≤ z18 + 1 ∧ z11713 ≤ f1 11713 ∧ f1 11713 ≤ z11713 + 16 * f1 11701)) E := by
  have q1 := am_RV_ph hI
  have q2 := am_RV_p0 hI
  have q3 := am_Rg11718 hI.1.1
  have q4 := am_Rg11713 hI.1.1
  refine am_raload_n rfl rfl rfl ?_
  refine am_riconst rfl ?_
  refine am_rbipush rfl (by decide) ?_
  refine am_riload_n rfl rfl rfl ?_
  refine am_riadd rfl ?_
  refine am_evirtualV (m := am_m155) (As := [.ref 117, am_iv 1, am_iv (97 + x1)]) (S1 := []) rfl rfl rfl rfl rfl rfl rfl rfl rfl rfl (am_TE.void (am_ct156 (y1 := 1) (y2 := (97 + x1)) (by omega) hI (by omega) (by omega)) (fun f5 a5 hq6 => ?_) (fun _ _ _ h => h))
  obtain ⟨hI7, hk8, hq6⟩ := hq6
  replace hq6 : f5 11713 = ((f 11713)) ∧ f5 11718 = ((f 11718)) ∧ f5 11709 = ((f 11709)) ∧ f5 11741 = ((f 11741)) ∧ f5 11750 = ((f 11750)) ∧ f5 11753 = ((f 11753)) ∧ f5 11755 = ((f 11755)) ∧ 1 ≤ f5 11757 + f5 11701 := hq6
  have mm9 : f 11701 ≤ f5 11701 ∧ am_ph f a ≤ am_ph f5 a5 ∧ am_at (a 124) 0 ≤ am_at (a5 124) 0 ∧ am_at (a5 125) 0 = am_at (a 125) 0 := hk8
  have hm10 := am_mn.trans hp0 hk8
  refine am_raload_n rfl rfl rfl ?_
  refine am_rgetf (S1 := [.ref 132]) rfl rfl ?_
  refine am_riload_n rfl rfl rfl ?_
  have q11 : (a5 132).length = 26 := am_Rl132 (am_RL 132 rfl hI7.1.1)
  have i12 : am_ib (a5 132) x1 := by unfold am_ib; omega
  have q13 := am_Rb132 (am_RL 132 rfl hI7.1.1) i12
  refine am_riaload (l := a5 132) rfl am_ge132 i12 ?_
  refine am_rif_ne rfl rfl (by unfold am_rg; omega) (fun hc14 => ?_) (fun hc14 => ?_)
  · have q15 := am_Rg11701 hI7.1.1
    have q16 := am_Rg11718 hI7.1.1
    have q17 := am_Rg11713 hI7.1.1
    exact am_ct164_107 hd hI7 hm10 (by omega) (by omega) (by omega) (by omega) (by omega) (by omega) (by omega)
  · refine am_raload_n rfl rfl rfl ?_
    refine am_rdup rfl rfl ?_
    have q18 := am_Rg11704 hI7.1.1
    refine am_rgetf (S1 := [am_iv (f5 11704), .ref 117]) rfl rfl ?_
    refine am_riconst rfl ?_
    have q19 := am_or_rg (f5 11704) 2
    refine am_rior rfl ?_
    refine am_rputf (S1 := []) (h1 := am_enc (am_ud f5 11704 (am_or (f5 11704) 2)) a5 w e) rfl (am_pfB rfl am_ge117 rfl (am_sf11704 _)) (by rw [am_enc_len, am_enc_len]) ?_
    have q20 := am_Rg11701 hI7.1.1
    have J21 := am_Rf11704 (v := am_or (f5 11704) 2) hI7 (by omega) (by omega)
    have m22 : am_mn fz az (am_ud f5 11704 (am_or (f5 11704) 2)) a5 := am_mn_f rfl rfl rfl hm10
    have q23 := am_Rg11718 hI7.1.1
    have q24 := am_Rg11713 hI7.1.1
    exact am_ct164_107 hd J21 m22 (show (-2147483648 ≤ x1 ∧ x1 ≤ 2147483647) by omega) (show 0 ≤ x1 by omega) (show x1 ≤ 25 by omega) (show (f5 11718) = z18 by omega) (show 0 ≤ z18 by omega) (show (f5 11713) = z11713 by omega) (show (f5 11718) + (f5 11713) ≤ 15 by omega)
set_option maxRecDepth 100000 in
set_option maxHeartbeats 4000000 in
theorem am_ct164_31 {X : List Value} {w : Value} {e : Nat} {g : aF} {h : aA} {E : Nat → aF → aA → Prop} {d : Nat} {z18 : Int} {z11713 : Int} {fz : aF} {az : aA} {f : aF} {a : aA} {x1 : Int} (hd : 7 ≤ d + 1) (hI : am_RV g h f a) (hp0 : am_mn fz az f a) (hp1 : (-2147483648 ≤ x1 ∧ x1 ≤ 2147483647)) (hp2 : 0 ≤ x1) (hp3 : x1 ≤ 25) (hp4 : f 11718 = z18) (hp5 : 0 ≤ z18) (hp6 : f 11713 = z11713) (hp7 : f 11718 + f 11713 ≤ 15 + f 11701) :
    am_TE X (d + 1) am_m163 31 [(0, .ref 117), (1, am_iv x1)] [] f a w e (am_QV (fun f1 a1 => am_RV g h f1 a1 ∧ am_mn fz az f1 a1 ∧ z18 ≤ f1 11718 ∧ f1 11718 ≤ z18 + 1 ∧ z11713 ≤ f1 11713 ∧ f1 11713 ≤ z11713 + 16 * f1 11701)) E := by
  have q1 := am_RV_ph hI
  have q2 := am_RV_p0 hI
  have q3 := am_Rg11718 hI.1.1
  have q4 := am_Rg11713 hI.1.1
  have q5 := am_Rg11701 hI.1.1
  refine am_raload_n rfl rfl rfl ?_
  refine am_rgetf (S1 := [am_iv (f 11701)]) rfl rfl ?_
  refine am_rif_eq rfl rfl (by unfold am_rg; omega) (fun hc6 => ?_) (fun hc6 => ?_)
  · refine am_raload_n rfl rfl rfl ?_
    refine am_rgetf (S1 := [am_iv (f 11718)]) rfl rfl ?_
    refine am_rif_le rfl rfl (by unfold am_rg; omega) (fun hc7 => ?_) (fun hc7 => ?_)
    · refine am_raload_n rfl rfl rfl ?_
      have q8 := am_Rg11723 hI.1.1
      refine am_rgetf (S1 := [am_iv (f 11723)]) rfl rfl ?_
      refine am_rif_eq rfl rfl (by unfold am_rg; omega) (fun hc9 => ?_) (fun hc9 => ?_)
      · exact am_ct164_79 hd hI hp0 (by omega) (by omega) (by omega) (by omega) (by omega) (by omega) (by omega)
      · refine am_riload_n rfl rfl rfl ?_
        refine am_raload_n rfl rfl rfl ?_
        have q10 := am_Rg11724 hI.1.1
        refine am_rgetf (S1 := [am_iv (f 11724), am_iv x1]) rfl rfl ?_
        refine am_ric_eq rfl rfl (by unfold am_rg; omega) (by unfold am_rg; omega) (fun hc11 => ?_) (fun hc11 => ?_)
        · exact am_ct164_79 hd hI hp0 (by omega) (by omega) (by omega) (by omega) (by omega) (by omega) (by omega)
        · refine am_raload_n rfl rfl rfl ?_
          refine am_rdup rfl rfl ?_
          have q12 := am_Rg11704 hI.1.1
          refine am_rgetf (S1 := [am_iv (f 11704), .ref 117]) rfl rfl ?_
          refine am_riconst rfl ?_
          have q13 := am_or_rg (f 11704) 1
          refine am_rior rfl ?_
          refine am_rputf (S1 := []) (h1 := am_enc (am_ud f 11704 (am_or (f 11704) 1)) a w e) rfl (am_pfB rfl am_ge117 rfl (am_sf11704 _)) (by rw [am_enc_len, am_enc_len]) ?_
          have J14 := am_Rf11704 (v := am_or (f 11704) 1) hI (by omega) (by omega)
          have m15 : am_mn fz az (am_ud f 11704 (am_or (f 11704) 1)) a := am_mn_f rfl rfl rfl hp0
          exact am_ct164_79 hd J14 m15 (show (-2147483648 ≤ x1 ∧ x1 ≤ 2147483647) by omega) (show 0 ≤ x1 by omega) (show x1 ≤ 25 by omega) (show (f 11718) = z18 by omega) (show 0 ≤ z18 by omega) (show (f 11713) = z11713 by omega) (show (f 11718) + (f 11713) ≤ 15 by omega)
    · refine am_raload_n rfl rfl rfl ?_
      refine am_riload_n rfl rfl rfl ?_
      refine am_evirtualV (m := am_m162) (As := [.ref 117, am_iv x1]) (S1 := []) rfl rfl rfl rfl rfl rfl rfl rfl rfl rfl (am_TE.void (am_ct163 (y1 := x1) (by omega) hI (by omega) (show 1 ≤ (f 11718) by omega)) (fun f16 a16 hq17 => ?_) (fun _ _ _ h => h))
      obtain ⟨hI18, hk19, hq17⟩ := hq17
      replace hq17 : f16 11713 = ((f 11713)) ∧ f16 11709 = ((f 11709)) ∧ f16 11718 = ((f 11718)) ∧ f16 11741 = ((f 11741)) ∧ f16 11750 = ((f 11750)) ∧ f16 11753 = ((f 11753)) ∧ f16 11757 = ((f 11757)) ∧ f16 11763 = ((f 11763)) ∧ f16 11755 = ((f 11755)) := hq17
      have mm20 : f 11701 ≤ f16 11701 ∧ am_ph f a ≤ am_ph f16 a16 ∧ am_at (a 124) 0 ≤ am_at (a16 124) 0 ∧ am_at (a16 125) 0 = am_at (a 125) 0 := hk19
      have hm21 := am_mn.trans hp0 hk19
      refine am_rgoto rfl rfl ?_
      have q22 := am_Rg11701 hI18.1.1
      have q23 := am_Rg11718 hI18.1.1
      have q24 := am_Rg11713 hI18.1.1
      exact am_ct164_79 hd hI18 hm21 (by omega) (by omega) (by omega) (by omega) (by omega) (by omega) (by omega)
  · exact am_eret rfl rfl ⟨hI, hp0, (show z18 ≤ f 11718 by omega), (show f 11718 ≤ z18 + 1 by omega), (show z11713 ≤ f 11713 by omega), (show f 11713 ≤ z11713 + 16 * f 11701 by omega)⟩
set_option maxRecDepth 100000 in
set_option maxHeartbeats 4000000 in
theorem am_ct164 {X : List Value} {w : Value} {e : Nat} {g : aF} {h : aA} {E : Nat → aF → aA → Prop} {d : Nat} {f : aF} {a : aA} (hd : 7 ≤ d) (hI : am_RV g h f a) :
    am_TE X d am_m163 0 (lv_args 0 [.ref 117]) [] f a w e (am_QV (fun f1 a1 => am_RV g h f1 a1 ∧ am_mn f a f1 a1 ∧ (f 11718) ≤ f1 11718 ∧ f1 11718 ≤ (f 11718) + 1 ∧ (f 11713) ≤ f1 11713 ∧ f1 11713 ≤ (f 11713) + 16 * f1 11701)) E := by
  obtain ⟨d, rfl⟩ : ∃ d0, d = d0 + 1 := ⟨d - 1, by omega⟩
  have q1 := am_RV_ph hI
  have q2 := am_RV_p0 hI
  have q1 := hI.2.1
  refine am_raload_n rfl rfl rfl ?_
  refine am_evirtualI (m := am_m127) (As := [.ref 117]) (S1 := []) rfl rfl rfl rfl rfl rfl rfl rfl rfl rfl (am_TE.int (am_ct128  (by omega) hI) (fun b3 f3 a3 hq4 => ?_) (fun _ _ _ h => h))
  obtain ⟨hI5, hk6, hq4⟩ := hq4
  replace hq4 : (-2147483648 ≤ b3 ∧ b3 ≤ 2147483647) ∧ f3 11713 = ((f 11713)) ∧ (am_ph f a ) + 1 ≤ am_ph f3 a3 + 1 * (f3 11701) ∧ (am_at (a 124) 0) + 1 ≤ am_at (a3 124) 0 + 1 * (f3 11701) + 1 * ((f 11713)) ∧ (0 ≤ b3 ∧ b3 ≤ 25) := hq4
  have mm7 : f 11701 ≤ f3 11701 ∧ am_ph f a ≤ am_ph f3 a3 ∧ am_at (a 124) 0 ≤ am_at (a3 124) 0 ∧ am_at (a3 125) 0 = am_at (a 125) 0 := hk6.1
  have hm8 := am_mn.trans (am_mn.refl f a) hk6.1
  have t9 : f3 11718 = f 11718 := hk6.2.1 11718 rfl
  refine am_ristore_n (L1 := [(0, .ref 117), (1, am_iv b3)]) rfl rfl rfl rfl rfl ?_
  refine am_raload_n rfl rfl rfl ?_
  have q10 := am_Rg11701 hI5.1.1
  refine am_rgetf (S1 := [am_iv (f3 11701)]) rfl rfl ?_
  refine am_rif_ne rfl rfl (by unfold am_rg; omega) (fun hc11 => ?_) (fun hc11 => ?_)
  · have q12 := am_Rg11718 hI5.1.1
    have q13 := am_Rg11713 hI5.1.1
    exact am_ct164_31 hd hI5 hm8 (by omega) (by omega) (by omega) (by omega) (by omega) (by omega) (by omega)
  · refine am_raload_n rfl rfl rfl ?_
    have q14 := am_Rg11718 hI5.1.1
    refine am_rgetf (S1 := [am_iv (f3 11718)]) rfl rfl ?_
    refine am_raload_n rfl rfl rfl ?_
    have q15 := am_Rg11713 hI5.1.1
    refine am_rgetf (S1 := [am_iv (f3 11713), am_iv (f3 11718)]) rfl rfl ?_
    refine am_riadd rfl ?_
    refine am_rbipush rfl (by decide) ?_
    refine am_ric_ne rfl rfl (by unfold am_rg; omega) (by unfold am_rg; omega) (fun hc16 => ?_) (fun hc16 => ?_)
    · exact am_ct164_31 hd hI5 hm8 (by omega) (by omega) (by omega) (by omega) (by omega) (by omega) (by omega)
    · refine am_raload_n rfl rfl rfl ?_
      refine am_riconst rfl ?_
      refine am_evirtualV (m := am_m116) (As := [.ref 117, am_iv 2]) (S1 := []) rfl rfl rfl rfl rfl rfl rfl rfl rfl rfl (am_TE.void (am_ct117 (y1 := 2) (by omega) (by omega) (show 1 ≤ 2 by omega) (show 2 ≤ 3 by omega) (show 0 ≤ (f3 11701) by omega) (show (f3 11701) ≤ 3 by omega)) (fun f17 a17 hq18 => ?_) (fun _ _ _ h => h))
      obtain ⟨v19, rfl, rfl, hq18⟩ := hq18
      replace hq18 : 0 < v19 ∧ v19 ≤ 3 ∧ f3 11701 ≤ v19 := hq18
      have J20 := am_Rf11701 (v := v19) hI5 (by omega) (by omega)
      have m21 : am_mn f a (am_ud f3 11701 v19) a3 := am_mn.halt hm8 (by omega)
      exact am_ct164_31 hd J20 m21 (show (-2147483648 ≤ b3 ∧ b3 ≤ 2147483647) by omega) (show 0 ≤ b3 by omega) (show b3 ≤ 25 by omega) (show (f3 11718) = (f 11718) by omega) (show 0 ≤ (f 11718) by omega) (show (f3 11713) = (f 11713) by omega) (show (f3 11718) + (f3 11713) ≤ 15 + (v19) by omega)
set_option maxRecDepth 100000 in
set_option maxHeartbeats 4000000 in
theorem am_ct168 {X : List Value} {w : Value} {e : Nat} {g : aF} {h : aA} {E : Nat → aF → aA → Prop} {d : Nat} {f : aF} {a : aA} (hd : 4 ≤ d) (hI : am_RV g h f a) (hp0 : 1 ≤ f 11718) :
    am_TE X d am_m167 0 (lv_args 0 [.ref 117]) [] f a w e (am_QV (fun f1 a1 => am_RV g h f1 a1 ∧ am_mn f a f1 a1 ∧ f1 11713 = (f 11713) ∧ (f 11718) - 1 ≤ f1 11718 ∧ f1 11718 ≤ (f 11718))) E := by
  obtain ⟨d, rfl⟩ : ∃ d0, d = d0 + 1 := ⟨d - 1, by omega⟩
  have q1 := am_RV_ph hI
  have q2 := am_RV_p0 hI
  have q3 := am_Rg11718 hI.1.1
  refine am_raload_n rfl rfl rfl ?_
  refine am_rgetf (S1 := [.ref 129]) rfl rfl ?_
  refine am_raload_n rfl rfl rfl ?_
  refine am_rgetf (S1 := [am_iv (f 11718), .ref 129]) rfl rfl ?_
  refine am_riconst rfl ?_
  refine am_risub rfl ?_
  have q4 : (a 129).length = 20 := am_Rl129 (am_RL 129 rfl hI.1.1)
  have i5 : am_ib (a 129) ((f 11718) - 1) := by unfold am_ib; omega
  have q6 := am_Rb129 (am_RL 129 rfl hI.1.1) i5
  refine am_riaload (l := a 129) rfl am_ge129 i5 ?_
  refine am_raload_n rfl rfl rfl ?_
  have q7 := am_Rg11713 hI.1.1
  refine am_rgetf (S1 := [am_iv (f 11713), am_iv (am_at (a 129) ((f 11718) - 1))]) rfl rfl ?_
  refine am_ric_eq rfl rfl (by unfold am_rg; omega) (by unfold am_rg; omega) (fun hc8 => ?_) (fun hc8 => ?_)
  · refine am_raload_n rfl rfl rfl ?_
    refine am_rbipush rfl (by decide) ?_
    refine am_raload_n rfl rfl rfl ?_
    refine am_rgetf (S1 := [.ref 128, am_iv 97, .ref 117]) rfl rfl ?_
    refine am_raload_n rfl rfl rfl ?_
    refine am_rgetf (S1 := [am_iv (f 11718), .ref 128, am_iv 97, .ref 117]) rfl rfl ?_
    refine am_riconst rfl ?_
    refine am_risub rfl ?_
    have q9 : (a 128).length = 20 := am_Rl128 (am_RL 128 rfl hI.1.1)
    have i10 : am_ib (a 128) ((f 11718) - 1) := by unfold am_ib; omega
    have q11 := am_Rb128 (am_RL 128 rfl hI.1.1) i10
    refine am_riaload (l := a 128) rfl am_ge128 i10 ?_
    refine am_riadd rfl ?_
    refine am_evirtualV (m := am_m123) (As := [.ref 117, am_iv (97 + (am_at (a 128) ((f 11718) - 1)))]) (S1 := []) rfl rfl rfl rfl rfl rfl rfl rfl rfl rfl (am_TE.void (am_ct124 (y1 := (97 + (am_at (a 128) ((f 11718) - 1)))) (by omega) hI (by omega) (show 0 ≤ (97 + (am_at (a 128) (((f 11718)) - 1))) by omega)) (fun f12 a12 hq13 => ?_) (fun _ _ _ h => h))
    obtain ⟨hI14, hk15, hq13⟩ := hq13
    replace hq13 : f12 11713 = ((f 11713)) ∧ (am_ph f a ) + 1 ≤ am_ph f12 a12 + 1 * (f12 11701) ∧ (am_at (a 124) 0) + 1 ≤ am_at (a12 124) 0 + 1 * (f12 11701) + 1 * ((f 11713)) := hq13
    have mm16 : f 11701 ≤ f12 11701 ∧ am_ph f a ≤ am_ph f12 a12 ∧ am_at (a 124) 0 ≤ am_at (a12 124) 0 ∧ am_at (a12 125) 0 = am_at (a 125) 0 := hk15.1
    have hm17 := am_mn.trans (am_mn.refl f a) hk15.1
    have t18 : f12 11718 = f 11718 := hk15.2.1 11718 rfl
    refine am_raload_n rfl rfl rfl ?_
    refine am_evirtualI (m := am_m125) (As := [.ref 117]) (S1 := []) rfl rfl rfl rfl rfl rfl rfl rfl rfl rfl (am_TE.int (am_ct126  (by omega) hI14) (fun b19 f19 a19 hq20 => ?_) (fun _ _ _ h => h))
    obtain ⟨hI21, hk22, hq20⟩ := hq20
    replace hq20 : (b19 = 0 ∨ b19 = 1) ∧ f19 11701 = ((f12 11701)) ∧ f19 11713 = ((f12 11713)) ∧ f19 11701 ≤ 3 - 3 * b19 ∧ (am_ph f12 a12 ) + b19 ≤ am_ph f19 a19 ∧ (am_at (a12 124) 0) + b19 ≤ am_at (a19 124) 0 + ((f12 11713)) := hq20
    have mm23 : f12 11701 ≤ f19 11701 ∧ am_ph f12 a12 ≤ am_ph f19 a19 ∧ am_at (a12 124) 0 ≤ am_at (a19 124) 0 ∧ am_at (a19 125) 0 = am_at (a12 125) 0 := hk22.1
    have hm24 := am_mn.trans hm17 hk22.1
    have t25 : f19 11718 = f12 11718 := hk22.2.1 11718 rfl
    refine am_rpop rfl rfl ?_
    refine am_raload_n rfl rfl rfl ?_
    refine am_rbipush rfl (by decide) ?_
    refine am_evirtualV (m := am_m123) (As := [.ref 117, am_iv 62]) (S1 := []) rfl rfl rfl rfl rfl rfl rfl rfl rfl rfl (am_TE.void (am_ct124 (y1 := 62) (by omega) hI21 (by omega) (show 0 ≤ 62 by omega)) (fun f26 a26 hq27 => ?_) (fun _ _ _ h => h))
    obtain ⟨hI28, hk29, hq27⟩ := hq27
    replace hq27 : f26 11713 = ((f19 11713)) ∧ (am_ph f19 a19 ) + 1 ≤ am_ph f26 a26 + 1 * (f26 11701) ∧ (am_at (a19 124) 0) + 1 ≤ am_at (a26 124) 0 + 1 * (f26 11701) + 1 * ((f19 11713)) := hq27
    have mm30 : f19 11701 ≤ f26 11701 ∧ am_ph f19 a19 ≤ am_ph f26 a26 ∧ am_at (a19 124) 0 ≤ am_at (a26 124) 0 ∧ am_at (a26 125) 0 = am_at (a19 125) 0 := hk29.1
    have hm31 := am_mn.trans hm24 hk29.1
    have t32 : f26 11718 = f19 11718 := hk29.2.1 11718 rfl
    refine am_raload_n rfl rfl rfl ?_
    have q33 := am_Rg11701 hI28.1.1
    have q34 := am_Rg11718 hI28.1.1
    refine am_evirtualV (m := am_m166) (As := [.ref 117]) (S1 := []) rfl rfl rfl rfl rfl rfl rfl rfl rfl rfl (am_TE.void (am_ct167  (by omega) hI28 (show 1 ≤ (f26 11718) + (f26 11701) by omega)) (fun f35 a35 hq36 => ?_) (fun _ _ _ h => h))
    obtain ⟨hI37, hk38, hq36⟩ := hq36
    replace hq36 : f35 11713 = ((f26 11713)) ∧ f35 11709 = ((f26 11709)) ∧ f35 11741 = ((f26 11741)) ∧ f35 11750 = ((f26 11750)) ∧ f35 11753 = ((f26 11753)) ∧ ((f26 11718)) - 1 ≤ f35 11718 ∧ f35 11718 ≤ ((f26 11718)) := hq36
    have mm39 : f26 11701 ≤ f35 11701 ∧ am_ph f26 a26 ≤ am_ph f35 a35 ∧ am_at (a26 124) 0 ≤ am_at (a35 124) 0 ∧ am_at (a35 125) 0 = am_at (a26 125) 0 := hk38
    have hm40 := am_mn.trans hm31 hk38
    have q41 := am_Rg11701 hI37.1.1
    have q42 := am_Rg11713 hI37.1.1
    have q43 := am_Rg11718 hI37.1.1
    exact am_eret rfl rfl ⟨hI37, hm40, (show f35 11713 = (f 11713) by omega), (show (f 11718) - 1 ≤ f35 11718 by omega), (show f35 11718 ≤ (f 11718) by omega)⟩
  · refine am_raload_n rfl rfl rfl ?_
    refine am_riconst rfl ?_
    have q44 := am_Rg11701 hI.1.1
    refine am_evirtualV (m := am_m116) (As := [.ref 117, am_iv 1]) (S1 := []) rfl rfl rfl rfl rfl rfl rfl rfl rfl rfl (am_TE.void (am_ct117 (y1 := 1) (by omega) (by omega) (show 1 ≤ 1 by omega) (show 1 ≤ 3 by omega) (show 0 ≤ (f 11701) by omega) (show (f 11701) ≤ 3 by omega)) (fun f45 a45 hq46 => ?_) (fun _ _ _ h => h))
    obtain ⟨v47, rfl, rfl, hq46⟩ := hq46
    replace hq46 : 0 < v47 ∧ v47 ≤ 3 ∧ f 11701 ≤ v47 := hq46
    refine am_raload_n rfl rfl rfl ?_
    refine am_rbipush rfl (by decide) ?_
    refine am_raload_n rfl rfl rfl ?_
    refine am_rgetf (S1 := [.ref 128, am_iv 97, .ref 117]) rfl rfl ?_
    refine am_raload_n rfl rfl rfl ?_
    refine am_rgetf (S1 := [am_iv (f 11718), .ref 128, am_iv 97, .ref 117]) rfl rfl ?_
    refine am_riconst rfl ?_
    refine am_risub rfl ?_
    have q48 : (a 128).length = 20 := am_Rl128 (am_RL 128 rfl hI.1.1)
    have i49 : am_ib (a 128) ((f 11718) - 1) := by unfold am_ib; omega
    have q50 := am_Rb128 (am_RL 128 rfl hI.1.1) i49
    refine am_riaload (l := a 128) rfl am_ge128 i49 ?_
    refine am_riadd rfl ?_
    have J51 := am_Rf11701 (v := v47) hI (by omega) (by omega)
    refine am_evirtualV (m := am_m123) (As := [.ref 117, am_iv (97 + (am_at (a 128) ((f 11718) - 1)))]) (S1 := []) rfl rfl rfl rfl rfl rfl rfl rfl rfl rfl (am_TE.void (am_ct124 (y1 := (97 + (am_at (a 128) ((f 11718) - 1)))) (by omega) J51 (by omega) (show 0 ≤ (97 + (am_at (a 128) (((f 11718)) - 1))) by omega)) (fun f52 a52 hq53 => ?_) (fun _ _ _ h => h))
    have m56 : am_mn f a (am_ud f 11701 v47) a := am_mn.halt (am_mn.refl f a) (by omega)
    obtain ⟨hI54, hk55, hq53⟩ := hq53
    replace hq53 : f52 11713 = ((f 11713)) ∧ (am_ph f a ) + 1 ≤ am_ph f52 a52 + 1 * (f52 11701) ∧ (am_at (a 124) 0) + 1 ≤ am_at (a52 124) 0 + 1 * (f52 11701) + 1 * ((f 11713)) := hq53
    have mm57 : v47 ≤ f52 11701 ∧ am_ph f a ≤ am_ph f52 a52 ∧ am_at (a 124) 0 ≤ am_at (a52 124) 0 ∧ am_at (a52 125) 0 = am_at (a 125) 0 := hk55.1
    have hm58 := am_mn.trans m56 hk55.1
    have t59 : f52 11718 = f 11718 := hk55.2.1 11718 rfl
    refine am_raload_n rfl rfl rfl ?_
    refine am_evirtualI (m := am_m125) (As := [.ref 117]) (S1 := []) rfl rfl rfl rfl rfl rfl rfl rfl rfl rfl (am_TE.int (am_ct126  (by omega) hI54) (fun b60 f60 a60 hq61 => ?_) (fun _ _ _ h => h))
    obtain ⟨hI62, hk63, hq61⟩ := hq61
    replace hq61 : (b60 = 0 ∨ b60 = 1) ∧ f60 11701 = ((f52 11701)) ∧ f60 11713 = ((f52 11713)) ∧ f60 11701 ≤ 3 - 3 * b60 ∧ (am_ph f52 a52 ) + b60 ≤ am_ph f60 a60 ∧ (am_at (a52 124) 0) + b60 ≤ am_at (a60 124) 0 + ((f52 11713)) := hq61
    have mm64 : f52 11701 ≤ f60 11701 ∧ am_ph f52 a52 ≤ am_ph f60 a60 ∧ am_at (a52 124) 0 ≤ am_at (a60 124) 0 ∧ am_at (a60 125) 0 = am_at (a52 125) 0 := hk63.1
    have hm65 := am_mn.trans hm58 hk63.1
    have t66 : f60 11718 = f52 11718 := hk63.2.1 11718 rfl
    refine am_rpop rfl rfl ?_
    refine am_raload_n rfl rfl rfl ?_
    refine am_rbipush rfl (by decide) ?_
    refine am_evirtualV (m := am_m123) (As := [.ref 117, am_iv 62]) (S1 := []) rfl rfl rfl rfl rfl rfl rfl rfl rfl rfl (am_TE.void (am_ct124 (y1 := 62) (by omega) hI62 (by omega) (show 0 ≤ 62 by omega)) (fun f67 a67 hq68 => ?_) (fun _ _ _ h => h))
    obtain ⟨hI69, hk70, hq68⟩ := hq68
    replace hq68 : f67 11713 = ((f60 11713)) ∧ (am_ph f60 a60 ) + 1 ≤ am_ph f67 a67 + 1 * (f67 11701) ∧ (am_at (a60 124) 0) + 1 ≤ am_at (a67 124) 0 + 1 * (f67 11701) + 1 * ((f60 11713)) := hq68
    have mm71 : f60 11701 ≤ f67 11701 ∧ am_ph f60 a60 ≤ am_ph f67 a67 ∧ am_at (a60 124) 0 ≤ am_at (a67 124) 0 ∧ am_at (a67 125) 0 = am_at (a60 125) 0 := hk70.1
    have hm72 := am_mn.trans hm65 hk70.1
    have t73 : f67 11718 = f60 11718 := hk70.2.1 11718 rfl
    refine am_raload_n rfl rfl rfl ?_
    have q74 := am_Rg11701 hI69.1.1
    have q75 := am_Rg11718 hI69.1.1
    refine am_evirtualV (m := am_m166) (As := [.ref 117]) (S1 := []) rfl rfl rfl rfl rfl rfl rfl rfl rfl rfl (am_TE.void (am_ct167  (by omega) hI69 (show 1 ≤ (f67 11718) + (f67 11701) by omega)) (fun f76 a76 hq77 => ?_) (fun _ _ _ h => h))
    obtain ⟨hI78, hk79, hq77⟩ := hq77
    replace hq77 : f76 11713 = ((f67 11713)) ∧ f76 11709 = ((f67 11709)) ∧ f76 11741 = ((f67 11741)) ∧ f76 11750 = ((f67 11750)) ∧ f76 11753 = ((f67 11753)) ∧ ((f67 11718)) - 1 ≤ f76 11718 ∧ f76 11718 ≤ ((f67 11718)) := hq77
    have mm80 : f67 11701 ≤ f76 11701 ∧ am_ph f67 a67 ≤ am_ph f76 a76 ∧ am_at (a67 124) 0 ≤ am_at (a76 124) 0 ∧ am_at (a76 125) 0 = am_at (a67 125) 0 := hk79
    have hm81 := am_mn.trans hm72 hk79
    have q82 := am_Rg11701 hI78.1.1
    have q83 := am_Rg11713 hI78.1.1
    have q84 := am_Rg11718 hI78.1.1
    exact am_eret rfl rfl ⟨hI78, hm81, (show f76 11713 = (f 11713) by omega), (show (f 11718) - 1 ≤ f76 11718 by omega), (show f76 11718 ≤ (f 11718) by omega)⟩
set_option maxRecDepth 100000 in
set_option maxHeartbeats 4000000 in
theorem am_ct169 {X : List Value} {w : Value} {e : Nat} {g : aF} {h : aA} {E : Nat → aF → aA → Prop} {d : Nat} {f : aF} {a : aA} (hd : 8 ≤ d) (hI : am_RV g h f a) (hp0 : 1 ≤ f 11718) (hp1 : f 11701 = 0) :
    am_TE X d am_m168 0 (lv_args 0 [.ref 117]) [] f a w e (am_QV (fun f1 a1 => am_RV g h f1 a1 ∧ am_mn f a f1 a1 ∧ 200 * ((am_ph f a) - am_ph f1 a1) + 8 * (f1 11713 - (f 11713)) - f1 11701 < 0)) E := by
  obtain ⟨d, rfl⟩ : ∃ d0, d = d0 + 1 := ⟨d - 1, by omega⟩
  have q1 := am_RV_ph hI
  have q2 := am_RV_p0 hI
  have q3 := am_Rg11718 hI.1.1
  have q4 := am_Rg11701 hI.1.1
  have k13 := am_Rg11713 hI.1.1
  refine am_raload_n rfl rfl rfl ?_
  refine am_evirtualI (m := am_m121) (As := [.ref 117]) (S1 := []) rfl rfl rfl rfl rfl rfl rfl rfl rfl rfl (am_TE.int (am_ct122  (by omega) hI) (fun b5 f5 a5 hq6 => ?_) (fun _ _ _ h => h))
  obtain ⟨rfl, rfl, hq6⟩ := hq6
  refine am_ristore_n (L1 := [(0, .ref 117), (1, am_iv b5)]) rfl rfl rfl rfl rfl ?_
  refine am_riload_n rfl rfl rfl ?_
  refine am_rif_ge rfl rfl (by unfold am_rg; omega) (fun hc7 => ?_) (fun hc7 => ?_)
  · refine am_raload_n rfl rfl rfl ?_
    have ok8 : f 11701 = 0 ∧ am_at (a 124) (f 11713) < am_at (a 125) (f 11713) := am_PK.ok hq6.2.2.1 (by omega)
    have q9 := am_Rg11713 hI.1.1
    refine am_evirtualV (m := am_m122) (As := [.ref 117]) (S1 := []) rfl rfl rfl rfl rfl rfl rfl rfl rfl rfl (am_TE.void (am_ct123  (by omega) hI (show am_at (a 124) ((f 11713)) < am_at (a 125) ((f 11713)) by omega)) (fun f10 a10 hq11 => ?_) (fun _ _ _ h => h))
    obtain ⟨hI12, hk13, hq11⟩ := hq11
    replace hq11 : f10 11701 = ((f 11701)) ∧ f10 11713 = ((f 11713)) ∧ am_ph f10 a10 = (am_ph f a ) + 1 ∧ (((f 11713)) = 0 → am_at (a10 124) 0 = (am_at (a 124) 0) + 1) := hq11
    have mm14 : f 11701 ≤ f10 11701 ∧ am_ph f a ≤ am_ph f10 a10 ∧ am_at (a 124) 0 ≤ am_at (a10 124) 0 ∧ am_at (a10 125) 0 = am_at (a 125) 0 := hk13.1
    have hm15 := am_mn.trans (am_mn.refl f a) hk13.1
    have t16 : f10 11718 = f 11718 := hk13.2.1 11718 rfl
    refine am_riload_n rfl rfl rfl ?_
    refine am_rbipush rfl (by decide) ?_
    refine am_ric_ne rfl rfl (by unfold am_rg; omega) (by unfold am_rg; omega) (fun hc17 => ?_) (fun hc17 => ?_)
    · refine am_riload_n rfl rfl rfl ?_
      refine am_rbipush rfl (by decide) ?_
      refine am_ric_ne rfl rfl (by unfold am_rg; omega) (by unfold am_rg; omega) (fun hc18 => ?_) (fun hc18 => ?_)
      · refine am_riload_n rfl rfl rfl ?_
        refine am_rbipush rfl (by decide) ?_
        refine am_ric_ne rfl rfl (by unfold am_rg; omega) (by unfold am_rg; omega) (fun hc19 => ?_) (fun hc19 => ?_)
        · refine am_riload_n rfl rfl rfl ?_
          refine am_rbipush rfl (by decide) ?_
          refine am_ric_ne rfl rfl (by unfold am_rg; omega) (by unfold am_rg; omega) (fun hc20 => ?_) (fun hc20 => ?_)
          · refine am_riload_n rfl rfl rfl ?_
            refine am_ristore_n (L1 := [(0, .ref 117), (1, am_iv b5), (2, am_iv b5)]) rfl rfl rfl rfl rfl ?_
            refine am_riload_n rfl rfl rfl ?_
            refine am_rif_lt rfl rfl (by unfold am_rg; omega) (fun hc21 => ?_) (fun hc21 => ?_)
            · have q22 := am_Rg11701 hI12.1.1
              have q23 := am_Rg11713 hI12.1.1
              exact am_eret rfl rfl ⟨hI12, hm15, (show 200 * ((am_ph f a) - am_ph f10 a10) + 8 * (f10 11713 - (f 11713)) - f10 11701 < 0 by omega)⟩
            · refine am_raload_n rfl rfl rfl ?_
              have q24 := am_Rg11701 hI12.1.1
              refine am_rgetf (S1 := [am_iv (f10 11701)]) rfl rfl ?_
              refine am_rif_ne rfl rfl (by unfold am_rg; omega) (fun hc25 => ?_) (fun hc25 => ?_)
              · have q26 := am_Rg11713 hI12.1.1
                exact am_eret rfl rfl ⟨hI12, hm15, (show 200 * ((am_ph f a) - am_ph f10 a10) + 8 * (f10 11713 - (f 11713)) - f10 11701 < 0 by omega)⟩
              · refine am_raload_n rfl rfl rfl ?_
                refine am_riload_n rfl rfl rfl ?_
                have q27 := am_Rg11718 hI12.1.1
                refine am_evirtualV (m := am_m157) (As := [.ref 117, am_iv b5]) (S1 := []) rfl rfl rfl rfl rfl rfl rfl rfl rfl rfl (am_TE.void (am_ct158 (y1 := b5) (by omega) hI12 (by omega) (show 1 ≤ (f10 11718) by omega)) (fun f28 a28 hq29 => ?_) (fun _ _ _ h => h))
                obtain ⟨hI30, hk31, hq29⟩ := hq29
                replace hq29 : f28 11713 = ((f10 11713)) ∧ f28 11718 = ((f10 11718)) ∧ f28 11709 = ((f10 11709)) ∧ f28 11741 = ((f10 11741)) ∧ f28 11750 = ((f10 11750)) ∧ f28 11753 = ((f10 11753)) ∧ f28 11755 = ((f10 11755)) := hq29
                have mm32 : f10 11701 ≤ f28 11701 ∧ am_ph f10 a10 ≤ am_ph f28 a28 ∧ am_at (a10 124) 0 ≤ am_at (a28 124) 0 ∧ am_at (a28 125) 0 = am_at (a10 125) 0 := hk31
                have hm33 := am_mn.trans hm15 hk31
                have q34 := am_Rg11701 hI30.1.1
                have q35 := am_Rg11713 hI30.1.1
                exact am_eret rfl rfl ⟨hI30, hm33, (show 200 * ((am_ph f a) - am_ph f28 a28) + 8 * (f28 11713 - (f 11713)) - f28 11701 < 0 by omega)⟩
          · refine am_raload_n rfl rfl rfl ?_
            refine am_evirtualI (m := am_m131) (As := [.ref 117]) (S1 := []) rfl rfl rfl rfl rfl rfl rfl rfl rfl rfl (am_TE.int (am_ct132  (by omega) hI12) (fun b36 f36 a36 hq37 => ?_) (fun _ _ _ h => h))
            obtain ⟨hI38, hk39, hq37⟩ := hq37
            replace hq37 : (-2147483648 ≤ b36 ∧ b36 ≤ 2147483647) ∧ -1 ≤ b36 ∧ ((f10 11713)) ≤ f36 11713 ∧ f36 11713 ≤ ((f10 11713)) + 1 := hq37
            have mm40 : f10 11701 ≤ f36 11701 ∧ am_ph f10 a10 ≤ am_ph f36 a36 ∧ am_at (a10 124) 0 ≤ am_at (a36 124) 0 ∧ am_at (a36 125) 0 = am_at (a10 125) 0 := hk39.1
            have hm41 := am_mn.trans hm15 hk39.1
            have t42 : f36 11718 = f10 11718 := hk39.2.1 11718 rfl
            refine am_rgoto rfl rfl ?_
            refine am_ristore_n (L1 := [(0, .ref 117), (1, am_iv b5), (2, am_iv b36)]) rfl rfl rfl rfl rfl ?_
            refine am_riload_n rfl rfl rfl ?_
            refine am_rif_lt rfl rfl (by unfold am_rg; omega) (fun hc43 => ?_) (fun hc43 => ?_)
            · have q44 := am_Rg11701 hI38.1.1
              have q45 := am_Rg11713 hI38.1.1
              exact am_eret rfl rfl ⟨hI38, hm41, (show 200 * ((am_ph f a) - am_ph f36 a36) + 8 * (f36 11713 - (f 11713)) - f36 11701 < 0 by omega)⟩
            · refine am_raload_n rfl rfl rfl ?_
              have q46 := am_Rg11701 hI38.1.1
              refine am_rgetf (S1 := [am_iv (f36 11701)]) rfl rfl ?_
              refine am_rif_ne rfl rfl (by unfold am_rg; omega) (fun hc47 => ?_) (fun hc47 => ?_)
              · have q48 := am_Rg11713 hI38.1.1
                exact am_eret rfl rfl ⟨hI38, hm41, (show 200 * ((am_ph f a) - am_ph f36 a36) + 8 * (f36 11713 - (f 11713)) - f36 11701 < 0 by omega)⟩
              · refine am_raload_n rfl rfl rfl ?_
                refine am_riload_n rfl rfl rfl ?_
                have q49 := am_Rg11718 hI38.1.1
                refine am_evirtualV (m := am_m157) (As := [.ref 117, am_iv b36]) (S1 := []) rfl rfl rfl rfl rfl rfl rfl rfl rfl rfl (am_TE.void (am_ct158 (y1 := b36) (by omega) hI38 (by omega) (show 1 ≤ (f36 11718) by omega)) (fun f50 a50 hq51 => ?_) (fun _ _ _ h => h))
                obtain ⟨hI52, hk53, hq51⟩ := hq51
                replace hq51 : f50 11713 = ((f36 11713)) ∧ f50 11718 = ((f36 11718)) ∧ f50 11709 = ((f36 11709)) ∧ f50 11741 = ((f36 11741)) ∧ f50 11750 = ((f36 11750)) ∧ f50 11753 = ((f36 11753)) ∧ f50 11755 = ((f36 11755)) := hq51
                have mm54 : f36 11701 ≤ f50 11701 ∧ am_ph f36 a36 ≤ am_ph f50 a50 ∧ am_at (a36 124) 0 ≤ am_at (a50 124) 0 ∧ am_at (a50 125) 0 = am_at (a36 125) 0 := hk53
                have hm55 := am_mn.trans hm41 hk53
                have q56 := am_Rg11701 hI52.1.1
                have q57 := am_Rg11713 hI52.1.1
                exact am_eret rfl rfl ⟨hI52, hm55, (show 200 * ((am_ph f a) - am_ph f50 a50) + 8 * (f50 11713 - (f 11713)) - f50 11701 < 0 by omega)⟩
        · refine am_raload_n rfl rfl rfl ?_
          refine am_evirtualV (m := am_m163) (As := [.ref 117]) (S1 := []) rfl rfl rfl rfl rfl rfl rfl rfl rfl rfl (am_TE.void (am_ct164  (by omega) hI12) (fun f58 a58 hq59 => ?_) (fun _ _ _ h => h))
          obtain ⟨hI60, hk61, hq59⟩ := hq59
          replace hq59 : ((f10 11718)) ≤ f58 11718 ∧ f58 11718 ≤ ((f10 11718)) + 1 ∧ ((f10 11713)) ≤ f58 11713 ∧ f58 11713 ≤ ((f10 11713)) + 16 * f58 11701 := hq59
          have mm62 : f10 11701 ≤ f58 11701 ∧ am_ph f10 a10 ≤ am_ph f58 a58 ∧ am_at (a10 124) 0 ≤ am_at (a58 124) 0 ∧ am_at (a58 125) 0 = am_at (a10 125) 0 := hk61
          have hm63 := am_mn.trans hm15 hk61
          refine am_rgoto rfl rfl ?_
          have q64 := am_Rg11701 hI60.1.1
          have q65 := am_Rg11713 hI60.1.1
          exact am_eret rfl rfl ⟨hI60, hm63, (show 200 * ((am_ph f a) - am_ph f58 a58) + 8 * (f58 11713 - (f 11713)) - f58 11701 < 0 by omega)⟩
      · refine am_raload_n rfl rfl rfl ?_
        refine am_evirtualI (m := am_m121) (As := [.ref 117]) (S1 := []) rfl rfl rfl rfl rfl rfl rfl rfl rfl rfl (am_TE.int (am_ct122  (by omega) hI12) (fun b66 f66 a66 hq67 => ?_) (fun _ _ _ h => h))
        obtain ⟨rfl, rfl, hq67⟩ := hq67
        refine am_rbipush rfl (by decide) ?_
        refine am_ric_ne rfl rfl (by unfold am_rg; omega) (by unfold am_rg; omega) (fun hc68 => ?_) (fun hc68 => ?_)
        · refine am_riload_n rfl rfl rfl ?_
          refine am_rbipush rfl (by decide) ?_
          refine am_ric_ne rfl rfl (by unfold am_rg; omega) (by unfold am_rg; omega) (fun hc69 => ?_) (fun hc69 => ?_)
          · refine am_riload_n rfl rfl rfl ?_
            refine am_rbipush rfl (by decide) ?_
            refine am_ric_ne rfl rfl (by unfold am_rg; omega) (by unfold am_rg; omega) (fun hc70 => ?_) (fun hc70 => ?_)
            · refine am_riload_n rfl rfl rfl ?_
              refine am_ristore_n (L1 := [(0, .ref 117), (1, am_iv b5), (2, am_iv b5)]) rfl rfl rfl rfl rfl ?_
              refine am_riload_n rfl rfl rfl ?_
              refine am_rif_lt rfl rfl (by unfold am_rg; omega) (fun hc71 => ?_) (fun hc71 => ?_)
              · have q72 := am_Rg11701 hI12.1.1
                have q73 := am_Rg11713 hI12.1.1
                exact am_eret rfl rfl ⟨hI12, hm15, (show 200 * ((am_ph f a) - am_ph f10 a10) + 8 * (f10 11713 - (f 11713)) - f10 11701 < 0 by omega)⟩
              · refine am_raload_n rfl rfl rfl ?_
                have q74 := am_Rg11701 hI12.1.1
                refine am_rgetf (S1 := [am_iv (f10 11701)]) rfl rfl ?_
                refine am_rif_ne rfl rfl (by unfold am_rg; omega) (fun hc75 => ?_) (fun hc75 => ?_)
                · have q76 := am_Rg11713 hI12.1.1
                  exact am_eret rfl rfl ⟨hI12, hm15, (show 200 * ((am_ph f a) - am_ph f10 a10) + 8 * (f10 11713 - (f 11713)) - f10 11701 < 0 by omega)⟩
                · refine am_raload_n rfl rfl rfl ?_
                  refine am_riload_n rfl rfl rfl ?_
                  have q77 := am_Rg11718 hI12.1.1
                  refine am_evirtualV (m := am_m157) (As := [.ref 117, am_iv b5]) (S1 := []) rfl rfl rfl rfl rfl rfl rfl rfl rfl rfl (am_TE.void (am_ct158 (y1 := b5) (by omega) hI12 (by omega) (show 1 ≤ (f10 11718) by omega)) (fun f78 a78 hq79 => ?_) (fun _ _ _ h => h))
                  obtain ⟨hI80, hk81, hq79⟩ := hq79
                  replace hq79 : f78 11713 = ((f10 11713)) ∧ f78 11718 = ((f10 11718)) ∧ f78 11709 = ((f10 11709)) ∧ f78 11741 = ((f10 11741)) ∧ f78 11750 = ((f10 11750)) ∧ f78 11753 = ((f10 11753)) ∧ f78 11755 = ((f10 11755)) := hq79
                  have mm82 : f10 11701 ≤ f78 11701 ∧ am_ph f10 a10 ≤ am_ph f78 a78 ∧ am_at (a10 124) 0 ≤ am_at (a78 124) 0 ∧ am_at (a78 125) 0 = am_at (a10 125) 0 := hk81
                  have hm83 := am_mn.trans hm15 hk81
                  have q84 := am_Rg11701 hI80.1.1
                  have q85 := am_Rg11713 hI80.1.1
                  exact am_eret rfl rfl ⟨hI80, hm83, (show 200 * ((am_ph f a) - am_ph f78 a78) + 8 * (f78 11713 - (f 11713)) - f78 11701 < 0 by omega)⟩
            · refine am_raload_n rfl rfl rfl ?_
              refine am_evirtualI (m := am_m131) (As := [.ref 117]) (S1 := []) rfl rfl rfl rfl rfl rfl rfl rfl rfl rfl (am_TE.int (am_ct132  (by omega) hI12) (fun b86 f86 a86 hq87 => ?_) (fun _ _ _ h => h))
              obtain ⟨hI88, hk89, hq87⟩ := hq87
              replace hq87 : (-2147483648 ≤ b86 ∧ b86 ≤ 2147483647) ∧ -1 ≤ b86 ∧ ((f10 11713)) ≤ f86 11713 ∧ f86 11713 ≤ ((f10 11713)) + 1 := hq87
              have mm90 : f10 11701 ≤ f86 11701 ∧ am_ph f10 a10 ≤ am_ph f86 a86 ∧ am_at (a10 124) 0 ≤ am_at (a86 124) 0 ∧ am_at (a86 125) 0 = am_at (a10 125) 0 := hk89.1
              have hm91 := am_mn.trans hm15 hk89.1
              have t92 : f86 11718 = f10 11718 := hk89.2.1 11718 rfl
              refine am_rgoto rfl rfl ?_
              refine am_ristore_n (L1 := [(0, .ref 117), (1, am_iv b5), (2, am_iv b86)]) rfl rfl rfl rfl rfl ?_
              refine am_riload_n rfl rfl rfl ?_
              refine am_rif_lt rfl rfl (by unfold am_rg; omega) (fun hc93 => ?_) (fun hc93 => ?_)
              · have q94 := am_Rg11701 hI88.1.1
                have q95 := am_Rg11713 hI88.1.1
                exact am_eret rfl rfl ⟨hI88, hm91, (show 200 * ((am_ph f a) - am_ph f86 a86) + 8 * (f86 11713 - (f 11713)) - f86 11701 < 0 by omega)⟩
              · refine am_raload_n rfl rfl rfl ?_
                have q96 := am_Rg11701 hI88.1.1
                refine am_rgetf (S1 := [am_iv (f86 11701)]) rfl rfl ?_
                refine am_rif_ne rfl rfl (by unfold am_rg; omega) (fun hc97 => ?_) (fun hc97 => ?_)
                · have q98 := am_Rg11713 hI88.1.1
                  exact am_eret rfl rfl ⟨hI88, hm91, (show 200 * ((am_ph f a) - am_ph f86 a86) + 8 * (f86 11713 - (f 11713)) - f86 11701 < 0 by omega)⟩
                · refine am_raload_n rfl rfl rfl ?_
                  refine am_riload_n rfl rfl rfl ?_
                  have q99 := am_Rg11718 hI88.1.1
                  refine am_evirtualV (m := am_m157) (As := [.ref 117, am_iv b86]) (S1 := []) rfl rfl rfl rfl rfl rfl rfl rfl rfl rfl (am_TE.void (am_ct158 (y1 := b86) (by omega) hI88 (by omega) (show 1 ≤ (f86 11718) by omega)) (fun f100 a100 hq101 => ?_) (fun _ _ _ h => h))
                  obtain ⟨hI102, hk103, hq101⟩ := hq101
                  replace hq101 : f100 11713 = ((f86 11713)) ∧ f100 11718 = ((f86 11718)) ∧ f100 11709 = ((f86 11709)) ∧ f100 11741 = ((f86 11741)) ∧ f100 11750 = ((f86 11750)) ∧ f100 11753 = ((f86 11753)) ∧ f100 11755 = ((f86 11755)) := hq101
                  have mm104 : f86 11701 ≤ f100 11701 ∧ am_ph f86 a86 ≤ am_ph f100 a100 ∧ am_at (a86 124) 0 ≤ am_at (a100 124) 0 ∧ am_at (a100 125) 0 = am_at (a86 125) 0 := hk103
                  have hm105 := am_mn.trans hm91 hk103
                  have q106 := am_Rg11701 hI102.1.1
                  have q107 := am_Rg11713 hI102.1.1
                  exact am_eret rfl rfl ⟨hI102, hm105, (show 200 * ((am_ph f a) - am_ph f100 a100) + 8 * (f100 11713 - (f 11713)) - f100 11701 < 0 by omega)⟩
          · refine am_raload_n rfl rfl rfl ?_
            refine am_evirtualV (m := am_m163) (As := [.ref 117]) (S1 := []) rfl rfl rfl rfl rfl rfl rfl rfl rfl rfl (am_TE.void (am_ct164  (by omega) hI12) (fun f108 a108 hq109 => ?_) (fun _ _ _ h => h))
            obtain ⟨hI110, hk111, hq109⟩ := hq109
            replace hq109 : ((f10 11718)) ≤ f108 11718 ∧ f108 11718 ≤ ((f10 11718)) + 1 ∧ ((f10 11713)) ≤ f108 11713 ∧ f108 11713 ≤ ((f10 11713)) + 16 * f108 11701 := hq109
            have mm112 : f10 11701 ≤ f108 11701 ∧ am_ph f10 a10 ≤ am_ph f108 a108 ∧ am_at (a10 124) 0 ≤ am_at (a108 124) 0 ∧ am_at (a108 125) 0 = am_at (a10 125) 0 := hk111
            have hm113 := am_mn.trans hm15 hk111
            refine am_rgoto rfl rfl ?_
            have q114 := am_Rg11701 hI110.1.1
            have q115 := am_Rg11713 hI110.1.1
            exact am_eret rfl rfl ⟨hI110, hm113, (show 200 * ((am_ph f a) - am_ph f108 a108) + 8 * (f108 11713 - (f 11713)) - f108 11701 < 0 by omega)⟩
        · refine am_raload_n rfl rfl rfl ?_
          have ok116 : f10 11701 = 0 ∧ am_at (a10 124) (f10 11713) < am_at (a10 125) (f10 11713) := am_PK.ok hq67.2.2.1 (by omega)
          have q117 := am_Rg11713 hI12.1.1
          refine am_evirtualV (m := am_m122) (As := [.ref 117]) (S1 := []) rfl rfl rfl rfl rfl rfl rfl rfl rfl rfl (am_TE.void (am_ct123  (by omega) hI12 (show am_at (a10 124) ((f10 11713)) < am_at (a10 125) ((f10 11713)) by omega)) (fun f118 a118 hq119 => ?_) (fun _ _ _ h => h))
          obtain ⟨hI120, hk121, hq119⟩ := hq119
          replace hq119 : f118 11701 = ((f10 11701)) ∧ f118 11713 = ((f10 11713)) ∧ am_ph f118 a118 = (am_ph f10 a10 ) + 1 ∧ (((f10 11713)) = 0 → am_at (a118 124) 0 = (am_at (a10 124) 0) + 1) := hq119
          have mm122 : f10 11701 ≤ f118 11701 ∧ am_ph f10 a10 ≤ am_ph f118 a118 ∧ am_at (a10 124) 0 ≤ am_at (a118 124) 0 ∧ am_at (a118 125) 0 = am_at (a10 125) 0 := hk121.1
          have hm123 := am_mn.trans hm15 hk121.1
          have t124 : f118 11718 = f10 11718 := hk121.2.1 11718 rfl
          refine am_raload_n rfl rfl rfl ?_
          refine am_evirtualV (m := am_m128) (As := [.ref 117]) (S1 := []) rfl rfl rfl rfl rfl rfl rfl rfl rfl rfl (am_TE.void (am_ct129  (by omega) hI120) (fun f125 a125 hq126 => ?_) (fun _ _ _ h => h))
          obtain ⟨hI127, hk128, hq126⟩ := hq126
          replace hq126 : f125 11713 = ((f118 11713)) := hq126
          have mm129 : f118 11701 ≤ f125 11701 ∧ am_ph f118 a118 ≤ am_ph f125 a125 ∧ am_at (a118 124) 0 ≤ am_at (a125 124) 0 ∧ am_at (a125 125) 0 = am_at (a118 125) 0 := hk128.1
          have hm130 := am_mn.trans hm123 hk128.1
          have t131 : f125 11718 = f118 11718 := hk128.2.1 11718 rfl
          refine am_rgoto rfl rfl ?_
          have q132 := am_Rg11701 hI127.1.1
          have q133 := am_Rg11713 hI127.1.1
          exact am_eret rfl rfl ⟨hI127, hm130, (show 200 * ((am_ph f a) - am_ph f125 a125) + 8 * (f125 11713 - (f 11713)) - f125 11701 < 0 by omega)⟩
    · refine am_raload_n rfl rfl rfl ?_
      refine am_evirtualI (m := am_m121) (As := [.ref 117]) (S1 := []) rfl rfl rfl rfl rfl rfl rfl rfl rfl rfl (am_TE.int (am_ct122  (by omega) hI12) (fun b134 f134 a134 hq135 => ?_) (fun _ _ _ h => h))
      obtain ⟨rfl, rfl, hq135⟩ := hq135
      refine am_rbipush rfl (by decide) ?_
      refine am_ric_ne rfl rfl (by unfold am_rg; omega) (by unfold am_rg; omega) (fun hc136 => ?_) (fun hc136 => ?_)
      · refine am_riload_n rfl rfl rfl ?_
        refine am_rbipush rfl (by decide) ?_
        refine am_ric_ne rfl rfl (by unfold am_rg; omega) (by unfold am_rg; omega) (fun hc137 => ?_) (fun hc137 => ?_)
        · refine am_riload_n rfl rfl rfl ?_
          refine am_rbipush rfl (by decide) ?_
          refine am_ric_ne rfl rfl (by unfold am_rg; omega) (by unfold am_rg; omega) (fun hc138 => ?_) (fun hc138 => ?_)
          · refine am_riload_n rfl rfl rfl ?_
            refine am_rbipush rfl (by decide) ?_
            refine am_ric_ne rfl rfl (by unfold am_rg; omega) (by unfold am_rg; omega) (fun hc139 => ?_) (fun hc139 => ?_)
            · refine am_riload_n rfl rfl rfl ?_
              refine am_ristore_n (L1 := [(0, .ref 117), (1, am_iv b5), (2, am_iv b5)]) rfl rfl rfl rfl rfl ?_
              refine am_riload_n rfl rfl rfl ?_
              refine am_rif_lt rfl rfl (by unfold am_rg; omega) (fun hc140 => ?_) (fun hc140 => ?_)
              · have q141 := am_Rg11701 hI12.1.1
                have q142 := am_Rg11713 hI12.1.1
                exact am_eret rfl rfl ⟨hI12, hm15, (show 200 * ((am_ph f a) - am_ph f10 a10) + 8 * (f10 11713 - (f 11713)) - f10 11701 < 0 by omega)⟩
              · refine am_raload_n rfl rfl rfl ?_
                have q143 := am_Rg11701 hI12.1.1
                refine am_rgetf (S1 := [am_iv (f10 11701)]) rfl rfl ?_
                refine am_rif_ne rfl rfl (by unfold am_rg; omega) (fun hc144 => ?_) (fun hc144 => ?_)
                · have q145 := am_Rg11713 hI12.1.1
                  exact am_eret rfl rfl ⟨hI12, hm15, (show 200 * ((am_ph f a) - am_ph f10 a10) + 8 * (f10 11713 - (f 11713)) - f10 11701 < 0 by omega)⟩
                · refine am_raload_n rfl rfl rfl ?_
                  refine am_riload_n rfl rfl rfl ?_
                  have q146 := am_Rg11718 hI12.1.1
                  refine am_evirtualV (m := am_m157) (As := [.ref 117, am_iv b5]) (S1 := []) rfl rfl rfl rfl rfl rfl rfl rfl rfl rfl (am_TE.void (am_ct158 (y1 := b5) (by omega) hI12 (by omega) (show 1 ≤ (f10 11718) by omega)) (fun f147 a147 hq148 => ?_) (fun _ _ _ h => h))
                  obtain ⟨hI149, hk150, hq148⟩ := hq148
                  replace hq148 : f147 11713 = ((f10 11713)) ∧ f147 11718 = ((f10 11718)) ∧ f147 11709 = ((f10 11709)) ∧ f147 11741 = ((f10 11741)) ∧ f147 11750 = ((f10 11750)) ∧ f147 11753 = ((f10 11753)) ∧ f147 11755 = ((f10 11755)) := hq148
                  have mm151 : f10 11701 ≤ f147 11701 ∧ am_ph f10 a10 ≤ am_ph f147 a147 ∧ am_at (a10 124) 0 ≤ am_at (a147 124) 0 ∧ am_at (a147 125) 0 = am_at (a10 125) 0 := hk150
                  have hm152 := am_mn.trans hm15 hk150
                  have q153 := am_Rg11701 hI149.1.1
                  have q154 := am_Rg11713 hI149.1.1
                  exact am_eret rfl rfl ⟨hI149, hm152, (show 200 * ((am_ph f a) - am_ph f147 a147) + 8 * (f147 11713 - (f 11713)) - f147 11701 < 0 by omega)⟩
            · refine am_raload_n rfl rfl rfl ?_
              refine am_evirtualI (m := am_m131) (As := [.ref 117]) (S1 := []) rfl rfl rfl rfl rfl rfl rfl rfl rfl rfl (am_TE.int (am_ct132  (by omega) hI12) (fun b155 f155 a155 hq156 => ?_) (fun _ _ _ h => h))
              obtain ⟨hI157, hk158, hq156⟩ := hq156
              replace hq156 : (-2147483648 ≤ b155 ∧ b155 ≤ 2147483647) ∧ -1 ≤ b155 ∧ ((f10 11713)) ≤ f155 11713 ∧ f155 11713 ≤ ((f10 11713)) + 1 := hq156
              have mm159 : f10 11701 ≤ f155 11701 ∧ am_ph f10 a10 ≤ am_ph f155 a155 ∧ am_at (a10 124) 0 ≤ am_at (a155 124) 0 ∧ am_at (a155 125) 0 = am_at (a10 125) 0 := hk158.1
              have hm160 := am_mn.trans hm15 hk158.1
              have t161 : f155 11718 = f10 11718 := hk158.2.1 11718 rfl
              refine am_rgoto rfl rfl ?_
              refine am_ristore_n (L1 := [(0, .ref 117), (1, am_iv b5), (2, am_iv b155)]) rfl rfl rfl rfl rfl ?_
              refine am_riload_n rfl rfl rfl ?_
              refine am_rif_lt rfl rfl (by unfold am_rg; omega) (fun hc162 => ?_) (fun hc162 => ?_)
              · have q163 := am_Rg11701 hI157.1.1
                have q164 := am_Rg11713 hI157.1.1
                exact am_eret rfl rfl ⟨hI157, hm160, (show 200 * ((am_ph f a) - am_ph f155 a155) + 8 * (f155 11713 - (f 11713)) - f155 11701 < 0 by omega)⟩
              · refine am_raload_n rfl rfl rfl ?_
                have q165 := am_Rg11701 hI157.1.1
                refine am_rgetf (S1 := [am_iv (f155 11701)]) rfl rfl ?_
                refine am_rif_ne rfl rfl (by unfold am_rg; omega) (fun hc166 => ?_) (fun hc166 => ?_)
                · have q167 := am_Rg11713 hI157.1.1
                  exact am_eret rfl rfl ⟨hI157, hm160, (show 200 * ((am_ph f a) - am_ph f155 a155) + 8 * (f155 11713 - (f 11713)) - f155 11701 < 0 by omega)⟩
                · refine am_raload_n rfl rfl rfl ?_
                  refine am_riload_n rfl rfl rfl ?_
                  have q168 := am_Rg11718 hI157.1.1
                  refine am_evirtualV (m := am_m157) (As := [.ref 117, am_iv b155]) (S1 := []) rfl rfl rfl rfl rfl rfl rfl rfl rfl rfl (am_TE.void (am_ct158 (y1 := b155) (by omega) hI157 (by omega) (show 1 ≤ (f155 11718) by omega)) (fun f169 a169 hq170 => ?_) (fun _ _ _ h => h))
                  obtain ⟨hI171, hk172, hq170⟩ := hq170
                  replace hq170 : f169 11713 = ((f155 11713)) ∧ f169 11718 = ((f155 11718)) ∧ f169 11709 = ((f155 11709)) ∧ f169 11741 = ((f155 11741)) ∧ f169 11750 = ((f155 11750)) ∧ f169 11753 = ((f155 11753)) ∧ f169 11755 = ((f155 11755)) := hq170
                  have mm173 : f155 11701 ≤ f169 11701 ∧ am_ph f155 a155 ≤ am_ph f169 a169 ∧ am_at (a155 124) 0 ≤ am_at (a169 124) 0 ∧ am_at (a169 125) 0 = am_at (a155 125) 0 := hk172
                  have hm174 := am_mn.trans hm160 hk172
                  have q175 := am_Rg11701 hI171.1.1
                  have q176 := am_Rg11713 hI171.1.1
                  exact am_eret rfl rfl ⟨hI171, hm174, (show 200 * ((am_ph f a) - am_ph f169 a169) + 8 * (f169 11713 - (f 11713)) - f169 11701 < 0 by omega)⟩
          · refine am_raload_n rfl rfl rfl ?_
            refine am_evirtualV (m := am_m163) (As := [.ref 117]) (S1 := []) rfl rfl rfl rfl rfl rfl rfl rfl rfl rfl (am_TE.void (am_ct164  (by omega) hI12) (fun f177 a177 hq178 => ?_) (fun _ _ _ h => h))
            obtain ⟨hI179, hk180, hq178⟩ := hq178
            replace hq178 : ((f10 11718)) ≤ f177 11718 ∧ f177 11718 ≤ ((f10 11718)) + 1 ∧ ((f10 11713)) ≤ f177 11713 ∧ f177 11713 ≤ ((f10 11713)) + 16 * f177 11701 := hq178
            have mm181 : f10 11701 ≤ f177 11701 ∧ am_ph f10 a10 ≤ am_ph f177 a177 ∧ am_at (a10 124) 0 ≤ am_at (a177 124) 0 ∧ am_at (a177 125) 0 = am_at (a10 125) 0 := hk180
            have hm182 := am_mn.trans hm15 hk180
            refine am_rgoto rfl rfl ?_
            have q183 := am_Rg11701 hI179.1.1
            have q184 := am_Rg11713 hI179.1.1
            exact am_eret rfl rfl ⟨hI179, hm182, (show 200 * ((am_ph f a) - am_ph f177 a177) + 8 * (f177 11713 - (f 11713)) - f177 11701 < 0 by omega)⟩
        · refine am_raload_n rfl rfl rfl ?_
          refine am_evirtualI (m := am_m121) (As := [.ref 117]) (S1 := []) rfl rfl rfl rfl rfl rfl rfl rfl rfl rfl (am_TE.int (am_ct122  (by omega) hI12) (fun b185 f185 a185 hq186 => ?_) (fun _ _ _ h => h))
          obtain ⟨rfl, rfl, hq186⟩ := hq186
          refine am_rbipush rfl (by decide) ?_
          refine am_ric_ne rfl rfl (by unfold am_rg; omega) (by unfold am_rg; omega) (fun hc187 => ?_) (fun hc187 => ?_)
          · refine am_riload_n rfl rfl rfl ?_
            refine am_rbipush rfl (by decide) ?_
            refine am_ric_ne rfl rfl (by unfold am_rg; omega) (by unfold am_rg; omega) (fun hc188 => ?_) (fun hc188 => ?_)
            · refine am_riload_n rfl rfl rfl ?_
              refine am_rbipush rfl (by decide) ?_
              refine am_ric_ne rfl rfl (by unfold am_rg; omega) (by unfold am_rg; omega) (fun hc189 => ?_) (fun hc189 => ?_)
              · refine am_riload_n rfl rfl rfl ?_
                refine am_ristore_n (L1 := [(0, .ref 117), (1, am_iv b5), (2, am_iv b5)]) rfl rfl rfl rfl rfl ?_
                refine am_riload_n rfl rfl rfl ?_
                refine am_rif_lt rfl rfl (by unfold am_rg; omega) (fun hc190 => ?_) (fun hc190 => ?_)
                · have q191 := am_Rg11701 hI12.1.1
                  have q192 := am_Rg11713 hI12.1.1
                  exact am_eret rfl rfl ⟨hI12, hm15, (show 200 * ((am_ph f a) - am_ph f10 a10) + 8 * (f10 11713 - (f 11713)) - f10 11701 < 0 by omega)⟩
                · refine am_raload_n rfl rfl rfl ?_
                  have q193 := am_Rg11701 hI12.1.1
                  refine am_rgetf (S1 := [am_iv (f10 11701)]) rfl rfl ?_
                  refine am_rif_ne rfl rfl (by unfold am_rg; omega) (fun hc194 => ?_) (fun hc194 => ?_)
                  · have q195 := am_Rg11713 hI12.1.1
                    exact am_eret rfl rfl ⟨hI12, hm15, (show 200 * ((am_ph f a) - am_ph f10 a10) + 8 * (f10 11713 - (f 11713)) - f10 11701 < 0 by omega)⟩
                  · refine am_raload_n rfl rfl rfl ?_
                    refine am_riload_n rfl rfl rfl ?_
                    have q196 := am_Rg11718 hI12.1.1
                    refine am_evirtualV (m := am_m157) (As := [.ref 117, am_iv b5]) (S1 := []) rfl rfl rfl rfl rfl rfl rfl rfl rfl rfl (am_TE.void (am_ct158 (y1 := b5) (by omega) hI12 (by omega) (show 1 ≤ (f10 11718) by omega)) (fun f197 a197 hq198 => ?_) (fun _ _ _ h => h))
                    obtain ⟨hI199, hk200, hq198⟩ := hq198
                    replace hq198 : f197 11713 = ((f10 11713)) ∧ f197 11718 = ((f10 11718)) ∧ f197 11709 = ((f10 11709)) ∧ f197 11741 = ((f10 11741)) ∧ f197 11750 = ((f10 11750)) ∧ f197 11753 = ((f10 11753)) ∧ f197 11755 = ((f10 11755)) := hq198
                    have mm201 : f10 11701 ≤ f197 11701 ∧ am_ph f10 a10 ≤ am_ph f197 a197 ∧ am_at (a10 124) 0 ≤ am_at (a197 124) 0 ∧ am_at (a197 125) 0 = am_at (a10 125) 0 := hk200
                    have hm202 := am_mn.trans hm15 hk200
                    have q203 := am_Rg11701 hI199.1.1
                    have q204 := am_Rg11713 hI199.1.1
                    exact am_eret rfl rfl ⟨hI199, hm202, (show 200 * ((am_ph f a) - am_ph f197 a197) + 8 * (f197 11713 - (f 11713)) - f197 11701 < 0 by omega)⟩
              · refine am_raload_n rfl rfl rfl ?_
                refine am_evirtualI (m := am_m131) (As := [.ref 117]) (S1 := []) rfl rfl rfl rfl rfl rfl rfl rfl rfl rfl (am_TE.int (am_ct132  (by omega) hI12) (fun b205 f205 a205 hq206 => ?_) (fun _ _ _ h => h))
                obtain ⟨hI207, hk208, hq206⟩ := hq206
                replace hq206 : (-2147483648 ≤ b205 ∧ b205 ≤ 2147483647) ∧ -1 ≤ b205 ∧ ((f10 11713)) ≤ f205 11713 ∧ f205 11713 ≤ ((f10 11713)) + 1 := hq206
                have mm209 : f10 11701 ≤ f205 11701 ∧ am_ph f10 a10 ≤ am_ph f205 a205 ∧ am_at (a10 124) 0 ≤ am_at (a205 124) 0 ∧ am_at (a205 125) 0 = am_at (a10 125) 0 := hk208.1
                have hm210 := am_mn.trans hm15 hk208.1
                have t211 : f205 11718 = f10 11718 := hk208.2.1 11718 rfl
                refine am_rgoto rfl rfl ?_
                refine am_ristore_n (L1 := [(0, .ref 117), (1, am_iv b5), (2, am_iv b205)]) rfl rfl rfl rfl rfl ?_
                refine am_riload_n rfl rfl rfl ?_
                refine am_rif_lt rfl rfl (by unfold am_rg; omega) (fun hc212 => ?_) (fun hc212 => ?_)
                · have q213 := am_Rg11701 hI207.1.1
                  have q214 := am_Rg11713 hI207.1.1
                  exact am_eret rfl rfl ⟨hI207, hm210, (show 200 * ((am_ph f a) - am_ph f205 a205) + 8 * (f205 11713 - (f 11713)) - f205 11701 < 0 by omega)⟩
                · refine am_raload_n rfl rfl rfl ?_
                  have q215 := am_Rg11701 hI207.1.1
                  refine am_rgetf (S1 := [am_iv (f205 11701)]) rfl rfl ?_
                  refine am_rif_ne rfl rfl (by unfold am_rg; omega) (fun hc216 => ?_) (fun hc216 => ?_)
                  · have q217 := am_Rg11713 hI207.1.1
                    exact am_eret rfl rfl ⟨hI207, hm210, (show 200 * ((am_ph f a) - am_ph f205 a205) + 8 * (f205 11713 - (f 11713)) - f205 11701 < 0 by omega)⟩
                  · refine am_raload_n rfl rfl rfl ?_
                    refine am_riload_n rfl rfl rfl ?_
                    have q218 := am_Rg11718 hI207.1.1
                    refine am_evirtualV (m := am_m157) (As := [.ref 117, am_iv b205]) (S1 := []) rfl rfl rfl rfl rfl rfl rfl rfl rfl rfl (am_TE.void (am_ct158 (y1 := b205) (by omega) hI207 (by omega) (show 1 ≤ (f205 11718) by omega)) (fun f219 a219 hq220 => ?_) (fun _ _ _ h => h))
                    obtain ⟨hI221, hk222, hq220⟩ := hq220
                    replace hq220 : f219 11713 = ((f205 11713)) ∧ f219 11718 = ((f205 11718)) ∧ f219 11709 = ((f205 11709)) ∧ f219 11741 = ((f205 11741)) ∧ f219 11750 = ((f205 11750)) ∧ f219 11753 = ((f205 11753)) ∧ f219 11755 = ((f205 11755)) := hq220
                    have mm223 : f205 11701 ≤ f219 11701 ∧ am_ph f205 a205 ≤ am_ph f219 a219 ∧ am_at (a205 124) 0 ≤ am_at (a219 124) 0 ∧ am_at (a219 125) 0 = am_at (a205 125) 0 := hk222
                    have hm224 := am_mn.trans hm210 hk222
                    have q225 := am_Rg11701 hI221.1.1
                    have q226 := am_Rg11713 hI221.1.1
                    exact am_eret rfl rfl ⟨hI221, hm224, (show 200 * ((am_ph f a) - am_ph f219 a219) + 8 * (f219 11713 - (f 11713)) - f219 11701 < 0 by omega)⟩
            · refine am_raload_n rfl rfl rfl ?_
              refine am_evirtualV (m := am_m163) (As := [.ref 117]) (S1 := []) rfl rfl rfl rfl rfl rfl rfl rfl rfl rfl (am_TE.void (am_ct164  (by omega) hI12) (fun f227 a227 hq228 => ?_) (fun _ _ _ h => h))
              obtain ⟨hI229, hk230, hq228⟩ := hq228
              replace hq228 : ((f10 11718)) ≤ f227 11718 ∧ f227 11718 ≤ ((f10 11718)) + 1 ∧ ((f10 11713)) ≤ f227 11713 ∧ f227 11713 ≤ ((f10 11713)) + 16 * f227 11701 := hq228
              have mm231 : f10 11701 ≤ f227 11701 ∧ am_ph f10 a10 ≤ am_ph f227 a227 ∧ am_at (a10 124) 0 ≤ am_at (a227 124) 0 ∧ am_at (a227 125) 0 = am_at (a10 125) 0 := hk230
              have hm232 := am_mn.trans hm15 hk230
              refine am_rgoto rfl rfl ?_
              have q233 := am_Rg11701 hI229.1.1
              have q234 := am_Rg11713 hI229.1.1
              exact am_eret rfl rfl ⟨hI229, hm232, (show 200 * ((am_ph f a) - am_ph f227 a227) + 8 * (f227 11713 - (f 11713)) - f227 11701 < 0 by omega)⟩
          · refine am_raload_n rfl rfl rfl ?_
            have ok235 : f10 11701 = 0 ∧ am_at (a10 124) (f10 11713) < am_at (a10 125) (f10 11713) := am_PK.ok hq186.2.2.1 (by omega)
            have q236 := am_Rg11713 hI12.1.1
            refine am_evirtualV (m := am_m122) (As := [.ref 117]) (S1 := []) rfl rfl rfl rfl rfl rfl rfl rfl rfl rfl (am_TE.void (am_ct123  (by omega) hI12 (show am_at (a10 124) ((f10 11713)) < am_at (a10 125) ((f10 11713)) by omega)) (fun f237 a237 hq238 => ?_) (fun _ _ _ h => h))
            obtain ⟨hI239, hk240, hq238⟩ := hq238
            replace hq238 : f237 11701 = ((f10 11701)) ∧ f237 11713 = ((f10 11713)) ∧ am_ph f237 a237 = (am_ph f10 a10 ) + 1 ∧ (((f10 11713)) = 0 → am_at (a237 124) 0 = (am_at (a10 124) 0) + 1) := hq238
            have mm241 : f10 11701 ≤ f237 11701 ∧ am_ph f10 a10 ≤ am_ph f237 a237 ∧ am_at (a10 124) 0 ≤ am_at (a237 124) 0 ∧ am_at (a237 125) 0 = am_at (a10 125) 0 := hk240.1
            have hm242 := am_mn.trans hm15 hk240.1
            have t243 : f237 11718 = f10 11718 := hk240.2.1 11718 rfl
            refine am_raload_n rfl rfl rfl ?_
            refine am_evirtualV (m := am_m128) (As := [.ref 117]) (S1 := []) rfl rfl rfl rfl rfl rfl rfl rfl rfl rfl (am_TE.void (am_ct129  (by omega) hI239) (fun f244 a244 hq245 => ?_) (fun _ _ _ h => h))
            obtain ⟨hI246, hk247, hq245⟩ := hq245
            replace hq245 : f244 11713 = ((f237 11713)) := hq245
            have mm248 : f237 11701 ≤ f244 11701 ∧ am_ph f237 a237 ≤ am_ph f244 a244 ∧ am_at (a237 124) 0 ≤ am_at (a244 124) 0 ∧ am_at (a244 125) 0 = am_at (a237 125) 0 := hk247.1
            have hm249 := am_mn.trans hm242 hk247.1
            have t250 : f244 11718 = f237 11718 := hk247.2.1 11718 rfl
            refine am_rgoto rfl rfl ?_
            have q251 := am_Rg11701 hI246.1.1
            have q252 := am_Rg11713 hI246.1.1
            exact am_eret rfl rfl ⟨hI246, hm249, (show 200 * ((am_ph f a) - am_ph f244 a244) + 8 * (f244 11713 - (f 11713)) - f244 11701 < 0 by omega)⟩
      · refine am_raload_n rfl rfl rfl ?_
        have ok253 : f10 11701 = 0 ∧ am_at (a10 124) (f10 11713) < am_at (a10 125) (f10 11713) := am_PK.ok hq135.2.2.1 (by omega)
        have q254 := am_Rg11713 hI12.1.1
        refine am_evirtualV (m := am_m122) (As := [.ref 117]) (S1 := []) rfl rfl rfl rfl rfl rfl rfl rfl rfl rfl (am_TE.void (am_ct123  (by omega) hI12 (show am_at (a10 124) ((f10 11713)) < am_at (a10 125) ((f10 11713)) by omega)) (fun f255 a255 hq256 => ?_) (fun _ _ _ h => h))
        obtain ⟨hI257, hk258, hq256⟩ := hq256
        replace hq256 : f255 11701 = ((f10 11701)) ∧ f255 11713 = ((f10 11713)) ∧ am_ph f255 a255 = (am_ph f10 a10 ) + 1 ∧ (((f10 11713)) = 0 → am_at (a255 124) 0 = (am_at (a10 124) 0) + 1) := hq256
        have mm259 : f10 11701 ≤ f255 11701 ∧ am_ph f10 a10 ≤ am_ph f255 a255 ∧ am_at (a10 124) 0 ≤ am_at (a255 124) 0 ∧ am_at (a255 125) 0 = am_at (a10 125) 0 := hk258.1
        have hm260 := am_mn.trans hm15 hk258.1
        have t261 : f255 11718 = f10 11718 := hk258.2.1 11718 rfl
        refine am_raload_n rfl rfl rfl ?_
        have q262 := am_Rg11718 hI257.1.1
        refine am_evirtualV (m := am_m167) (As := [.ref 117]) (S1 := []) rfl rfl rfl rfl rfl rfl rfl rfl rfl rfl (am_TE.void (am_ct168  (by omega) hI257 (show 1 ≤ (f255 11718) by omega)) (fun f263 a263 hq264 => ?_) (fun _ _ _ h => h))
        obtain ⟨hI265, hk266, hq264⟩ := hq264
        replace hq264 : f263 11713 = ((f255 11713)) ∧ ((f255 11718)) - 1 ≤ f263 11718 ∧ f263 11718 ≤ ((f255 11718)) := hq264
        have mm267 : f255 11701 ≤ f263 11701 ∧ am_ph f255 a255 ≤ am_ph f263 a263 ∧ am_at (a255 124) 0 ≤ am_at (a263 124) 0 ∧ am_at (a263 125) 0 = am_at (a255 125) 0 := hk266
        have hm268 := am_mn.trans hm260 hk266
        refine am_rgoto rfl rfl ?_
        have q269 := am_Rg11701 hI265.1.1
        have q270 := am_Rg11713 hI265.1.1
        exact am_eret rfl rfl ⟨hI265, hm268, (show 200 * ((am_ph f a) - am_ph f263 a263) + 8 * (f263 11713 - (f 11713)) - f263 11701 < 0 by omega)⟩
  · refine am_raload_n rfl rfl rfl ?_
    have q271 := am_Rg11713 hI.1.1
    refine am_rgetf (S1 := [am_iv (f 11713)]) rfl rfl ?_
    refine am_rif_eq rfl rfl (by unfold am_rg; omega) (fun hc272 => ?_) (fun hc272 => ?_)
    · refine am_raload_n rfl rfl rfl ?_
      refine am_riconst rfl ?_
      refine am_evirtualV (m := am_m116) (As := [.ref 117, am_iv 1]) (S1 := []) rfl rfl rfl rfl rfl rfl rfl rfl rfl rfl (am_TE.void (am_ct117 (y1 := 1) (by omega) (by omega) (show 1 ≤ 1 by omega) (show 1 ≤ 3 by omega) (show 0 ≤ (f 11701) by omega) (show (f 11701) ≤ 3 by omega)) (fun f273 a273 hq274 => ?_) (fun _ _ _ h => h))
      obtain ⟨v275, rfl, rfl, hq274⟩ := hq274
      replace hq274 : 0 < v275 ∧ v275 ≤ 3 ∧ f 11701 ≤ v275 := hq274
      refine am_rgoto rfl rfl ?_
      have J276 := am_Rf11701 (v := v275) hI (by omega) (by omega)
      have m277 : am_mn f a (am_ud f 11701 v275) a := am_mn.halt (am_mn.refl f a) (by omega)
      exact am_eret rfl rfl ⟨J276, m277, (show 200 * ((am_ph f a) - am_ph f a) + 8 * (f 11713 - (f 11713)) - v275 < 0 by omega)⟩
    · refine am_raload_n rfl rfl rfl ?_
      refine am_rgetf (S1 := [.ref 127]) rfl rfl ?_
      refine am_raload_n rfl rfl rfl ?_
      refine am_rgetf (S1 := [am_iv (f 11713), .ref 127]) rfl rfl ?_
      have q278 : (a 127).length = 20 := am_Rl127 (am_RL 127 rfl hI.1.1)
      have i279 : am_ib (a 127) (f 11713) := by unfold am_ib; omega
      have q280 := am_Rb127 (am_RL 127 rfl hI.1.1) i279
      refine am_riaload (l := a 127) rfl am_ge127 i279 ?_
      refine am_raload_n rfl rfl rfl ?_
      refine am_rgetf (S1 := [am_iv (f 11718), am_iv (am_at (a 127) (f 11713))]) rfl rfl ?_
      refine am_ric_eq rfl rfl (by unfold am_rg; omega) (by unfold am_rg; omega) (fun hc281 => ?_) (fun hc281 => ?_)
      · refine am_raload_n rfl rfl rfl ?_
        have ok282 : am_at (a 124) (f 11713) = am_at (a 125) (f 11713) := am_PK.no hq6.2.2.1 (by omega) (show f 11701 = 0 by omega)
        refine am_evirtualV (m := am_m133) (As := [.ref 117]) (S1 := []) rfl rfl rfl rfl rfl rfl rfl rfl rfl rfl (am_TE.void (am_ct134  (by omega) hI (show 1 ≤ (f 11713) by omega) (show am_at (a 124) ((f 11713)) = am_at (a 125) ((f 11713)) by omega)) (fun f283 a283 hq284 => ?_) (fun _ _ _ h => h))
        obtain ⟨hI285, hk286, hq284⟩ := hq284
        replace hq284 : f283 11701 = ((f 11701)) ∧ f283 11713 = ((f 11713)) - 1 ∧ am_ph f283 a283 = (am_ph f a ) ∧ am_at (a283 124) 0 = (am_at (a 124) 0) := hq284
        have mm287 : f 11701 ≤ f283 11701 ∧ am_ph f a ≤ am_ph f283 a283 ∧ am_at (a 124) 0 ≤ am_at (a283 124) 0 ∧ am_at (a283 125) 0 = am_at (a 125) 0 := hk286.1
        have hm288 := am_mn.trans (am_mn.refl f a) hk286.1
        have t289 : f283 11718 = f 11718 := hk286.2.1 11718 rfl
        have q290 := am_Rg11701 hI285.1.1
        have q291 := am_Rg11713 hI285.1.1
        exact am_eret rfl rfl ⟨hI285, hm288, (show 200 * ((am_ph f a) - am_ph f283 a283) + 8 * (f283 11713 - (f 11713)) - f283 11701 < 0 by omega)⟩
      · refine am_raload_n rfl rfl rfl ?_
        refine am_riconst rfl ?_
        refine am_evirtualV (m := am_m116) (As := [.ref 117, am_iv 1]) (S1 := []) rfl rfl rfl rfl rfl rfl rfl rfl rfl rfl (am_TE.void (am_ct117 (y1 := 1) (by omega) (by omega) (show 1 ≤ 1 by omega) (show 1 ≤ 3 by omega) (show 0 ≤ (f 11701) by omega) (show (f 11701) ≤ 3 by omega)) (fun f292 a292 hq293 => ?_) (fun _ _ _ h => h))
        obtain ⟨v294, rfl, rfl, hq293⟩ := hq293
        replace hq293 : 0 < v294 ∧ v294 ≤ 3 ∧ f 11701 ≤ v294 := hq293
        refine am_rgoto rfl rfl ?_
        have J295 := am_Rf11701 (v := v294) hI (by omega) (by omega)
        have m296 : am_mn f a (am_ud f 11701 v294) a := am_mn.halt (am_mn.refl f a) (by omega)
        exact am_eret rfl rfl ⟨J295, m296, (show 200 * ((am_ph f a) - am_ph f a) + 8 * (f 11713 - (f 11713)) - v294 < 0 by omega)⟩
set_option maxRecDepth 100000 in
set_option maxHeartbeats 4000000 in
theorem am_ct170_2 {X : List Value} {w : Value} {e : Nat} {g : aF} {h : aA} {E : Nat → aF → aA → Prop} {d : Nat} {fz : aF} {az : aA} (hd : 10 ≤ d + 1) (n : Nat) :
    ∀ {f : aF} {a : aA} {x1 : Int} {x2 : Int}, (2 * (8 * (3500 - am_ph f a) + 3 - f 11701) + x2).toNat < n → am_RV g h f a → am_mn fz az f a → (-2147483648 ≤ x1 ∧ x1 ≤ 2147483647) → (-2147483648 ≤ x2 ∧ x2 ≤ 2147483647) → (x1 = 0 ∨ x1 = 1) → (x2 = 0 ∨ x2 = 1) → f 11713 ≤ 32 - 16 * x1 - 16 * x2 + 16 * f 11701 → am_TE X (d + 1) am_m169 2 [(0, .ref 117), (1, am_iv x1), (2, am_iv x2)] [] f a w e (am_QV (fun f1 a1 => am_RV g h f1 a1 ∧ am_mn fz az f1 a1)) E := by
  induction n with
  | zero => intros; omega
  | succ n ih =>
    intro f a x1 x2 hn hI hp0 hp1 hp2 hp3 hp4 hp5
    have q1 := am_RV_ph hI
    have q2 := am_RV_p0 hI
    have q3 := am_Rg11701 hI.1.1
    have q4 := am_Rg11713 hI.1.1
    refine am_riload_n rfl rfl rfl ?_
    refine am_rif_eq rfl rfl (by unfold am_rg; omega) (fun hc5 => ?_) (fun hc5 => ?_)
    · exact am_eret rfl rfl ⟨hI, hp0⟩
    · refine am_raload_n rfl rfl rfl ?_
      refine am_rgetf (S1 := [am_iv (f 11701)]) rfl rfl ?_
      refine am_rif_ne rfl rfl (by unfold am_rg; omega) (fun hc6 => ?_) (fun hc6 => ?_)
      · exact am_eret rfl rfl ⟨hI, hp0⟩
      · refine am_raload_n rfl rfl rfl ?_
        refine am_evirtualI (m := am_m125) (As := [.ref 117]) (S1 := []) rfl rfl rfl rfl rfl rfl rfl rfl rfl rfl (am_TE.int (am_ct126  (by omega) hI) (fun b7 f7 a7 hq8 => ?_) (fun _ _ _ h => h))
        obtain ⟨hI9, hk10, hq8⟩ := hq8
        replace hq8 : (b7 = 0 ∨ b7 = 1) ∧ f7 11701 = ((f 11701)) ∧ f7 11713 = ((f 11713)) ∧ f7 11701 ≤ 3 - 3 * b7 ∧ (am_ph f a ) + b7 ≤ am_ph f7 a7 ∧ (am_at (a 124) 0) + b7 ≤ am_at (a7 124) 0 + ((f 11713)) := hq8
        have mm11 : f 11701 ≤ f7 11701 ∧ am_ph f a ≤ am_ph f7 a7 ∧ am_at (a 124) 0 ≤ am_at (a7 124) 0 ∧ am_at (a7 125) 0 = am_at (a 125) 0 := hk10.1
        have hm12 := am_mn.trans hp0 hk10.1
        refine am_rpop rfl rfl ?_
        refine am_raload_n rfl rfl rfl ?_
        refine am_evirtualI (m := am_m121) (As := [.ref 117]) (S1 := []) rfl rfl rfl rfl rfl rfl rfl rfl rfl rfl (am_TE.int (am_ct122  (by omega) hI9) (fun b13 f13 a13 hq14 => ?_) (fun _ _ _ h => h))
        obtain ⟨rfl, rfl, hq14⟩ := hq14
        refine am_rbipush rfl (by decide) ?_
        refine am_ric_ne rfl rfl (by unfold am_rg; omega) (by unfold am_rg; omega) (fun hc15 => ?_) (fun hc15 => ?_)
        · refine am_riconst rfl ?_
          refine am_ristore_n (L1 := [(0, .ref 117), (1, am_iv x1), (2, am_iv 0)]) rfl rfl rfl rfl rfl ?_
          refine am_riload_n rfl rfl rfl ?_
          refine am_rif_eq rfl rfl (by unfold am_rg; omega) (fun hc16 => ?_) (fun hc16 => ?_)
          rotate_left
          · exfalso; omega
          refine am_riload_n rfl rfl rfl ?_
          refine am_rif_ne rfl rfl (by unfold am_rg; omega) (fun hc17 => ?_) (fun hc17 => ?_)
          · refine am_raload_n rfl rfl rfl ?_
            refine am_riconst rfl ?_
            have q18 := am_Rg11701 hI9.1.1
            refine am_evirtualV (m := am_m116) (As := [.ref 117, am_iv 1]) (S1 := []) rfl rfl rfl rfl rfl rfl rfl rfl rfl rfl (am_TE.void (am_ct117 (y1 := 1) (by omega) (by omega) (show 1 ≤ 1 by omega) (show 1 ≤ 3 by omega) (show 0 ≤ (f7 11701) by omega) (show (f7 11701) ≤ 3 by omega)) (fun f19 a19 hq20 => ?_) (fun _ _ _ h => h))
            obtain ⟨v21, rfl, rfl, hq20⟩ := hq20
            replace hq20 : 0 < v21 ∧ v21 ≤ 3 ∧ f7 11701 ≤ v21 := hq20
            refine am_rgoto rfl rfl ?_
            have J22 := am_Rf11701 (v := v21) hI9 (by omega) (by omega)
            have m23 : am_mn fz az (am_ud f7 11701 v21) a7 := am_mn.halt hm12 (by omega)
            have q24 := am_Rg11713 hI9.1.1
            exact ih (show (2 * (8 * (3500 - am_ph f7 a7 ) + 3 - (v21)) + 0).toNat < n by omega) J22 m23 (show (-2147483648 ≤ x1 ∧ x1 ≤ 2147483647) by omega) (show (-2147483648 ≤ 0 ∧ 0 ≤ 2147483647) by omega) (show (x1 = 0 ∨ x1 = 1) by omega) (show (0 = 0 ∨ 0 = 1) by omega) (show (f7 11713) ≤ 32 - 16 * x1 - 16 * 0 + 16 * (v21) by omega)
          · refine am_raload_n rfl rfl rfl ?_
            refine am_evirtualI (m := am_m121) (As := [.ref 117]) (S1 := []) rfl rfl rfl rfl rfl rfl rfl rfl rfl rfl (am_TE.int (am_ct122  (by omega) hI9) (fun b25 f25 a25 hq26 => ?_) (fun _ _ _ h => h))
            obtain ⟨rfl, rfl, hq26⟩ := hq26
            refine am_rif_lt rfl rfl (by unfold am_rg; omega) (fun hc27 => ?_) (fun hc27 => ?_)
            · have q28 := am_Rg11701 hI9.1.1
              have q29 := am_Rg11713 hI9.1.1
              exact ih (by omega) hI9 hm12 (by omega) (by omega) (by omega) (by omega) (by omega)
            · refine am_raload_n rfl rfl rfl ?_
              refine am_riconst rfl ?_
              have q30 := am_Rg11701 hI9.1.1
              refine am_evirtualV (m := am_m116) (As := [.ref 117, am_iv 1]) (S1 := []) rfl rfl rfl rfl rfl rfl rfl rfl rfl rfl (am_TE.void (am_ct117 (y1 := 1) (by omega) (by omega) (show 1 ≤ 1 by omega) (show 1 ≤ 3 by omega) (show 0 ≤ (f7 11701) by omega) (show (f7 11701) ≤ 3 by omega)) (fun f31 a31 hq32 => ?_) (fun _ _ _ h => h))
              obtain ⟨v33, rfl, rfl, hq32⟩ := hq32
              replace hq32 : 0 < v33 ∧ v33 ≤ 3 ∧ f7 11701 ≤ v33 := hq32
              refine am_rgoto rfl rfl ?_
              have J34 := am_Rf11701 (v := v33) hI9 (by omega) (by omega)
              have m35 : am_mn fz az (am_ud f7 11701 v33) a7 := am_mn.halt hm12 (by omega)
              have q36 := am_Rg11713 hI9.1.1
              exact ih (show (2 * (8 * (3500 - am_ph f7 a7 ) + 3 - (v33)) + 0).toNat < n by omega) J34 m35 (show (-2147483648 ≤ x1 ∧ x1 ≤ 2147483647) by omega) (show (-2147483648 ≤ 0 ∧ 0 ≤ 2147483647) by omega) (show (x1 = 0 ∨ x1 = 1) by omega) (show (0 = 0 ∨ 0 = 1) by omega) (show (f7 11713) ≤ 32 - 16 * x1 - 16 * 0 + 16 * (v33) by omega)
        · refine am_riconst rfl ?_
          refine am_rgoto rfl rfl ?_
          refine am_ristore_n (L1 := [(0, .ref 117), (1, am_iv x1), (2, am_iv 1)]) rfl rfl rfl rfl rfl ?_
          refine am_riload_n rfl rfl rfl ?_
          refine am_rif_eq rfl rfl (by unfold am_rg; omega) (fun hc37 => ?_) (fun hc37 => ?_)
          · exfalso; omega
          refine am_raload_n rfl rfl rfl ?_
          have ok38 : f7 11701 = 0 ∧ am_at (a7 124) (f7 11713) < am_at (a7 125) (f7 11713) := am_PK.ok hq14.2.2.1 (by omega)
          have q39 := am_Rg11713 hI9.1.1
          refine am_evirtualV (m := am_m122) (As := [.ref 117]) (S1 := []) rfl rfl rfl rfl rfl rfl rfl rfl rfl rfl (am_TE.void (am_ct123  (by omega) hI9 (show am_at (a7 124) ((f7 11713)) < am_at (a7 125) ((f7 11713)) by omega)) (fun f40 a40 hq41 => ?_) (fun _ _ _ h => h))
          obtain ⟨hI42, hk43, hq41⟩ := hq41
          replace hq41 : f40 11701 = ((f7 11701)) ∧ f40 11713 = ((f7 11713)) ∧ am_ph f40 a40 = (am_ph f7 a7 ) + 1 ∧ (((f7 11713)) = 0 → am_at (a40 124) 0 = (am_at (a7 124) 0) + 1) := hq41
          have mm44 : f7 11701 ≤ f40 11701 ∧ am_ph f7 a7 ≤ am_ph f40 a40 ∧ am_at (a7 124) 0 ≤ am_at (a40 124) 0 ∧ am_at (a40 125) 0 = am_at (a7 125) 0 := hk43.1
          have hm45 := am_mn.trans hm12 hk43.1
          refine am_raload_n rfl rfl rfl ?_
          refine am_evirtualI (m := am_m121) (As := [.ref 117]) (S1 := []) rfl rfl rfl rfl rfl rfl rfl rfl rfl rfl (am_TE.int (am_ct122  (by omega) hI42) (fun b46 f46 a46 hq47 => ?_) (fun _ _ _ h => h))
          obtain ⟨rfl, rfl, hq47⟩ := hq47
          refine am_rbipush rfl (by decide) ?_
          refine am_ric_ne rfl rfl (by unfold am_rg; omega) (by unfold am_rg; omega) (fun hc48 => ?_) (fun hc48 => ?_)
          · refine am_riconst rfl ?_
            refine am_ristore_n (L1 := [(0, .ref 117), (1, am_iv x1), (2, am_iv 0)]) rfl rfl rfl rfl rfl ?_
            refine am_riload_n rfl rfl rfl ?_
            refine am_rif_eq rfl rfl (by unfold am_rg; omega) (fun hc49 => ?_) (fun hc49 => ?_)
            · refine am_raload_n rfl rfl rfl ?_
              refine am_riconst rfl ?_
              have q50 := am_Rg11701 hI42.1.1
              refine am_evirtualV (m := am_m116) (As := [.ref 117, am_iv 1]) (S1 := []) rfl rfl rfl rfl rfl rfl rfl rfl rfl rfl (am_TE.void (am_ct117 (y1 := 1) (by omega) (by omega) (show 1 ≤ 1 by omega) (show 1 ≤ 3 by omega) (show 0 ≤ (f40 11701) by omega) (show (f40 11701) ≤ 3 by omega)) (fun f51 a51 hq52 => ?_) (fun _ _ _ h => h))
              obtain ⟨v53, rfl, rfl, hq52⟩ := hq52
              replace hq52 : 0 < v53 ∧ v53 ≤ 3 ∧ f40 11701 ≤ v53 := hq52
              refine am_rgoto rfl rfl ?_
              have J54 := am_Rf11701 (v := v53) hI42 (by omega) (by omega)
              have m55 : am_mn fz az (am_ud f40 11701 v53) a40 := am_mn.halt hm45 (by omega)
              have q56 := am_Rg11713 hI42.1.1
              exact ih (show (2 * (8 * (3500 - am_ph f40 a40 ) + 3 - (v53)) + 0).toNat < n by omega) J54 m55 (show (-2147483648 ≤ x1 ∧ x1 ≤ 2147483647) by omega) (show (-2147483648 ≤ 0 ∧ 0 ≤ 2147483647) by omega) (show (x1 = 0 ∨ x1 = 1) by omega) (show (0 = 0 ∨ 0 = 1) by omega) (show (f40 11713) ≤ 32 - 16 * x1 - 16 * 0 + 16 * (v53) by omega)
            · refine am_raload_n rfl rfl rfl ?_
              refine am_evirtualV (m := am_m163) (As := [.ref 117]) (S1 := []) rfl rfl rfl rfl rfl rfl rfl rfl rfl rfl (am_TE.void (am_ct164  (by omega) hI42) (fun f57 a57 hq58 => ?_) (fun _ _ _ h => h))
              obtain ⟨hI59, hk60, hq58⟩ := hq58
              replace hq58 : ((f40 11718)) ≤ f57 11718 ∧ f57 11718 ≤ ((f40 11718)) + 1 ∧ ((f40 11713)) ≤ f57 11713 ∧ f57 11713 ≤ ((f40 11713)) + 16 * f57 11701 := hq58
              have mm61 : f40 11701 ≤ f57 11701 ∧ am_ph f40 a40 ≤ am_ph f57 a57 ∧ am_at (a40 124) 0 ≤ am_at (a57 124) 0 ∧ am_at (a57 125) 0 = am_at (a40 125) 0 := hk60
              have hm62 := am_mn.trans hm45 hk60
              refine am_rgoto rfl rfl ?_
              have q63 := am_Rg11701 hI59.1.1
              have q64 := am_Rg11713 hI59.1.1
              exact ih (by omega) hI59 hm62 (by omega) (by omega) (by omega) (by omega) (by omega)
          · refine am_raload_n rfl rfl rfl ?_
            have ok65 : f40 11701 = 0 ∧ am_at (a40 124) (f40 11713) < am_at (a40 125) (f40 11713) := am_PK.ok hq47.2.2.1 (by omega)
            have q66 := am_Rg11713 hI42.1.1
            refine am_evirtualV (m := am_m122) (As := [.ref 117]) (S1 := []) rfl rfl rfl rfl rfl rfl rfl rfl rfl rfl (am_TE.void (am_ct123  (by omega) hI42 (show am_at (a40 124) ((f40 11713)) < am_at (a40 125) ((f40 11713)) by omega)) (fun f67 a67 hq68 => ?_) (fun _ _ _ h => h))
            obtain ⟨hI69, hk70, hq68⟩ := hq68
            replace hq68 : f67 11701 = ((f40 11701)) ∧ f67 11713 = ((f40 11713)) ∧ am_ph f67 a67 = (am_ph f40 a40 ) + 1 ∧ (((f40 11713)) = 0 → am_at (a67 124) 0 = (am_at (a40 124) 0) + 1) := hq68
            have mm71 : f40 11701 ≤ f67 11701 ∧ am_ph f40 a40 ≤ am_ph f67 a67 ∧ am_at (a40 124) 0 ≤ am_at (a67 124) 0 ∧ am_at (a67 125) 0 = am_at (a40 125) 0 := hk70.1
            have hm72 := am_mn.trans hm45 hk70.1
            refine am_riload_n rfl rfl rfl ?_
            refine am_rif_eq rfl rfl (by unfold am_rg; omega) (fun hc73 => ?_) (fun hc73 => ?_)
            · refine am_raload_n rfl rfl rfl ?_
              refine am_evirtualV (m := am_m128) (As := [.ref 117]) (S1 := []) rfl rfl rfl rfl rfl rfl rfl rfl rfl rfl (am_TE.void (am_ct129  (by omega) hI69) (fun f74 a74 hq75 => ?_) (fun _ _ _ h => h))
              obtain ⟨hI76, hk77, hq75⟩ := hq75
              replace hq75 : f74 11713 = ((f67 11713)) := hq75
              have mm78 : f67 11701 ≤ f74 11701 ∧ am_ph f67 a67 ≤ am_ph f74 a74 ∧ am_at (a67 124) 0 ≤ am_at (a74 124) 0 ∧ am_at (a74 125) 0 = am_at (a67 125) 0 := hk77.1
              have hm79 := am_mn.trans hm72 hk77.1
              refine am_rgoto rfl rfl ?_
              have q80 := am_Rg11701 hI76.1.1
              have q81 := am_Rg11713 hI76.1.1
              exact ih (by omega) hI76 hm79 (by omega) (by omega) (by omega) (by omega) (by omega)
            · refine am_raload_n rfl rfl rfl ?_
              have q82 := am_Rg11723 hI69.1.1
              refine am_rgetf (S1 := [am_iv (f67 11723)]) rfl rfl ?_
              refine am_rif_ne rfl rfl (by unfold am_rg; omega) (fun hc83 => ?_) (fun hc83 => ?_)
              · refine am_raload_n rfl rfl rfl ?_
                refine am_evirtualV (m := am_m128) (As := [.ref 117]) (S1 := []) rfl rfl rfl rfl rfl rfl rfl rfl rfl rfl (am_TE.void (am_ct129  (by omega) hI69) (fun f84 a84 hq85 => ?_) (fun _ _ _ h => h))
                obtain ⟨hI86, hk87, hq85⟩ := hq85
                replace hq85 : f84 11713 = ((f67 11713)) := hq85
                have mm88 : f67 11701 ≤ f84 11701 ∧ am_ph f67 a67 ≤ am_ph f84 a84 ∧ am_at (a67 124) 0 ≤ am_at (a84 124) 0 ∧ am_at (a84 125) 0 = am_at (a67 125) 0 := hk87.1
                have hm89 := am_mn.trans hm72 hk87.1
                refine am_rgoto rfl rfl ?_
                have q90 := am_Rg11701 hI86.1.1
                have q91 := am_Rg11713 hI86.1.1
                exact ih (by omega) hI86 hm89 (by omega) (by omega) (by omega) (by omega) (by omega)
              · refine am_raload_n rfl rfl rfl ?_
                refine am_evirtualI (m := am_m121) (As := [.ref 117]) (S1 := []) rfl rfl rfl rfl rfl rfl rfl rfl rfl rfl (am_TE.int (am_ct122  (by omega) hI69) (fun b92 f92 a92 hq93 => ?_) (fun _ _ _ h => h))
                obtain ⟨rfl, rfl, hq93⟩ := hq93
                refine am_rbipush rfl (by decide) ?_
                refine am_ric_ne rfl rfl (by unfold am_rg; omega) (by unfold am_rg; omega) (fun hc94 => ?_) (fun hc94 => ?_)
                · refine am_raload_n rfl rfl rfl ?_
                  refine am_evirtualV (m := am_m128) (As := [.ref 117]) (S1 := []) rfl rfl rfl rfl rfl rfl rfl rfl rfl rfl (am_TE.void (am_ct129  (by omega) hI69) (fun f95 a95 hq96 => ?_) (fun _ _ _ h => h))
                  obtain ⟨hI97, hk98, hq96⟩ := hq96
                  replace hq96 : f95 11713 = ((f67 11713)) := hq96
                  have mm99 : f67 11701 ≤ f95 11701 ∧ am_ph f67 a67 ≤ am_ph f95 a95 ∧ am_at (a67 124) 0 ≤ am_at (a95 124) 0 ∧ am_at (a95 125) 0 = am_at (a67 125) 0 := hk98.1
                  have hm100 := am_mn.trans hm72 hk98.1
                  refine am_rgoto rfl rfl ?_
                  have q101 := am_Rg11701 hI97.1.1
                  have q102 := am_Rg11713 hI97.1.1
                  exact ih (by omega) hI97 hm100 (by omega) (by omega) (by omega) (by omega) (by omega)
                · refine am_raload_n rfl rfl rfl ?_
                  have q103 := am_Rg11701 hI69.1.1
                  have q104 := am_Rg11713 hI69.1.1
                  refine am_evirtualV (m := am_m137) (As := [.ref 117]) (S1 := []) rfl rfl rfl rfl rfl rfl rfl rfl rfl rfl (am_TE.void (am_ct138  (by omega) hI69 (show (f67 11713) ≤ 16 * (f67 11701) by omega)) (fun f105 a105 hq106 => ?_) (fun _ _ _ h => h))
                  obtain ⟨hI107, hk108, hq106⟩ := hq106
                  replace hq106 : f105 11718 = ((f67 11718)) ∧ f105 11757 = ((f67 11757)) ∧ f105 11763 = ((f67 11763)) ∧ ((f67 11713)) ≤ f105 11713 ∧ f105 11713 ≤ ((f67 11713)) + 16 * f105 11701 := hq106
                  have mm109 : f67 11701 ≤ f105 11701 ∧ am_ph f67 a67 ≤ am_ph f105 a105 ∧ am_at (a67 124) 0 ≤ am_at (a105 124) 0 ∧ am_at (a105 125) 0 = am_at (a67 125) 0 := hk108
                  have hm110 := am_mn.trans hm72 hk108
                  refine am_rgoto rfl rfl ?_
                  have q111 := am_Rg11701 hI107.1.1
                  have q112 := am_Rg11713 hI107.1.1
                  exact ih (by omega) hI107 hm110 (by omega) (by omega) (by omega) (by omega) (by omega)
set_option maxRecDepth 100000 in
set_option maxHeartbeats 4000000 in
theorem am_ct170 {X : List Value} {w : Value} {e : Nat} {g : aF} {h : aA} {E : Nat → aF → aA → Prop} {d : Nat} {y1 : Int} {f : aF} {a : aA} (hd : 10 ≤ d) (hI : am_RV g h f a) (hp0 : (y1 = 0 ∨ y1 = 1)) (hp1 : f 11713 ≤ 16 - 16 * y1) :
    am_TE X d am_m169 0 (lv_args 0 [.ref 117, am_iv y1]) [] f a w e (am_QV (fun f1 a1 => am_RV g h f1 a1 ∧ am_mn f a f1 a1)) E := by
  obtain ⟨d, rfl⟩ : ∃ d0, d = d0 + 1 := ⟨d - 1, by omega⟩
  have q1 := am_RV_ph hI
  have q2 := am_RV_p0 hI
  have q3 := am_Rg11713 hI.1.1
  refine am_riconst rfl ?_
  refine am_ristore_n (L1 := [(0, .ref 117), (1, am_iv y1), (2, am_iv 1)]) rfl rfl rfl rfl rfl ?_
  have q4 := am_Rg11701 hI.1.1
  exact am_ct170_2 hd (_ + 1) (Nat.lt_succ_self _) hI (am_mn.refl f a) (by omega) (by omega) (by omega) (by omega) (by omega)
set_option maxRecDepth 100000 in
set_option maxHeartbeats 4000000 in
theorem am_ct171_24 {X : List Value} {w : Value} {e : Nat} {g : aF} {h : aA} {E : Nat → aF → aA → Prop} {d : Nat} (hd : 1 ≤ d + 1) (n : Nat) :
    ∀ {f : aF} {a : aA} {x1 : Int} {x2 : Int} {x3 : Int} {x4 : Int}, (am_at (a 160) x1 - x4).toNat < n → am_RV g h f a → (-2147483648 ≤ x1 ∧ x1 ≤ 2147483647) → (-2147483648 ≤ x2 ∧ x2 ≤ 2147483647) → (-2147483648 ≤ x3 ∧ x3 ≤ 2147483647) → (-2147483648 ≤ x4 ∧ x4 ≤ 2147483647) → 0 ≤ x4 → 0 ≤ x1 → x1 < f 11757 → 0 ≤ x2 → x2 < f 11757 → (x3 = 0 ∨ x3 = 1) → (x3 = 1 → am_at (a 160) x1 = am_at (a 160) x2) → am_TE X (d + 1) am_m170 24 [(0, .ref 117), (1, am_iv x1), (2, am_iv x2), (3, am_iv x3), (4, am_iv x4)] [] f a w e (am_QI (fun b f1 a1 => f = f1 ∧ a = a1 ∧ (b = 0 ∨ b = 1))) E := by
  induction n with
  | zero => intros; omega
  | succ n ih =>
    intro f a x1 x2 x3 x4 hn hI hp0 hp1 hp2 hp3 hp4 hp5 hp6 hp7 hp8 hp9 hp10
    have q1 := am_RV_ph hI
    have q2 := am_Rg11757 hI.1.1
    refine am_riload rfl rfl rfl ?_
    refine am_raload_n rfl rfl rfl ?_
    refine am_rgetf (S1 := [.ref 160, am_iv x4]) rfl rfl ?_
    refine am_riload_n rfl rfl rfl ?_
    have q3 : (a 160).length = 200 := am_Rl160 (am_RL 160 rfl hI.1.1)
    have i4 : am_ib (a 160) x1 := by unfold am_ib; omega
    have q5 := am_Rb160 (am_RL 160 rfl hI.1.1) i4
    refine am_riaload (l := a 160) rfl am_ge160 i4 ?_
    refine am_ric_ge rfl rfl (by unfold am_rg; omega) (by unfold am_rg; omega) (fun hc6 => ?_) (fun hc6 => ?_)
    · refine am_riload_n rfl rfl rfl ?_
      have q7 := am_Rg11701 hI.1.1
      exact am_ebret rfl rfl (by omega) ⟨rfl, rfl, (show (x3 = 0 ∨ x3 = 1) by omega)⟩
    · refine am_riload_n rfl rfl rfl ?_
      refine am_rif_eq rfl rfl (by unfold am_rg; omega) (fun hc8 => ?_) (fun hc8 => ?_)
      · refine am_riload_n rfl rfl rfl ?_
        have q9 := am_Rg11701 hI.1.1
        exact am_ebret rfl rfl (by omega) ⟨rfl, rfl, (show (x3 = 0 ∨ x3 = 1) by omega)⟩
      · refine am_raload_n rfl rfl rfl ?_
        refine am_rgetf (S1 := [.ref 162]) rfl rfl ?_
        refine am_raload_n rfl rfl rfl ?_
        refine am_rgetf (S1 := [.ref 159, .ref 162]) rfl rfl ?_
        refine am_riload_n rfl rfl rfl ?_
        have q10 : (a 159).length = 200 := am_Rl159 (am_RL 159 rfl hI.1.1)
        have i11 : am_ib (a 159) x1 := by unfold am_ib; omega
        have q12 := am_Rb159 (am_RL 159 rfl hI.1.1) i11
        have r6 := hI.1.2.2 x1 (by omega) (by omega)
        have r7 := am_Rg11763 hI.1.1
        refine am_riaload (l := a 159) rfl am_ge159 i11 ?_
        refine am_riload rfl rfl rfl ?_
        refine am_riadd rfl ?_
        have q13 : (a 162).length = 2000 := am_Rl162 (am_RL 162 rfl hI.1.1)
        have i14 : am_ib (a 162) ((am_at (a 159) x1) + x4) := by unfold am_ib; omega
        have q15 := am_Rb162 (am_RL 162 rfl hI.1.1) i14
        refine am_riaload (l := a 162) rfl am_ge162 i14 ?_
        refine am_raload_n rfl rfl rfl ?_
        refine am_rgetf (S1 := [.ref 162, am_iv (am_at (a 162) ((am_at (a 159) x1) + x4))]) rfl rfl ?_
        refine am_raload_n rfl rfl rfl ?_
        refine am_rgetf (S1 := [.ref 159, .ref 162, am_iv (am_at (a 162) ((am_at (a 159) x1) + x4))]) rfl rfl ?_
        refine am_riload_n rfl rfl rfl ?_
        have i16 : am_ib (a 159) x2 := by unfold am_ib; omega
        have q17 := am_Rb159 (am_RL 159 rfl hI.1.1) i16
        have r6 := hI.1.2.2 x2 (by omega) (by omega)
        have r7 := am_Rg11763 hI.1.1
        refine am_riaload (l := a 159) rfl am_ge159 i16 ?_
        refine am_riload rfl rfl rfl ?_
        refine am_riadd rfl ?_
        have i18 : am_ib (a 162) ((am_at (a 159) x2) + x4) := by unfold am_ib; omega
        have q19 := am_Rb162 (am_RL 162 rfl hI.1.1) i18
        refine am_riaload (l := a 162) rfl am_ge162 i18 ?_
        refine am_ric_ne rfl rfl (by unfold am_rg; omega) (by unfold am_rg; omega) (fun hc20 => ?_) (fun hc20 => ?_)
        · refine am_riconst rfl ?_
          refine am_ristore_n (L1 := [(0, .ref 117), (1, am_iv x1), (2, am_iv x2), (3, am_iv 0), (4, am_iv x4)]) rfl rfl rfl rfl rfl ?_
          refine am_riinc (L1 := [(0, .ref 117), (1, am_iv x1), (2, am_iv x2), (3, am_iv 0), (4, am_iv (x4 + 1))]) rfl rfl rfl rfl rfl ?_
          refine am_rgoto rfl rfl ?_
          have q21 := am_Rg11701 hI.1.1
          exact ih (by omega) hI (by omega) (by omega) (by omega) (by omega) (by omega) (by omega) (by omega) (by omega) (by omega) (by omega) (by omega)
        · refine am_riconst rfl ?_
          refine am_rgoto rfl rfl ?_
          refine am_ristore_n (L1 := [(0, .ref 117), (1, am_iv x1), (2, am_iv x2), (3, am_iv 1), (4, am_iv x4)]) rfl rfl rfl rfl rfl ?_
          refine am_riinc (L1 := [(0, .ref 117), (1, am_iv x1), (2, am_iv x2), (3, am_iv 1), (4, am_iv (x4 + 1))]) rfl rfl rfl rfl rfl ?_
          refine am_rgoto rfl rfl ?_
          have q22 := am_Rg11701 hI.1.1
          exact ih (by omega) hI (by omega) (by omega) (by omega) (by omega) (by omega) (by omega) (by omega) (by omega) (by omega) (by omega) (by omega)
set_option maxRecDepth 100000 in
set_option maxHeartbeats 4000000 in
theorem am_ct171 {X : List Value} {w : Value} {e : Nat} {g : aF} {h : aA} {E : Nat → aF → aA → Prop} {d : Nat} {y1 : Int} {y2 : Int} {f : aF} {a : aA} (hd : 1 ≤ d) (hI : am_RV g h f a) (hp0 : (-2147483648 ≤ y1 ∧ y1 ≤ 2147483647)) (hp1 : (-2147483648 ≤ y2 ∧ y2 ≤ 2147483647)) (hp2 : 0 ≤ y1) (hp3 : y1 < f 11757) (hp4 : 0 ≤ y2) (hp5 : y2 < f 11757) :
    am_TE X d am_m170 0 (lv_args 0 [.ref 117, am_iv y1, am_iv y2]) [] f a w e (am_QI (fun b f1 a1 => f = f1 ∧ a = a1 ∧ (b = 0 ∨ b = 1))) E := by
  obtain ⟨d, rfl⟩ : ∃ d0, d = d0 + 1 := ⟨d - 1, by omega⟩
  have q1 := am_RV_ph hI
  have q2 := am_Rg11757 hI.1.1
  refine am_raload_n rfl rfl rfl ?_
  refine am_rgetf (S1 := [.ref 160]) rfl rfl ?_
  refine am_riload_n rfl rfl rfl ?_
  have q3 : (a 160).length = 200 := am_Rl160 (am_RL 160 rfl hI.1.1)
  have i4 : am_ib (a 160) y1 := by unfold am_ib; omega
  have q5 := am_Rb160 (am_RL 160 rfl hI.1.1) i4
  refine am_riaload (l := a 160) rfl am_ge160 i4 ?_
  refine am_raload_n rfl rfl rfl ?_
  refine am_rgetf (S1 := [.ref 160, am_iv (am_at (a 160) y1)]) rfl rfl ?_
  refine am_riload_n rfl rfl rfl ?_
  have i6 : am_ib (a 160) y2 := by unfold am_ib; omega
  have q7 := am_Rb160 (am_RL 160 rfl hI.1.1) i6
  refine am_riaload (l := a 160) rfl am_ge160 i6 ?_
  refine am_ric_ne rfl rfl (by unfold am_rg; omega) (by unfold am_rg; omega) (fun hc8 => ?_) (fun hc8 => ?_)
  · refine am_riconst rfl ?_
    refine am_ristore_n (L1 := [(0, .ref 117), (1, am_iv y1), (2, am_iv y2), (3, am_iv 0)]) rfl rfl rfl rfl rfl ?_
    refine am_riconst rfl ?_
    refine am_ristore (L1 := [(0, .ref 117), (1, am_iv y1), (2, am_iv y2), (3, am_iv 0), (4, am_iv 0)]) rfl rfl rfl rfl rfl ?_
    have q9 := am_Rg11701 hI.1.1
    exact am_ct171_24 hd (_ + 1) (Nat.lt_succ_self _) hI (by omega) (by omega) (by omega) (by omega) (by omega) (by omega) (by omega) (by omega) (by omega) (by omega) (by omega)
  · refine am_riconst rfl ?_
    refine am_rgoto rfl rfl ?_
    refine am_ristore_n (L1 := [(0, .ref 117), (1, am_iv y1), (2, am_iv y2), (3, am_iv 1)]) rfl rfl rfl rfl rfl ?_
    refine am_riconst rfl ?_
    refine am_ristore (L1 := [(0, .ref 117), (1, am_iv y1), (2, am_iv y2), (3, am_iv 1), (4, am_iv 0)]) rfl rfl rfl rfl rfl ?_
    have q10 := am_Rg11701 hI.1.1
    exact am_ct171_24 hd (_ + 1) (Nat.lt_succ_self _) hI (by omega) (by omega) (by omega) (by omega) (by omega) (by omega) (by omega) (by omega) (by omega) (by omega) (by omega)
set_option maxRecDepth 100000 in
set_option maxHeartbeats 4000000 in
theorem am_ct172_L2 {X : List Value} {w : Value} {e : Nat} {g : aF} {h : aA} {E : Nat → aF → aA → Prop} {d : Nat} {z11757 : Int} {z11763 : Int} {z11701 : Int} {fz : aF} {az : aA} (hd : 2 ≤ d + 1) (n : Nat) :
    (∀ {f : aF} {a : aA} {x1 : Int}, (300 * (201 - x1) + 250).toNat < n → am_RV g h f a → am_mn fz az f a → (-2147483648 ≤ x1 ∧ x1 ≤ 2147483647) → 0 ≤ x1 → x1 ≤ 200 → f 11757 = z11757 → f 11763 = z11763 → f 11701 = z11701 → am_TE X (d + 1) am_m171 2 [(0, .ref 117), (1, am_iv x1)] [] f a w e (am_QV (fun f1 a1 => am_RV g h f1 a1 ∧ am_mn fz az f1 a1 ∧ f1 11757 = z11757 ∧ f1 11763 = z11763 ∧ f1 11701 = z11701)) E) ∧ (∀ {f : aF} {a : aA} {x1 : Int} {x2 : Int} {x3 : Int}, (300 * (201 - x1) + 200 - x3).toNat < n → am_RV g h f a → am_mn fz az f a → (-2147483648 ≤ x1 ∧ x1 ≤ 2147483647) → (-2147483648 ≤ x2 ∧ x2 ≤ 2147483647) → (-2147483648 ≤ x3 ∧ x3 ≤ 2147483647) → 0 ≤ x1 → x1 < f 11757 → 0 ≤ x3 → x3 ≤ 200 → (x2 = 0 ∨ x2 = 1) → f 11757 = z11757 → f 11763 = z11763 → f 11701 = z11701 → am_TE X (d + 1) am_m171 14 [(0, .ref 117), (1, am_iv x1), (2, am_iv x2), (3, am_iv x3)] [] f a w e (am_QV (fun f1 a1 => am_RV g h f1 a1 ∧ am_mn fz az f1 a1 ∧ f1 11757 = z11757 ∧ f1 11763 = z11763 ∧ f1 11701 = z11701)) E) := by
  induction n with
  | zero => refine ⟨?_, ?_⟩ <;> intros <;> omega
  | succ n ih =>
    refine ⟨?_, ?_⟩
    · intro f a x1 hn hI hp0 hp1 hp2 hp3 hp4 hp5 hp6
      have q1 := am_RV_ph hI
      have q2 := am_RV_p0 hI
      have q3 := am_Rg11757 hI.1.1
      have q4 := am_Rg11763 hI.1.1
      have q5 := am_Rg11701 hI.1.1
      refine am_riload_n rfl rfl rfl ?_
      refine am_raload_n rfl rfl rfl ?_
      refine am_rgetf (S1 := [am_iv (f 11757), am_iv x1]) rfl rfl ?_
      refine am_ric_ge rfl rfl (by unfold am_rg; omega) (by unfold am_rg; omega) (fun hc6 => ?_) (fun hc6 => ?_)
      · exact am_eret rfl rfl ⟨hI, hp0, (show f 11757 = z11757 by omega), (show f 11763 = z11763 by omega), (show f 11701 = z11701 by omega)⟩
      · refine am_riconst rfl ?_
        refine am_ristore_n (L1 := [(0, .ref 117), (1, am_iv x1), (2, am_iv 0)]) rfl rfl rfl rfl rfl ?_
        refine am_riconst rfl ?_
        refine am_ristore_n (L1 := [(0, .ref 117), (1, am_iv x1), (2, am_iv 0), (3, am_iv 0)]) rfl rfl rfl rfl rfl ?_
        exact ih.2 (by omega) hI hp0 (by omega) (by omega) (by omega) (by omega) (by omega) (by omega) (by omega) (by omega) (by omega) (by omega) (by omega)
    · intro f a x1 x2 x3 hn hI hp0 hp1 hp2 hp3 hp4 hp5 hp6 hp7 hp8 hp9 hp10 hp11
      have q1 := am_RV_ph hI
      have q2 := am_RV_p0 hI
      have q3 := am_Rg11757 hI.1.1
      have q4 := am_Rg11763 hI.1.1
      have q5 := am_Rg11701 hI.1.1
      refine am_riload_n rfl rfl rfl ?_
      refine am_raload_n rfl rfl rfl ?_
      refine am_rgetf (S1 := [am_iv (f 11757), am_iv x3]) rfl rfl ?_
      refine am_ric_ge rfl rfl (by unfold am_rg; omega) (by unfold am_rg; omega) (fun hc6 => ?_) (fun hc6 => ?_)
      · refine am_raload_n rfl rfl rfl ?_
        refine am_rgetf (S1 := [.ref 161]) rfl rfl ?_
        refine am_riload_n rfl rfl rfl ?_
        have q7 : (a 161).length = 200 := am_Rl161 (am_RL 161 rfl hI.1.1)
        have i8 : am_ib (a 161) x1 := by unfold am_ib; omega
        have q9 := am_Rb161 (am_RL 161 rfl hI.1.1) i8
        refine am_riaload (l := a 161) rfl am_ge161 i8 ?_
        refine am_riconst rfl ?_
        refine am_ric_ne rfl rfl (by unfold am_rg; omega) (by unfold am_rg; omega) (fun hc10 => ?_) (fun hc10 => ?_)
        · refine am_riinc (L1 := [(0, .ref 117), (1, am_iv (x1 + 1)), (2, am_iv x2), (3, am_iv x3)]) rfl rfl rfl rfl rfl ?_
          refine am_rgoto rfl rfl ?_
          exact am_T.drop (L1 := [(0, .ref 117), (1, am_iv (x1 + 1))]) (ih.1 (by omega) hI hp0 (by omega) (by omega) (by omega) (by omega) (by omega) (by omega)) (by simp)
        · refine am_riload_n rfl rfl rfl ?_
          refine am_rif_ne rfl rfl (by unfold am_rg; omega) (fun hc11 => ?_) (fun hc11 => ?_)
          · refine am_riinc (L1 := [(0, .ref 117), (1, am_iv (x1 + 1)), (2, am_iv x2), (3, am_iv x3)]) rfl rfl rfl rfl rfl ?_
            refine am_rgoto rfl rfl ?_
            exact am_T.drop (L1 := [(0, .ref 117), (1, am_iv (x1 + 1))]) (ih.1 (by omega) hI hp0 (by omega) (by omega) (by omega) (by omega) (by omega) (by omega)) (by simp)
          · refine am_raload_n rfl rfl rfl ?_
            refine am_rdup rfl rfl ?_
            have q12 := am_Rg11704 hI.1.1
            refine am_rgetf (S1 := [am_iv (f 11704), .ref 117]) rfl rfl ?_
            refine am_rsipush rfl (by decide) ?_
            have q13 := am_or_rg (f 11704) 256
            refine am_rior rfl ?_
            refine am_rputf (S1 := []) (h1 := am_enc (am_ud f 11704 (am_or (f 11704) 256)) a w e) rfl (am_pfB rfl am_ge117 rfl (am_sf11704 _)) (by rw [am_enc_len, am_enc_len]) ?_
            refine am_riinc (L1 := [(0, .ref 117), (1, am_iv (x1 + 1)), (2, am_iv x2), (3, am_iv x3)]) rfl rfl rfl rfl rfl ?_
            refine am_rgoto rfl rfl ?_
            have J14 := am_Rf11704 (v := am_or (f 11704) 256) hI (by omega) (by omega)
            have m15 : am_mn fz az (am_ud f 11704 (am_or (f 11704) 256)) a := am_mn_f rfl rfl rfl hp0
            exact am_T.drop (L1 := [(0, .ref 117), (1, am_iv (x1 + 1))]) (ih.1 (show (300 * (201 - (x1 + 1)) + 250).toNat < n by omega) J14 m15 (show (-2147483648 ≤ (x1 + 1) ∧ (x1 + 1) ≤ 2147483647) by omega) (show 0 ≤ (x1 + 1) by omega) (show (x1 + 1) ≤ 200 by omega) (show (f 11757) = z11757 by omega) (show (f 11763) = z11763 by omega) (show (f 11701) = z11701 by omega)) (by simp)
      · refine am_raload_n rfl rfl rfl ?_
        refine am_rgetf (S1 := [.ref 161]) rfl rfl ?_
        refine am_riload_n rfl rfl rfl ?_
        have q16 : (a 161).length = 200 := am_Rl161 (am_RL 161 rfl hI.1.1)
        have i17 : am_ib (a 161) x3 := by unfold am_ib; omega
        have q18 := am_Rb161 (am_RL 161 rfl hI.1.1) i17
        refine am_riaload (l := a 161) rfl am_ge161 i17 ?_
        refine am_riconst rfl ?_
        refine am_ric_ne rfl rfl (by unfold am_rg; omega) (by unfold am_rg; omega) (fun hc19 => ?_) (fun hc19 => ?_)
        · refine am_riconst rfl ?_
          refine am_ristore (L1 := [(0, .ref 117), (1, am_iv x1), (2, am_iv x2), (3, am_iv x3), (4, am_iv 0)]) rfl rfl rfl rfl rfl ?_
          refine am_raload_n rfl rfl rfl ?_
          refine am_rgetf (S1 := [.ref 161]) rfl rfl ?_
          refine am_riload_n rfl rfl rfl ?_
          have i20 : am_ib (a 161) x1 := by unfold am_ib; omega
          have q21 := am_Rb161 (am_RL 161 rfl hI.1.1) i20
          refine am_riaload (l := a 161) rfl am_ge161 i20 ?_
          refine am_riconst rfl ?_
          refine am_ric_ne rfl rfl (by unfold am_rg; omega) (by unfold am_rg; omega) (fun hc22 => ?_) (fun hc22 => ?_)
          · refine am_riload_n rfl rfl rfl ?_
            refine am_rif_ne rfl rfl (by unfold am_rg; omega) (fun hc23 => ?_) (fun hc23 => ?_)
            · refine am_riconst rfl ?_
              refine am_rgoto rfl rfl ?_
              refine am_ristore_n (L1 := [(0, .ref 117), (1, am_iv x1), (2, am_iv 1), (3, am_iv x3), (4, am_iv 0)]) rfl rfl rfl rfl rfl ?_
              refine am_riinc (L1 := [(0, .ref 117), (1, am_iv x1), (2, am_iv 1), (3, am_iv (x3 + 1)), (4, am_iv 0)]) rfl rfl rfl rfl rfl ?_
              refine am_rgoto rfl rfl ?_
              exact am_T.drop (L1 := [(0, .ref 117), (1, am_iv x1), (2, am_iv 1), (3, am_iv (x3 + 1))]) (ih.2 (by omega) hI hp0 (by omega) (by omega) (by omega) (by omega) (by omega) (by omega) (by omega) (by omega) (by omega) (by omega) (by omega)) (by simp)
            · refine am_riload rfl rfl rfl ?_
              refine am_rif_eq rfl rfl (by unfold am_rg; omega) (fun hc24 => ?_) (fun hc24 => ?_)
              rotate_left
              · exfalso; omega
              refine am_riconst rfl ?_
              refine am_ristore_n (L1 := [(0, .ref 117), (1, am_iv x1), (2, am_iv 0), (3, am_iv x3), (4, am_iv 0)]) rfl rfl rfl rfl rfl ?_
              refine am_riinc (L1 := [(0, .ref 117), (1, am_iv x1), (2, am_iv 0), (3, am_iv (x3 + 1)), (4, am_iv 0)]) rfl rfl rfl rfl rfl ?_
              refine am_rgoto rfl rfl ?_
              exact am_T.drop (L1 := [(0, .ref 117), (1, am_iv x1), (2, am_iv 0), (3, am_iv (x3 + 1))]) (ih.2 (by omega) hI hp0 (by omega) (by omega) (by omega) (by omega) (by omega) (by omega) (by omega) (by omega) (by omega) (by omega) (by omega)) (by simp)
          · refine am_riload rfl rfl rfl ?_
            refine am_rif_eq rfl rfl (by unfold am_rg; omega) (fun hc25 => ?_) (fun hc25 => ?_)
            rotate_left
            · exfalso; omega
            refine am_riload_n rfl rfl rfl ?_
            refine am_rif_ne rfl rfl (by unfold am_rg; omega) (fun hc26 => ?_) (fun hc26 => ?_)
            · refine am_riconst rfl ?_
              refine am_rgoto rfl rfl ?_
              refine am_ristore_n (L1 := [(0, .ref 117), (1, am_iv x1), (2, am_iv 1), (3, am_iv x3), (4, am_iv 0)]) rfl rfl rfl rfl rfl ?_
              refine am_riinc (L1 := [(0, .ref 117), (1, am_iv x1), (2, am_iv 1), (3, am_iv (x3 + 1)), (4, am_iv 0)]) rfl rfl rfl rfl rfl ?_
              refine am_rgoto rfl rfl ?_
              exact am_T.drop (L1 := [(0, .ref 117), (1, am_iv x1), (2, am_iv 1), (3, am_iv (x3 + 1))]) (ih.2 (by omega) hI hp0 (by omega) (by omega) (by omega) (by omega) (by omega) (by omega) (by omega) (by omega) (by omega) (by omega) (by omega)) (by simp)
            · refine am_riload rfl rfl rfl ?_
              refine am_rif_eq rfl rfl (by unfold am_rg; omega) (fun hc27 => ?_) (fun hc27 => ?_)
              rotate_left
              · exfalso; omega
              refine am_riconst rfl ?_
              refine am_ristore_n (L1 := [(0, .ref 117), (1, am_iv x1), (2, am_iv 0), (3, am_iv x3), (4, am_iv 0)]) rfl rfl rfl rfl rfl ?_
              refine am_riinc (L1 := [(0, .ref 117), (1, am_iv x1), (2, am_iv 0), (3, am_iv (x3 + 1)), (4, am_iv 0)]) rfl rfl rfl rfl rfl ?_
              refine am_rgoto rfl rfl ?_
              exact am_T.drop (L1 := [(0, .ref 117), (1, am_iv x1), (2, am_iv 0), (3, am_iv (x3 + 1))]) (ih.2 (by omega) hI hp0 (by omega) (by omega) (by omega) (by omega) (by omega) (by omega) (by omega) (by omega) (by omega) (by omega) (by omega)) (by simp)
        · refine am_riload_n rfl rfl rfl ?_
          refine am_riload_n rfl rfl rfl ?_
          refine am_ric_eq rfl rfl (by unfold am_rg; omega) (by unfold am_rg; omega) (fun hc28 => ?_) (fun hc28 => ?_)
          · refine am_riconst rfl ?_
            refine am_ristore (L1 := [(0, .ref 117), (1, am_iv x1), (2, am_iv x2), (3, am_iv x3), (4, am_iv 0)]) rfl rfl rfl rfl rfl ?_
            refine am_raload_n rfl rfl rfl ?_
            refine am_rgetf (S1 := [.ref 161]) rfl rfl ?_
            refine am_riload_n rfl rfl rfl ?_
            have i29 : am_ib (a 161) x1 := by unfold am_ib; omega
            have q30 := am_Rb161 (am_RL 161 rfl hI.1.1) i29
            refine am_riaload (l := a 161) rfl am_ge161 i29 ?_
            refine am_riconst rfl ?_
            refine am_ric_ne rfl rfl (by unfold am_rg; omega) (by unfold am_rg; omega) (fun hc31 => ?_) (fun hc31 => ?_)
            · refine am_riload_n rfl rfl rfl ?_
              refine am_rif_ne rfl rfl (by unfold am_rg; omega) (fun hc32 => ?_) (fun hc32 => ?_)
              · refine am_riconst rfl ?_
                refine am_rgoto rfl rfl ?_
                refine am_ristore_n (L1 := [(0, .ref 117), (1, am_iv x1), (2, am_iv 1), (3, am_iv x3), (4, am_iv 0)]) rfl rfl rfl rfl rfl ?_
                refine am_riinc (L1 := [(0, .ref 117), (1, am_iv x1), (2, am_iv 1), (3, am_iv (x3 + 1)), (4, am_iv 0)]) rfl rfl rfl rfl rfl ?_
                refine am_rgoto rfl rfl ?_
                exact am_T.drop (L1 := [(0, .ref 117), (1, am_iv x1), (2, am_iv 1), (3, am_iv (x3 + 1))]) (ih.2 (by omega) hI hp0 (by omega) (by omega) (by omega) (by omega) (by omega) (by omega) (by omega) (by omega) (by omega) (by omega) (by omega)) (by simp)
              · refine am_riload rfl rfl rfl ?_
                refine am_rif_eq rfl rfl (by unfold am_rg; omega) (fun hc33 => ?_) (fun hc33 => ?_)
                rotate_left
                · exfalso; omega
                refine am_riconst rfl ?_
                refine am_ristore_n (L1 := [(0, .ref 117), (1, am_iv x1), (2, am_iv 0), (3, am_iv x3), (4, am_iv 0)]) rfl rfl rfl rfl rfl ?_
                refine am_riinc (L1 := [(0, .ref 117), (1, am_iv x1), (2, am_iv 0), (3, am_iv (x3 + 1)), (4, am_iv 0)]) rfl rfl rfl rfl rfl ?_
                refine am_rgoto rfl rfl ?_
                exact am_T.drop (L1 := [(0, .ref 117), (1, am_iv x1), (2, am_iv 0), (3, am_iv (x3 + 1))]) (ih.2 (by omega) hI hp0 (by omega) (by omega) (by omega) (by omega) (by omega) (by omega) (by omega) (by omega) (by omega) (by omega) (by omega)) (by simp)
            · refine am_riload rfl rfl rfl ?_
              refine am_rif_eq rfl rfl (by unfold am_rg; omega) (fun hc34 => ?_) (fun hc34 => ?_)
              rotate_left
              · exfalso; omega
              refine am_riload_n rfl rfl rfl ?_
              refine am_rif_ne rfl rfl (by unfold am_rg; omega) (fun hc35 => ?_) (fun hc35 => ?_)
              · refine am_riconst rfl ?_
                refine am_rgoto rfl rfl ?_
                refine am_ristore_n (L1 := [(0, .ref 117), (1, am_iv x1), (2, am_iv 1), (3, am_iv x3), (4, am_iv 0)]) rfl rfl rfl rfl rfl ?_
                refine am_riinc (L1 := [(0, .ref 117), (1, am_iv x1), (2, am_iv 1), (3, am_iv (x3 + 1)), (4, am_iv 0)]) rfl rfl rfl rfl rfl ?_
                refine am_rgoto rfl rfl ?_
                exact am_T.drop (L1 := [(0, .ref 117), (1, am_iv x1), (2, am_iv 1), (3, am_iv (x3 + 1))]) (ih.2 (by omega) hI hp0 (by omega) (by omega) (by omega) (by omega) (by omega) (by omega) (by omega) (by omega) (by omega) (by omega) (by omega)) (by simp)
              · refine am_riload rfl rfl rfl ?_
                refine am_rif_eq rfl rfl (by unfold am_rg; omega) (fun hc36 => ?_) (fun hc36 => ?_)
                rotate_left
                · exfalso; omega
                refine am_riconst rfl ?_
                refine am_ristore_n (L1 := [(0, .ref 117), (1, am_iv x1), (2, am_iv 0), (3, am_iv x3), (4, am_iv 0)]) rfl rfl rfl rfl rfl ?_
                refine am_riinc (L1 := [(0, .ref 117), (1, am_iv x1), (2, am_iv 0), (3, am_iv (x3 + 1)), (4, am_iv 0)]) rfl rfl rfl rfl rfl ?_
                refine am_rgoto rfl rfl ?_
                exact am_T.drop (L1 := [(0, .ref 117), (1, am_iv x1), (2, am_iv 0), (3, am_iv (x3 + 1))]) (ih.2 (by omega) hI hp0 (by omega) (by omega) (by omega) (by omega) (by omega) (by omega) (by omega) (by omega) (by omega) (by omega) (by omega)) (by simp)
          · refine am_raload_n rfl rfl rfl ?_
            refine am_riload_n rfl rfl rfl ?_
            refine am_riload_n rfl rfl rfl ?_
            refine am_evirtualI (m := am_m170) (As := [.ref 117, am_iv x1, am_iv x3]) (S1 := []) rfl rfl rfl rfl rfl rfl rfl rfl rfl rfl (am_TE.int (am_ct171 (y1 := x1) (y2 := x3) (by omega) hI (by omega) (by omega) (show 0 ≤ x1 by omega) (show x1 < (f 11757) by omega) (show 0 ≤ x3 by omega) (show x3 < (f 11757) by omega)) (fun b37 f37 a37 hq38 => ?_) (fun _ _ _ h => h))
            obtain ⟨rfl, rfl, hq38⟩ := hq38
            refine am_rif_eq rfl rfl (by unfold am_rg; omega) (fun hc39 => ?_) (fun hc39 => ?_)
            · refine am_riconst rfl ?_
              refine am_ristore (L1 := [(0, .ref 117), (1, am_iv x1), (2, am_iv x2), (3, am_iv x3), (4, am_iv 0)]) rfl rfl rfl rfl rfl ?_
              refine am_raload_n rfl rfl rfl ?_
              refine am_rgetf (S1 := [.ref 161]) rfl rfl ?_
              refine am_riload_n rfl rfl rfl ?_
              have i40 : am_ib (a 161) x1 := by unfold am_ib; omega
              have q41 := am_Rb161 (am_RL 161 rfl hI.1.1) i40
              refine am_riaload (l := a 161) rfl am_ge161 i40 ?_
              refine am_riconst rfl ?_
              refine am_ric_ne rfl rfl (by unfold am_rg; omega) (by unfold am_rg; omega) (fun hc42 => ?_) (fun hc42 => ?_)
              · refine am_riload_n rfl rfl rfl ?_
                refine am_rif_ne rfl rfl (by unfold am_rg; omega) (fun hc43 => ?_) (fun hc43 => ?_)
                · refine am_riconst rfl ?_
                  refine am_rgoto rfl rfl ?_
                  refine am_ristore_n (L1 := [(0, .ref 117), (1, am_iv x1), (2, am_iv 1), (3, am_iv x3), (4, am_iv 0)]) rfl rfl rfl rfl rfl ?_
                  refine am_riinc (L1 := [(0, .ref 117), (1, am_iv x1), (2, am_iv 1), (3, am_iv (x3 + 1)), (4, am_iv 0)]) rfl rfl rfl rfl rfl ?_
                  refine am_rgoto rfl rfl ?_
                  exact am_T.drop (L1 := [(0, .ref 117), (1, am_iv x1), (2, am_iv 1), (3, am_iv (x3 + 1))]) (ih.2 (by omega) hI hp0 (by omega) (by omega) (by omega) (by omega) (by omega) (by omega) (by omega) (by omega) (by omega) (by omega) (by omega)) (by simp)
                · refine am_riload rfl rfl rfl ?_
                  refine am_rif_eq rfl rfl (by unfold am_rg; omega) (fun hc44 => ?_) (fun hc44 => ?_)
                  rotate_left
                  · exfalso; omega
                  refine am_riconst rfl ?_
                  refine am_ristore_n (L1 := [(0, .ref 117), (1, am_iv x1), (2, am_iv 0), (3, am_iv x3), (4, am_iv 0)]) rfl rfl rfl rfl rfl ?_
                  refine am_riinc (L1 := [(0, .ref 117), (1, am_iv x1), (2, am_iv 0), (3, am_iv (x3 + 1)), (4, am_iv 0)]) rfl rfl rfl rfl rfl ?_
                  refine am_rgoto rfl rfl ?_
                  exact am_T.drop (L1 := [(0, .ref 117), (1, am_iv x1), (2, am_iv 0), (3, am_iv (x3 + 1))]) (ih.2 (by omega) hI hp0 (by omega) (by omega) (by omega) (by omega) (by omega) (by omega) (by omega) (by omega) (by omega) (by omega) (by omega)) (by simp)
              · refine am_riload rfl rfl rfl ?_
                refine am_rif_eq rfl rfl (by unfold am_rg; omega) (fun hc45 => ?_) (fun hc45 => ?_)
                rotate_left
                · exfalso; omega
                refine am_riload_n rfl rfl rfl ?_
                refine am_rif_ne rfl rfl (by unfold am_rg; omega) (fun hc46 => ?_) (fun hc46 => ?_)
                · refine am_riconst rfl ?_
                  refine am_rgoto rfl rfl ?_
                  refine am_ristore_n (L1 := [(0, .ref 117), (1, am_iv x1), (2, am_iv 1), (3, am_iv x3), (4, am_iv 0)]) rfl rfl rfl rfl rfl ?_
                  refine am_riinc (L1 := [(0, .ref 117), (1, am_iv x1), (2, am_iv 1), (3, am_iv (x3 + 1)), (4, am_iv 0)]) rfl rfl rfl rfl rfl ?_
                  refine am_rgoto rfl rfl ?_
                  exact am_T.drop (L1 := [(0, .ref 117), (1, am_iv x1), (2, am_iv 1), (3, am_iv (x3 + 1))]) (ih.2 (by omega) hI hp0 (by omega) (by omega) (by omega) (by omega) (by omega) (by omega) (by omega) (by omega) (by omega) (by omega) (by omega)) (by simp)
                · refine am_riload rfl rfl rfl ?_
                  refine am_rif_eq rfl rfl (by unfold am_rg; omega) (fun hc47 => ?_) (fun hc47 => ?_)
                  rotate_left
                  · exfalso; omega
                  refine am_riconst rfl ?_
                  refine am_ristore_n (L1 := [(0, .ref 117), (1, am_iv x1), (2, am_iv 0), (3, am_iv x3), (4, am_iv 0)]) rfl rfl rfl rfl rfl ?_
                  refine am_riinc (L1 := [(0, .ref 117), (1, am_iv x1), (2, am_iv 0), (3, am_iv (x3 + 1)), (4, am_iv 0)]) rfl rfl rfl rfl rfl ?_
                  refine am_rgoto rfl rfl ?_
                  exact am_T.drop (L1 := [(0, .ref 117), (1, am_iv x1), (2, am_iv 0), (3, am_iv (x3 + 1))]) (ih.2 (by omega) hI hp0 (by omega) (by omega) (by omega) (by omega) (by omega) (by omega) (by omega) (by omega) (by omega) (by omega) (by omega)) (by simp)
            · refine am_riconst rfl ?_
              refine am_rgoto rfl rfl ?_
              refine am_ristore (L1 := [(0, .ref 117), (1, am_iv x1), (2, am_iv x2), (3, am_iv x3), (4, am_iv 1)]) rfl rfl rfl rfl rfl ?_
              refine am_raload_n rfl rfl rfl ?_
              refine am_rgetf (S1 := [.ref 161]) rfl rfl ?_
              refine am_riload_n rfl rfl rfl ?_
              have i48 : am_ib (a 161) x1 := by unfold am_ib; omega
              have q49 := am_Rb161 (am_RL 161 rfl hI.1.1) i48
              refine am_riaload (l := a 161) rfl am_ge161 i48 ?_
              refine am_riconst rfl ?_
              refine am_ric_ne rfl rfl (by unfold am_rg; omega) (by unfold am_rg; omega) (fun hc50 => ?_) (fun hc50 => ?_)
              · refine am_riload_n rfl rfl rfl ?_
                refine am_rif_ne rfl rfl (by unfold am_rg; omega) (fun hc51 => ?_) (fun hc51 => ?_)
                · refine am_riconst rfl ?_
                  refine am_rgoto rfl rfl ?_
                  refine am_ristore_n (L1 := [(0, .ref 117), (1, am_iv x1), (2, am_iv 1), (3, am_iv x3), (4, am_iv 1)]) rfl rfl rfl rfl rfl ?_
                  refine am_riinc (L1 := [(0, .ref 117), (1, am_iv x1), (2, am_iv 1), (3, am_iv (x3 + 1)), (4, am_iv 1)]) rfl rfl rfl rfl rfl ?_
                  refine am_rgoto rfl rfl ?_
                  exact am_T.drop (L1 := [(0, .ref 117), (1, am_iv x1), (2, am_iv 1), (3, am_iv (x3 + 1))]) (ih.2 (by omega) hI hp0 (by omega) (by omega) (by omega) (by omega) (by omega) (by omega) (by omega) (by omega) (by omega) (by omega) (by omega)) (by simp)
                · refine am_riload rfl rfl rfl ?_
                  refine am_rif_eq rfl rfl (by unfold am_rg; omega) (fun hc52 => ?_) (fun hc52 => ?_)
                  · exfalso; omega
                  refine am_riconst rfl ?_
                  refine am_rgoto rfl rfl ?_
                  refine am_ristore_n (L1 := [(0, .ref 117), (1, am_iv x1), (2, am_iv 1), (3, am_iv x3), (4, am_iv 1)]) rfl rfl rfl rfl rfl ?_
                  refine am_riinc (L1 := [(0, .ref 117), (1, am_iv x1), (2, am_iv 1), (3, am_iv (x3 + 1)), (4, am_iv 1)]) rfl rfl rfl rfl rfl ?_
                  refine am_rgoto rfl rfl ?_
                  exact am_T.drop (L1 := [(0, .ref 117), (1, am_iv x1), (2, am_iv 1), (3, am_iv (x3 + 1))]) (ih.2 (by omega) hI hp0 (by omega) (by omega) (by omega) (by omega) (by omega) (by omega) (by omega) (by omega) (by omega) (by omega) (by omega)) (by simp)
              · refine am_riload rfl rfl rfl ?_
                refine am_rif_eq rfl rfl (by unfold am_rg; omega) (fun hc53 => ?_) (fun hc53 => ?_)
                · exfalso; omega
                refine am_raload_n rfl rfl rfl ?_
                refine am_rdup rfl rfl ?_
                have q54 := am_Rg11704 hI.1.1
                refine am_rgetf (S1 := [am_iv (f 11704), .ref 117]) rfl rfl ?_
                refine am_rsipush rfl (by decide) ?_
                have q55 := am_or_rg (f 11704) 128
                refine am_rior rfl ?_
                refine am_rputf (S1 := []) (h1 := am_enc (am_ud f 11704 (am_or (f 11704) 128)) a w e) rfl (am_pfB rfl am_ge117 rfl (am_sf11704 _)) (by rw [am_enc_len, am_enc_len]) ?_
                refine am_riload_n rfl rfl rfl ?_
                refine am_rif_ne rfl rfl (by unfold am_rg; omega) (fun hc56 => ?_) (fun hc56 => ?_)
                · refine am_riconst rfl ?_
                  refine am_rgoto rfl rfl ?_
                  refine am_ristore_n (L1 := [(0, .ref 117), (1, am_iv x1), (2, am_iv 1), (3, am_iv x3), (4, am_iv 1)]) rfl rfl rfl rfl rfl ?_
                  refine am_riinc (L1 := [(0, .ref 117), (1, am_iv x1), (2, am_iv 1), (3, am_iv (x3 + 1)), (4, am_iv 1)]) rfl rfl rfl rfl rfl ?_
                  refine am_rgoto rfl rfl ?_
                  have J57 := am_Rf11704 (v := am_or (f 11704) 128) hI (by omega) (by omega)
                  have m58 : am_mn fz az (am_ud f 11704 (am_or (f 11704) 128)) a := am_mn_f rfl rfl rfl hp0
                  exact am_T.drop (L1 := [(0, .ref 117), (1, am_iv x1), (2, am_iv 1), (3, am_iv (x3 + 1))]) (ih.2 (show (300 * (201 - x1) + 200 - (x3 + 1)).toNat < n by omega) J57 m58 (show (-2147483648 ≤ x1 ∧ x1 ≤ 2147483647) by omega) (show (-2147483648 ≤ 1 ∧ 1 ≤ 2147483647) by omega) (show (-2147483648 ≤ (x3 + 1) ∧ (x3 + 1) ≤ 2147483647) by omega) (show 0 ≤ x1 by omega) (show x1 < (f 11757) by omega) (show 0 ≤ (x3 + 1) by omega) (show (x3 + 1) ≤ 200 by omega) (show (1 = 0 ∨ 1 = 1) by omega) (show (f 11757) = z11757 by omega) (show (f 11763) = z11763 by omega) (show (f 11701) = z11701 by omega)) (by simp)
                · refine am_riload rfl rfl rfl ?_
                  refine am_rif_eq rfl rfl (by unfold am_rg; omega) (fun hc59 => ?_) (fun hc59 => ?_)
                  · exfalso; omega
                  refine am_riconst rfl ?_
                  refine am_rgoto rfl rfl ?_
                  refine am_ristore_n (L1 := [(0, .ref 117), (1, am_iv x1), (2, am_iv 1), (3, am_iv x3), (4, am_iv 1)]) rfl rfl rfl rfl rfl ?_
                  refine am_riinc (L1 := [(0, .ref 117), (1, am_iv x1), (2, am_iv 1), (3, am_iv (x3 + 1)), (4, am_iv 1)]) rfl rfl rfl rfl rfl ?_
                  refine am_rgoto rfl rfl ?_
                  have J60 := am_Rf11704 (v := am_or (f 11704) 128) hI (by omega) (by omega)
                  have m61 : am_mn fz az (am_ud f 11704 (am_or (f 11704) 128)) a := am_mn_f rfl rfl rfl hp0
                  exact am_T.drop (L1 := [(0, .ref 117), (1, am_iv x1), (2, am_iv 1), (3, am_iv (x3 + 1))]) (ih.2 (show (300 * (201 - x1) + 200 - (x3 + 1)).toNat < n by omega) J60 m61 (show (-2147483648 ≤ x1 ∧ x1 ≤ 2147483647) by omega) (show (-2147483648 ≤ 1 ∧ 1 ≤ 2147483647) by omega) (show (-2147483648 ≤ (x3 + 1) ∧ (x3 + 1) ≤ 2147483647) by omega) (show 0 ≤ x1 by omega) (show x1 < (f 11757) by omega) (show 0 ≤ (x3 + 1) by omega) (show (x3 + 1) ≤ 200 by omega) (show (1 = 0 ∨ 1 = 1) by omega) (show (f 11757) = z11757 by omega) (show (f 11763) = z11763 by omega) (show (f 11701) = z11701 by omega)) (by simp)
set_option maxRecDepth 100000 in
set_option maxHeartbeats 4000000 in
theorem am_ct172_2 {X : List Value} {w : Value} {e : Nat} {g : aF} {h : aA} {E : Nat → aF → aA → Prop} {d : Nat} {z11757 : Int} {z11763 : Int} {z11701 : Int} {fz : aF} {az : aA} (hd : 2 ≤ d + 1) (n : Nat) : ∀ {f : aF} {a : aA} {x1 : Int}, (300 * (201 - x1) + 250).toNat < n → am_RV g h f a → am_mn fz az f a → (-2147483648 ≤ x1 ∧ x1 ≤ 2147483647) → 0 ≤ x1 → x1 ≤ 200 → f 11757 = z11757 → f 11763 = z11763 → f 11701 = z11701 → am_TE X (d + 1) am_m171 2 [(0, .ref 117), (1, am_iv x1)] [] f a w e (am_QV (fun f1 a1 => am_RV g h f1 a1 ∧ am_mn fz az f1 a1 ∧ f1 11757 = z11757 ∧ f1 11763 = z11763 ∧ f1 11701 = z11701)) E := (am_ct172_L2 hd n).1
set_option maxRecDepth 100000 in
set_option maxHeartbeats 4000000 in
theorem am_ct172_14 {X : List Value} {w : Value} {e : Nat} {g : aF} {h : aA} {E : Nat → aF → aA → Prop} {d : Nat} {z11757 : Int} {z11763 : Int} {z11701 : Int} {fz : aF} {az : aA} (hd : 2 ≤ d + 1) (n : Nat) : ∀ {f : aF} {a : aA} {x1 : Int} {x2 : Int} {x3 : Int}, (300 * (201 - x1) + 200 - x3).toNat < n → am_RV g h f a → am_mn fz az f a → (-2147483648 ≤ x1 ∧ x1 ≤ 2147483647) → (-2147483648 ≤ x2 ∧ x2 ≤ 2147483647) → (-2147483648 ≤ x3 ∧ x3 ≤ 2147483647) → 0 ≤ x1 → x1 < f 11757 → 0 ≤ x3 → x3 ≤ 200 → (x2 = 0 ∨ x2 = 1) → f 11757 = z11757 → f 11763 = z11763 → f 11701 = z11701 → am_TE X (d + 1) am_m171 14 [(0, .ref 117), (1, am_iv x1), (2, am_iv x2), (3, am_iv x3)] [] f a w e (am_QV (fun f1 a1 => am_RV g h f1 a1 ∧ am_mn fz az f1 a1 ∧ f1 11757 = z11757 ∧ f1 11763 = z11763 ∧ f1 11701 = z11701)) E := (am_ct172_L2 hd n).2
set_option maxRecDepth 100000 in
set_option maxHeartbeats 4000000 in
theorem am_ct172 {X : List Value} {w : Value} {e : Nat} {g : aF} {h : aA} {E : Nat → aF → aA → Prop} {d : Nat} {f : aF} {a : aA} (hd : 2 ≤ d) (hI : am_RV g h f a) :
    am_TE X d am_m171 0 (lv_args 0 [.ref 117]) [] f a w e (am_QV (fun f1 a1 => am_RV g h f1 a1 ∧ am_mn f a f1 a1 ∧ f1 11757 = (f 11757) ∧ f1 11763 = (f 11763) ∧ f1 11701 = (f 11701))) E := by
  obtain ⟨d, rfl⟩ : ∃ d0, d = d0 + 1 := ⟨d - 1, by omega⟩
  have q1 := am_RV_ph hI
  have q2 := am_RV_p0 hI
  refine am_riconst rfl ?_
  refine am_ristore_n (L1 := [(0, .ref 117), (1, am_iv 0)]) rfl rfl rfl rfl rfl ?_
  have q3 := am_Rg11701 hI.1.1
  have q4 := am_Rg11757 hI.1.1
  have q5 := am_Rg11763 hI.1.1
  exact am_ct172_2 hd (_ + 1) (Nat.lt_succ_self _) hI (am_mn.refl f a) (by omega) (by omega) (by omega) (by omega) (by omega) (by omega)
