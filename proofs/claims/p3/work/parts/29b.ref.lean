set_option maxRecDepth 100000 in
set_option maxHeartbeats 4000000 in
theorem am_ct129_14 {X : List Value} {w : Value} {e : Nat} {g : aF} {h : aA} {E : Nat → aF → aA → Prop} {d : Nat} {z11713 : Int} {fz : aF} {az : aA} (hd : 3 ≤ d + 1) (n : Nat) :
    ∀ {f : aF} {a : aA} {x1 : Int}, (8 * (3500 - am_ph f a) + 3 - f 11701).toNat < n → am_RV g h f a → am_mo fz az f a → (-2147483648 ≤ x1 ∧ x1 ≤ 2147483647) → (x1 = 0 ∨ x1 = 1) → f 11713 = z11713 → am_TE X (d + 1) am_m128 14 [(0, .ref 117), (1, am_iv x1)] [] f a w e (am_QV (fun f1 a1 => am_RV g h f1 a1 ∧ am_mo fz az f1 a1 ∧ f1 11713 = z11713)) E := by
  induction n with
  | zero => intros; omega
  | succ n ih =>
    intro f a x1 hn hI hp0 hp1 hp2 hp3
    have q1 := am_RV_ph hI
    have q2 := am_RV_p0 hI
    have q3 := am_Rg11713 hI.1.1
    have q4 := am_Rg11701 hI.1.1
    refine am_riload_n rfl rfl rfl ?_
    refine am_rif_ne rfl rfl (by unfold am_rg; omega) (fun hc5 => ?_) (fun hc5 => ?_)
    · exact am_eret rfl rfl ⟨hI, hp0, (show f 11713 = z11713 by omega)⟩
    · refine am_raload_n rfl rfl rfl ?_
      refine am_rgetf (S1 := [am_iv (f 11701)]) rfl rfl ?_
      refine am_rif_ne rfl rfl (by unfold am_rg; omega) (fun hc6 => ?_) (fun hc6 => ?_)
      · exact am_eret rfl rfl ⟨hI, hp0, (show f 11713 = z11713 by omega)⟩
      · refine am_raload_n rfl rfl rfl ?_
        refine am_evirtualI (m := am_m121) (As := [.ref 117]) (S1 := []) rfl rfl rfl rfl rfl rfl rfl rfl rfl rfl (am_TE.int (am_ct122  (by omega) hI) (fun b7 f7 a7 hq8 => ?_) (fun _ _ _ h => h))
        obtain ⟨rfl, rfl, hq8⟩ := hq8
        refine am_ristore_n (L1 := [(0, .ref 117), (1, am_iv x1), (2, am_iv b7)]) rfl rfl rfl rfl rfl ?_
        refine am_riload_n rfl rfl rfl ?_
        refine am_rif_ge rfl rfl (by unfold am_rg; omega) (fun hc9 => ?_) (fun hc9 => ?_)
        · refine am_raload_n rfl rfl rfl ?_
          refine am_rgetf (S1 := [am_iv (f 11701)]) rfl rfl ?_
          refine am_rif_ne rfl rfl (by unfold am_rg; omega) (fun hc10 => ?_) (fun hc10 => ?_)
          · refine am_riload_n rfl rfl rfl ?_
            refine am_rbipush rfl (by decide) ?_
            refine am_ric_ne rfl rfl (by unfold am_rg; omega) (by unfold am_rg; omega) (fun hc11 => ?_) (fun hc11 => ?_)
            · refine am_rgoto rfl rfl ?_
              exact am_T.drop (L1 := [(0, .ref 117), (1, am_iv x1)]) (ih (by omega) hI hp0 (by omega) (by omega) (by omega)) (by simp)
            · refine am_raload_n rfl rfl rfl ?_
              refine am_evirtualI (m := am_m121) (As := [.ref 117]) (S1 := []) rfl rfl rfl rfl rfl rfl rfl rfl rfl rfl (am_TE.int (am_ct122  (by omega) hI) (fun b12 f12 a12 hq13 => ?_) (fun _ _ _ h => h))
              obtain ⟨rfl, rfl, hq13⟩ := hq13
              refine am_rbipush rfl (by decide) ?_
              refine am_ric_ne rfl rfl (by unfold am_rg; omega) (by unfold am_rg; omega) (fun hc14 => ?_) (fun hc14 => ?_)
              · refine am_rgoto rfl rfl ?_
                exact am_T.drop (L1 := [(0, .ref 117), (1, am_iv x1)]) (ih (by omega) hI hp0 (by omega) (by omega) (by omega)) (by simp)
              · refine am_raload_n rfl rfl rfl ?_
                have ok15 : f 11701 = 0 ∧ am_at (a 124) (f 11713) < am_at (a 125) (f 11713) := am_PK.ok hq13.2.2.1 (by omega)
                refine am_evirtualV (m := am_m122) (As := [.ref 117]) (S1 := []) rfl rfl rfl rfl rfl rfl rfl rfl rfl rfl (am_TE.void (am_ct123  (by omega) hI (show am_at (a 124) ((f 11713)) < am_at (a 125) ((f 11713)) by omega)) (fun f16 a16 hq17 => ?_) (fun _ _ _ h => h))
                obtain ⟨hI18, hk19, hq17⟩ := hq17
                replace hq17 : f16 11701 = ((f 11701)) ∧ f16 11713 = ((f 11713)) ∧ am_ph f16 a16 = (am_ph f a ) + 1 ∧ (((f 11713)) = 0 → am_at (a16 124) 0 = (am_at (a 124) 0) + 1) := hq17
                have mm20 : f 11701 ≤ f16 11701 ∧ am_ph f a ≤ am_ph f16 a16 ∧ am_at (a 124) 0 ≤ am_at (a16 124) 0 ∧ am_at (a16 125) 0 = am_at (a 125) 0 := hk19.1
                have hm21 := am_mo.trans hp0 hk19
                refine am_raload_n rfl rfl rfl ?_
                refine am_rbipush rfl (by decide) ?_
                refine am_evirtualV (m := am_m123) (As := [.ref 117, am_iv 62]) (S1 := []) rfl rfl rfl rfl rfl rfl rfl rfl rfl rfl (am_TE.void (am_ct124 (y1 := 62) (by omega) hI18 (by omega) (show 0 ≤ 62 by omega)) (fun f22 a22 hq23 => ?_) (fun _ _ _ h => h))
                obtain ⟨hI24, hk25, hq23⟩ := hq23
                replace hq23 : f22 11713 = ((f16 11713)) ∧ (am_ph f16 a16 ) + 1 ≤ am_ph f22 a22 + 1 * (f22 11701) ∧ (am_at (a16 124) 0) + 1 ≤ am_at (a22 124) 0 + 1 * (f22 11701) + 1 * ((f16 11713)) := hq23
                have mm26 : f16 11701 ≤ f22 11701 ∧ am_ph f16 a16 ≤ am_ph f22 a22 ∧ am_at (a16 124) 0 ≤ am_at (a22 124) 0 ∧ am_at (a22 125) 0 = am_at (a16 125) 0 := hk25.1
                have hm27 := am_mo.trans hm21 hk25
                refine am_riconst rfl ?_
                refine am_ristore_n (L1 := [(0, .ref 117), (1, am_iv 1), (2, am_iv b7)]) rfl rfl rfl rfl rfl ?_
                refine am_rgoto rfl rfl ?_
                have q28 := am_Rg11701 hI24.1.1
                have q29 := am_Rg11713 hI24.1.1
                exact am_T.drop (L1 := [(0, .ref 117), (1, am_iv 1)]) (ih (by omega) hI24 hm27 (by omega) (by omega) (by omega)) (by simp)
          · refine am_raload_n rfl rfl rfl ?_
            have ok30 : f 11701 = 0 ∧ am_at (a 124) (f 11713) < am_at (a 125) (f 11713) := am_PK.ok hq8.2.2.1 (by omega)
            refine am_evirtualV (m := am_m122) (As := [.ref 117]) (S1 := []) rfl rfl rfl rfl rfl rfl rfl rfl rfl rfl (am_TE.void (am_ct123  (by omega) hI (show am_at (a 124) ((f 11713)) < am_at (a 125) ((f 11713)) by omega)) (fun f31 a31 hq32 => ?_) (fun _ _ _ h => h))
            obtain ⟨hI33, hk34, hq32⟩ := hq32
            replace hq32 : f31 11701 = ((f 11701)) ∧ f31 11713 = ((f 11713)) ∧ am_ph f31 a31 = (am_ph f a ) + 1 ∧ (((f 11713)) = 0 → am_at (a31 124) 0 = (am_at (a 124) 0) + 1) := hq32
            have mm35 : f 11701 ≤ f31 11701 ∧ am_ph f a ≤ am_ph f31 a31 ∧ am_at (a 124) 0 ≤ am_at (a31 124) 0 ∧ am_at (a31 125) 0 = am_at (a 125) 0 := hk34.1
            have hm36 := am_mo.trans hp0 hk34
            refine am_riload_n rfl rfl rfl ?_
            refine am_rbipush rfl (by decide) ?_
            refine am_ric_ne rfl rfl (by unfold am_rg; omega) (by unfold am_rg; omega) (fun hc37 => ?_) (fun hc37 => ?_)
            · refine am_rgoto rfl rfl ?_
              have q38 := am_Rg11701 hI33.1.1
              have q39 := am_Rg11713 hI33.1.1
              exact am_T.drop (L1 := [(0, .ref 117), (1, am_iv x1)]) (ih (by omega) hI33 hm36 (by omega) (by omega) (by omega)) (by simp)
            · refine am_raload_n rfl rfl rfl ?_
              refine am_evirtualI (m := am_m121) (As := [.ref 117]) (S1 := []) rfl rfl rfl rfl rfl rfl rfl rfl rfl rfl (am_TE.int (am_ct122  (by omega) hI33) (fun b40 f40 a40 hq41 => ?_) (fun _ _ _ h => h))
              obtain ⟨rfl, rfl, hq41⟩ := hq41
              refine am_rbipush rfl (by decide) ?_
              refine am_ric_ne rfl rfl (by unfold am_rg; omega) (by unfold am_rg; omega) (fun hc42 => ?_) (fun hc42 => ?_)
              · refine am_rgoto rfl rfl ?_
                have q43 := am_Rg11701 hI33.1.1
                have q44 := am_Rg11713 hI33.1.1
                exact am_T.drop (L1 := [(0, .ref 117), (1, am_iv x1)]) (ih (by omega) hI33 hm36 (by omega) (by omega) (by omega)) (by simp)
              · refine am_raload_n rfl rfl rfl ?_
                have ok45 : f31 11701 = 0 ∧ am_at (a31 124) (f31 11713) < am_at (a31 125) (f31 11713) := am_PK.ok hq41.2.2.1 (by omega)
                have q46 := am_Rg11713 hI33.1.1
                refine am_evirtualV (m := am_m122) (As := [.ref 117]) (S1 := []) rfl rfl rfl rfl rfl rfl rfl rfl rfl rfl (am_TE.void (am_ct123  (by omega) hI33 (show am_at (a31 124) ((f31 11713)) < am_at (a31 125) ((f31 11713)) by omega)) (fun f47 a47 hq48 => ?_) (fun _ _ _ h => h))
                obtain ⟨hI49, hk50, hq48⟩ := hq48
                replace hq48 : f47 11701 = ((f31 11701)) ∧ f47 11713 = ((f31 11713)) ∧ am_ph f47 a47 = (am_ph f31 a31 ) + 1 ∧ (((f31 11713)) = 0 → am_at (a47 124) 0 = (am_at (a31 124) 0) + 1) := hq48
                have mm51 : f31 11701 ≤ f47 11701 ∧ am_ph f31 a31 ≤ am_ph f47 a47 ∧ am_at (a31 124) 0 ≤ am_at (a47 124) 0 ∧ am_at (a47 125) 0 = am_at (a31 125) 0 := hk50.1
                have hm52 := am_mo.trans hm36 hk50
                refine am_raload_n rfl rfl rfl ?_
                refine am_rbipush rfl (by decide) ?_
                refine am_evirtualV (m := am_m123) (As := [.ref 117, am_iv 62]) (S1 := []) rfl rfl rfl rfl rfl rfl rfl rfl rfl rfl (am_TE.void (am_ct124 (y1 := 62) (by omega) hI49 (by omega) (show 0 ≤ 62 by omega)) (fun f53 a53 hq54 => ?_) (fun _ _ _ h => h))
                obtain ⟨hI55, hk56, hq54⟩ := hq54
                replace hq54 : f53 11713 = ((f47 11713)) ∧ (am_ph f47 a47 ) + 1 ≤ am_ph f53 a53 + 1 * (f53 11701) ∧ (am_at (a47 124) 0) + 1 ≤ am_at (a53 124) 0 + 1 * (f53 11701) + 1 * ((f47 11713)) := hq54
                have mm57 : f47 11701 ≤ f53 11701 ∧ am_ph f47 a47 ≤ am_ph f53 a53 ∧ am_at (a47 124) 0 ≤ am_at (a53 124) 0 ∧ am_at (a53 125) 0 = am_at (a47 125) 0 := hk56.1
                have hm58 := am_mo.trans hm52 hk56
                refine am_riconst rfl ?_
                refine am_ristore_n (L1 := [(0, .ref 117), (1, am_iv 1), (2, am_iv b7)]) rfl rfl rfl rfl rfl ?_
                refine am_rgoto rfl rfl ?_
                have q59 := am_Rg11701 hI55.1.1
                have q60 := am_Rg11713 hI55.1.1
                exact am_T.drop (L1 := [(0, .ref 117), (1, am_iv 1)]) (ih (by omega) hI55 hm58 (by omega) (by omega) (by omega)) (by simp)
        · refine am_raload_n rfl rfl rfl ?_
          refine am_riconst rfl ?_
          refine am_evirtualV (m := am_m116) (As := [.ref 117, am_iv 1]) (S1 := []) rfl rfl rfl rfl rfl rfl rfl rfl rfl rfl (am_TE.void (am_ct117 (y1 := 1) (by omega) (by omega) (show 1 ≤ 1 by omega) (show 1 ≤ 3 by omega) (show 0 ≤ (f 11701) by omega) (show (f 11701) ≤ 3 by omega)) (fun f61 a61 hq62 => ?_) (fun _ _ _ h => h))
          obtain ⟨v63, rfl, rfl, hq62⟩ := hq62
          replace hq62 : 0 < v63 ∧ v63 ≤ 3 ∧ f 11701 ≤ v63 := hq62
          refine am_raload_n rfl rfl rfl ?_
          refine am_rgetf (S1 := [am_iv v63]) rfl rfl ?_
          refine am_rif_ne rfl rfl (by unfold am_rg; omega) (fun hc64 => ?_) (fun hc64 => ?_)
          rotate_left
          · exfalso; omega
          refine am_riload_n rfl rfl rfl ?_
          refine am_rbipush rfl (by decide) ?_
          refine am_ric_ne rfl rfl (by unfold am_rg; omega) (by unfold am_rg; omega) (fun hc65 => ?_) (fun hc65 => ?_)
          · refine am_rgoto rfl rfl ?_
            have J66 := am_Rf11701 (v := v63) hI (by omega) (by omega)
            have m67 : am_mo fz az (am_ud f 11701 v63) a := am_mo.halt hp0 (by omega)
            exact am_T.drop (L1 := [(0, .ref 117), (1, am_iv x1)]) (ih (show (8 * (3500 - am_ph f a ) + 3 - (v63)).toNat < n by omega) J66 m67 (show (-2147483648 ≤ x1 ∧ x1 ≤ 2147483647) by omega) (show (x1 = 0 ∨ x1 = 1) by omega) (show (f 11713) = z11713 by omega)) (by simp)
          · refine am_raload_n rfl rfl rfl ?_
            have J68 := am_Rf11701 (v := v63) hI (by omega) (by omega)
            refine am_evirtualI (m := am_m121) (As := [.ref 117]) (S1 := []) rfl rfl rfl rfl rfl rfl rfl rfl rfl rfl (am_TE.int (am_ct122  (by omega) J68) (fun b69 f69 a69 hq70 => ?_) (fun _ _ _ h => h))
            obtain ⟨rfl, rfl, hq70⟩ := hq70
            replace hq70 : (-2147483648 ≤ b69 ∧ b69 ≤ 2147483647) ∧ -1 ≤ b69 ∧ am_PK b69 (am_ud f 11701 v63) a ∧ b69 = am_pk (am_ud f 11701 v63) a := hq70
            refine am_rbipush rfl (by decide) ?_
            refine am_ric_ne rfl rfl (by unfold am_rg; omega) (by unfold am_rg; omega) (fun hc71 => ?_) (fun hc71 => ?_)
            · refine am_rgoto rfl rfl ?_
              have m72 : am_mo fz az (am_ud f 11701 v63) a := am_mo.halt hp0 (by omega)
              exact am_T.drop (L1 := [(0, .ref 117), (1, am_iv x1)]) (ih (show (8 * (3500 - am_ph f a ) + 3 - (v63)).toNat < n by omega) J68 m72 (show (-2147483648 ≤ x1 ∧ x1 ≤ 2147483647) by omega) (show (x1 = 0 ∨ x1 = 1) by omega) (show (f 11713) = z11713 by omega)) (by simp)
            · refine am_raload_n rfl rfl rfl ?_
              have ok73 : v63 = 0 ∧ am_at (a 124) (f 11713) < am_at (a 125) (f 11713) := am_PK.ok hq70.2.2.1 (by omega)
              refine am_evirtualV (m := am_m122) (As := [.ref 117]) (S1 := []) rfl rfl rfl rfl rfl rfl rfl rfl rfl rfl (am_TE.void (am_ct123  (by omega) J68 (show am_at (a 124) ((f 11713)) < am_at (a 125) ((f 11713)) by omega)) (fun f74 a74 hq75 => ?_) (fun _ _ _ h => h))
              have m78 : am_mo fz az (am_ud f 11701 v63) a := am_mo.halt hp0 (by omega)
              obtain ⟨hI76, hk77, hq75⟩ := hq75
              replace hq75 : f74 11701 = ((v63)) ∧ f74 11713 = ((f 11713)) ∧ am_ph f74 a74 = (am_ph f a ) + 1 ∧ (((f 11713)) = 0 → am_at (a74 124) 0 = (am_at (a 124) 0) + 1) := hq75
              have mm79 : v63 ≤ f74 11701 ∧ am_ph f a ≤ am_ph f74 a74 ∧ am_at (a 124) 0 ≤ am_at (a74 124) 0 ∧ am_at (a74 125) 0 = am_at (a 125) 0 := hk77.1
              have hm80 := am_mo.trans m78 hk77
              refine am_raload_n rfl rfl rfl ?_
              refine am_rbipush rfl (by decide) ?_
              refine am_evirtualV (m := am_m123) (As := [.ref 117, am_iv 62]) (S1 := []) rfl rfl rfl rfl rfl rfl rfl rfl rfl rfl (am_TE.void (am_ct124 (y1 := 62) (by omega) hI76 (by omega) (show 0 ≤ 62 by omega)) (fun f81 a81 hq82 => ?_) (fun _ _ _ h => h))
              obtain ⟨hI83, hk84, hq82⟩ := hq82
              replace hq82 : f81 11713 = ((f74 11713)) ∧ (am_ph f74 a74 ) + 1 ≤ am_ph f81 a81 + 1 * (f81 11701) ∧ (am_at (a74 124) 0) + 1 ≤ am_at (a81 124) 0 + 1 * (f81 11701) + 1 * ((f74 11713)) := hq82
              have mm85 : f74 11701 ≤ f81 11701 ∧ am_ph f74 a74 ≤ am_ph f81 a81 ∧ am_at (a74 124) 0 ≤ am_at (a81 124) 0 ∧ am_at (a81 125) 0 = am_at (a74 125) 0 := hk84.1
              have hm86 := am_mo.trans hm80 hk84
              refine am_riconst rfl ?_
              refine am_ristore_n (L1 := [(0, .ref 117), (1, am_iv 1), (2, am_iv b7)]) rfl rfl rfl rfl rfl ?_
              refine am_rgoto rfl rfl ?_
              have q87 := am_Rg11701 hI83.1.1
              have q88 := am_Rg11713 hI83.1.1
              exact am_T.drop (L1 := [(0, .ref 117), (1, am_iv 1)]) (ih (by omega) hI83 hm86 (by omega) (by omega) (by omega)) (by simp)
set_option maxRecDepth 100000 in
set_option maxHeartbeats 4000000 in
theorem am_ct129 {X : List Value} {w : Value} {e : Nat} {g : aF} {h : aA} {E : Nat → aF → aA → Prop} {d : Nat} {f : aF} {a : aA} (hd : 3 ≤ d) (hI : am_RV g h f a) :
    am_TE X d am_m128 0 (lv_args 0 [.ref 117]) [] f a w e (am_QV (fun f1 a1 => am_RV g h f1 a1 ∧ am_mo f a f1 a1 ∧ f1 11713 = (f 11713))) E := by
  obtain ⟨d, rfl⟩ : ∃ d0, d = d0 + 1 := ⟨d - 1, by omega⟩
  have q1 := am_RV_ph hI
  have q2 := am_RV_p0 hI
  refine am_raload_n rfl rfl rfl ?_
  refine am_rbipush rfl (by decide) ?_
  refine am_evirtualV (m := am_m123) (As := [.ref 117, am_iv 45]) (S1 := []) rfl rfl rfl rfl rfl rfl rfl rfl rfl rfl (am_TE.void (am_ct124 (y1 := 45) (by omega) hI (by omega) (show 0 ≤ 45 by omega)) (fun f3 a3 hq4 => ?_) (fun _ _ _ h => h))
  obtain ⟨hI5, hk6, hq4⟩ := hq4
  replace hq4 : f3 11713 = ((f 11713)) ∧ (am_ph f a ) + 1 ≤ am_ph f3 a3 + 1 * (f3 11701) ∧ (am_at (a 124) 0) + 1 ≤ am_at (a3 124) 0 + 1 * (f3 11701) + 1 * ((f 11713)) := hq4
  have mm7 : f 11701 ≤ f3 11701 ∧ am_ph f a ≤ am_ph f3 a3 ∧ am_at (a 124) 0 ≤ am_at (a3 124) 0 ∧ am_at (a3 125) 0 = am_at (a 125) 0 := hk6.1
  have hm8 := am_mo.trans (am_mo.refl f a) hk6
  refine am_raload_n rfl rfl rfl ?_
  refine am_rbipush rfl (by decide) ?_
  refine am_evirtualV (m := am_m123) (As := [.ref 117, am_iv 45]) (S1 := []) rfl rfl rfl rfl rfl rfl rfl rfl rfl rfl (am_TE.void (am_ct124 (y1 := 45) (by omega) hI5 (by omega) (show 0 ≤ 45 by omega)) (fun f9 a9 hq10 => ?_) (fun _ _ _ h => h))
  obtain ⟨hI11, hk12, hq10⟩ := hq10
  replace hq10 : f9 11713 = ((f3 11713)) ∧ (am_ph f3 a3 ) + 1 ≤ am_ph f9 a9 + 1 * (f9 11701) ∧ (am_at (a3 124) 0) + 1 ≤ am_at (a9 124) 0 + 1 * (f9 11701) + 1 * ((f3 11713)) := hq10
  have mm13 : f3 11701 ≤ f9 11701 ∧ am_ph f3 a3 ≤ am_ph f9 a9 ∧ am_at (a3 124) 0 ≤ am_at (a9 124) 0 ∧ am_at (a9 125) 0 = am_at (a3 125) 0 := hk12.1
  have hm14 := am_mo.trans hm8 hk12
  refine am_riconst rfl ?_
  refine am_ristore_n (L1 := [(0, .ref 117), (1, am_iv 0)]) rfl rfl rfl rfl rfl ?_
  have q15 := am_Rg11701 hI11.1.1
  have q16 := am_Rg11713 hI11.1.1
  exact am_ct129_14 hd (_ + 1) (Nat.lt_succ_self _) hI11 hm14 (by omega) (by omega) (by omega)
set_option maxRecDepth 100000 in
set_option maxHeartbeats 4000000 in
theorem am_ct131_4 {X : List Value} {w : Value} {e : Nat} {g : aF} {h : aA} {E : Nat → aF → aA → Prop} {d : Nat} {z11713 : Int} {fz : aF} {az : aA} (hd : 3 ≤ d + 1) (n : Nat) :
    ∀ {f : aF} {a : aA} {x1 : Int} {x2 : Int}, (6 - x1).toNat < n → am_RV g h f a → am_mo fz az f a → (-2147483648 ≤ x1 ∧ x1 ≤ 2147483647) → (-2147483648 ≤ x2 ∧ x2 ≤ 2147483647) → 0 ≤ x1 → x1 ≤ 6 → 0 ≤ x2 → x2 < am_ten x1 → f 11713 = z11713 → am_TE X (d + 1) am_m130 4 [(0, .ref 117), (1, am_iv x1), (2, am_iv x2)] [] f a w e (am_QI (fun b f1 a1 => am_RV g h f1 a1 ∧ am_mo fz az f1 a1 ∧ (-2147483648 ≤ b ∧ b ≤ 2147483647) ∧ f1 11713 = z11713 ∧ (0 ≤ b ∧ b ≤ 999999))) E := by
  induction n with
  | zero => intros; omega
  | succ n ih =>
    intro f a x1 x2 hn hI hp0 hp1 hp2 hp3 hp4 hp5 hp6 hp7
    have q1 := am_RV_ph hI
    have q2 := am_RV_p0 hI
    have q3 := am_Rg11713 hI.1.1
    have p1 := am_ten_s (x := x1) (by omega)
    have p6 := am_ten_6 (x := x1) (by omega) (by omega)
    refine am_riload_n rfl rfl rfl ?_
    refine am_rbipush rfl (by decide) ?_
    refine am_ric_ge rfl rfl (by unfold am_rg; omega) (by unfold am_rg; omega) (fun hc4 => ?_) (fun hc4 => ?_)
    · refine am_riload_n rfl rfl rfl ?_
      refine am_rif_ne rfl rfl (by unfold am_rg; omega) (fun hc5 => ?_) (fun hc5 => ?_)
      · refine am_raload_n rfl rfl rfl ?_
        refine am_rbipush rfl (by decide) ?_
        refine am_evirtualV (m := am_m123) (As := [.ref 117, am_iv 59]) (S1 := []) rfl rfl rfl rfl rfl rfl rfl rfl rfl rfl (am_TE.void (am_ct124 (y1 := 59) (by omega) hI (by omega) (show 0 ≤ 59 by omega)) (fun f6 a6 hq7 => ?_) (fun _ _ _ h => h))
        obtain ⟨hI8, hk9, hq7⟩ := hq7
        replace hq7 : f6 11713 = ((f 11713)) ∧ (am_ph f a ) + 1 ≤ am_ph f6 a6 + 1 * (f6 11701) ∧ (am_at (a 124) 0) + 1 ≤ am_at (a6 124) 0 + 1 * (f6 11701) + 1 * ((f 11713)) := hq7
        have mm10 : f 11701 ≤ f6 11701 ∧ am_ph f a ≤ am_ph f6 a6 ∧ am_at (a 124) 0 ≤ am_at (a6 124) 0 ∧ am_at (a6 125) 0 = am_at (a 125) 0 := hk9.1
        have hm11 := am_mo.trans hp0 hk9
        refine am_riload_n rfl rfl rfl ?_
        refine am_estaticI (m := am_m117) (As := [am_iv x2]) (S1 := []) rfl rfl rfl rfl rfl rfl rfl rfl (am_TE.int (am_ct118 (y1 := x2) (by omega) (by omega)) (fun b12 f12 a12 hq13 => ?_) (fun _ _ _ h => h))
        obtain ⟨rfl, rfl, hq13⟩ := hq13
        refine am_rif_ne rfl rfl (by unfold am_rg; omega) (fun hc14 => ?_) (fun hc14 => ?_)
        · refine am_riload_n rfl rfl rfl ?_
          have q15 := am_Rg11701 hI8.1.1
          have q16 := am_Rg11713 hI8.1.1
          exact am_eiret rfl rfl ⟨hI8, hm11, (show (-2147483648 ≤ x2 ∧ x2 ≤ 2147483647) by omega), (show f6 11713 = z11713 by omega), (show (0 ≤ x2 ∧ x2 ≤ 999999) by omega)⟩
        · refine am_raload_n rfl rfl rfl ?_
          refine am_riconst rfl ?_
          have q17 := am_Rg11701 hI8.1.1
          refine am_evirtualV (m := am_m116) (As := [.ref 117, am_iv 1]) (S1 := []) rfl rfl rfl rfl rfl rfl rfl rfl rfl rfl (am_TE.void (am_ct117 (y1 := 1) (by omega) (by omega) (show 1 ≤ 1 by omega) (show 1 ≤ 3 by omega) (show 0 ≤ (f6 11701) by omega) (show (f6 11701) ≤ 3 by omega)) (fun f18 a18 hq19 => ?_) (fun _ _ _ h => h))
          obtain ⟨v20, rfl, rfl, hq19⟩ := hq19
          replace hq19 : 0 < v20 ∧ v20 ≤ 3 ∧ f6 11701 ≤ v20 := hq19
          refine am_riload_n rfl rfl rfl ?_
          have J21 := am_Rf11701 (v := v20) hI8 (by omega) (by omega)
          have m22 : am_mo fz az (am_ud f6 11701 v20) a6 := am_mo.halt hm11 (by omega)
          have q23 := am_Rg11713 hI8.1.1
          exact am_eiret rfl rfl ⟨J21, m22, (show (-2147483648 ≤ x2 ∧ x2 ≤ 2147483647) by omega), (show f6 11713 = z11713 by omega), (show (0 ≤ x2 ∧ x2 ≤ 999999) by omega)⟩
      · refine am_raload_n rfl rfl rfl ?_
        refine am_riconst rfl ?_
        have q24 := am_Rg11701 hI.1.1
        refine am_evirtualV (m := am_m116) (As := [.ref 117, am_iv 1]) (S1 := []) rfl rfl rfl rfl rfl rfl rfl rfl rfl rfl (am_TE.void (am_ct117 (y1 := 1) (by omega) (by omega) (show 1 ≤ 1 by omega) (show 1 ≤ 3 by omega) (show 0 ≤ (f 11701) by omega) (show (f 11701) ≤ 3 by omega)) (fun f25 a25 hq26 => ?_) (fun _ _ _ h => h))
        obtain ⟨v27, rfl, rfl, hq26⟩ := hq26
        replace hq26 : 0 < v27 ∧ v27 ≤ 3 ∧ f 11701 ≤ v27 := hq26
        refine am_raload_n rfl rfl rfl ?_
        refine am_rbipush rfl (by decide) ?_
        have J28 := am_Rf11701 (v := v27) hI (by omega) (by omega)
        refine am_evirtualV (m := am_m123) (As := [.ref 117, am_iv 59]) (S1 := []) rfl rfl rfl rfl rfl rfl rfl rfl rfl rfl (am_TE.void (am_ct124 (y1 := 59) (by omega) J28 (by omega) (show 0 ≤ 59 by omega)) (fun f29 a29 hq30 => ?_) (fun _ _ _ h => h))
        have m33 : am_mo fz az (am_ud f 11701 v27) a := am_mo.halt hp0 (by omega)
        obtain ⟨hI31, hk32, hq30⟩ := hq30
        replace hq30 : f29 11713 = ((f 11713)) ∧ (am_ph f a ) + 1 ≤ am_ph f29 a29 + 1 * (f29 11701) ∧ (am_at (a 124) 0) + 1 ≤ am_at (a29 124) 0 + 1 * (f29 11701) + 1 * ((f 11713)) := hq30
        have mm34 : v27 ≤ f29 11701 ∧ am_ph f a ≤ am_ph f29 a29 ∧ am_at (a 124) 0 ≤ am_at (a29 124) 0 ∧ am_at (a29 125) 0 = am_at (a 125) 0 := hk32.1
        have hm35 := am_mo.trans m33 hk32
        refine am_riload_n rfl rfl rfl ?_
        refine am_estaticI (m := am_m117) (As := [am_iv x2]) (S1 := []) rfl rfl rfl rfl rfl rfl rfl rfl (am_TE.int (am_ct118 (y1 := x2) (by omega) (by omega)) (fun b36 f36 a36 hq37 => ?_) (fun _ _ _ h => h))
        obtain ⟨rfl, rfl, hq37⟩ := hq37
        refine am_rif_ne rfl rfl (by unfold am_rg; omega) (fun hc38 => ?_) (fun hc38 => ?_)
        · refine am_riload_n rfl rfl rfl ?_
          have q39 := am_Rg11701 hI31.1.1
          have q40 := am_Rg11713 hI31.1.1
          exact am_eiret rfl rfl ⟨hI31, hm35, (show (-2147483648 ≤ x2 ∧ x2 ≤ 2147483647) by omega), (show f29 11713 = z11713 by omega), (show (0 ≤ x2 ∧ x2 ≤ 999999) by omega)⟩
        · refine am_raload_n rfl rfl rfl ?_
          refine am_riconst rfl ?_
          have q41 := am_Rg11701 hI31.1.1
          refine am_evirtualV (m := am_m116) (As := [.ref 117, am_iv 1]) (S1 := []) rfl rfl rfl rfl rfl rfl rfl rfl rfl rfl (am_TE.void (am_ct117 (y1 := 1) (by omega) (by omega) (show 1 ≤ 1 by omega) (show 1 ≤ 3 by omega) (show 0 ≤ (f29 11701) by omega) (show (f29 11701) ≤ 3 by omega)) (fun f42 a42 hq43 => ?_) (fun _ _ _ h => h))
          obtain ⟨v44, rfl, rfl, hq43⟩ := hq43
          replace hq43 : 0 < v44 ∧ v44 ≤ 3 ∧ f29 11701 ≤ v44 := hq43
          refine am_riload_n rfl rfl rfl ?_
          have J45 := am_Rf11701 (v := v44) hI31 (by omega) (by omega)
          have m46 : am_mo fz az (am_ud f29 11701 v44) a29 := am_mo.halt hm35 (by omega)
          have q47 := am_Rg11713 hI31.1.1
          exact am_eiret rfl rfl ⟨J45, m46, (show (-2147483648 ≤ x2 ∧ x2 ≤ 2147483647) by omega), (show f29 11713 = z11713 by omega), (show (0 ≤ x2 ∧ x2 ≤ 999999) by omega)⟩
    · refine am_raload_n rfl rfl rfl ?_
      refine am_evirtualI (m := am_m121) (As := [.ref 117]) (S1 := []) rfl rfl rfl rfl rfl rfl rfl rfl rfl rfl (am_TE.int (am_ct122  (by omega) hI) (fun b48 f48 a48 hq49 => ?_) (fun _ _ _ h => h))
      obtain ⟨rfl, rfl, hq49⟩ := hq49
      refine am_rbipush rfl (by decide) ?_
      refine am_ric_lt rfl rfl (by unfold am_rg; omega) (by unfold am_rg; omega) (fun hc50 => ?_) (fun hc50 => ?_)
      · refine am_riload_n rfl rfl rfl ?_
        refine am_rif_ne rfl rfl (by unfold am_rg; omega) (fun hc51 => ?_) (fun hc51 => ?_)
        · refine am_raload_n rfl rfl rfl ?_
          refine am_rbipush rfl (by decide) ?_
          refine am_evirtualV (m := am_m123) (As := [.ref 117, am_iv 59]) (S1 := []) rfl rfl rfl rfl rfl rfl rfl rfl rfl rfl (am_TE.void (am_ct124 (y1 := 59) (by omega) hI (by omega) (show 0 ≤ 59 by omega)) (fun f52 a52 hq53 => ?_) (fun _ _ _ h => h))
          obtain ⟨hI54, hk55, hq53⟩ := hq53
          replace hq53 : f52 11713 = ((f 11713)) ∧ (am_ph f a ) + 1 ≤ am_ph f52 a52 + 1 * (f52 11701) ∧ (am_at (a 124) 0) + 1 ≤ am_at (a52 124) 0 + 1 * (f52 11701) + 1 * ((f 11713)) := hq53
          have mm56 : f 11701 ≤ f52 11701 ∧ am_ph f a ≤ am_ph f52 a52 ∧ am_at (a 124) 0 ≤ am_at (a52 124) 0 ∧ am_at (a52 125) 0 = am_at (a 125) 0 := hk55.1
          have hm57 := am_mo.trans hp0 hk55
          refine am_riload_n rfl rfl rfl ?_
          refine am_estaticI (m := am_m117) (As := [am_iv x2]) (S1 := []) rfl rfl rfl rfl rfl rfl rfl rfl (am_TE.int (am_ct118 (y1 := x2) (by omega) (by omega)) (fun b58 f58 a58 hq59 => ?_) (fun _ _ _ h => h))
          obtain ⟨rfl, rfl, hq59⟩ := hq59
          refine am_rif_ne rfl rfl (by unfold am_rg; omega) (fun hc60 => ?_) (fun hc60 => ?_)
          · refine am_riload_n rfl rfl rfl ?_
            have q61 := am_Rg11701 hI54.1.1
            have q62 := am_Rg11713 hI54.1.1
            exact am_eiret rfl rfl ⟨hI54, hm57, (show (-2147483648 ≤ x2 ∧ x2 ≤ 2147483647) by omega), (show f52 11713 = z11713 by omega), (show (0 ≤ x2 ∧ x2 ≤ 999999) by omega)⟩
          · refine am_raload_n rfl rfl rfl ?_
            refine am_riconst rfl ?_
            have q63 := am_Rg11701 hI54.1.1
            refine am_evirtualV (m := am_m116) (As := [.ref 117, am_iv 1]) (S1 := []) rfl rfl rfl rfl rfl rfl rfl rfl rfl rfl (am_TE.void (am_ct117 (y1 := 1) (by omega) (by omega) (show 1 ≤ 1 by omega) (show 1 ≤ 3 by omega) (show 0 ≤ (f52 11701) by omega) (show (f52 11701) ≤ 3 by omega)) (fun f64 a64 hq65 => ?_) (fun _ _ _ h => h))
            obtain ⟨v66, rfl, rfl, hq65⟩ := hq65
            replace hq65 : 0 < v66 ∧ v66 ≤ 3 ∧ f52 11701 ≤ v66 := hq65
            refine am_riload_n rfl rfl rfl ?_
            have J67 := am_Rf11701 (v := v66) hI54 (by omega) (by omega)
            have m68 : am_mo fz az (am_ud f52 11701 v66) a52 := am_mo.halt hm57 (by omega)
            have q69 := am_Rg11713 hI54.1.1
            exact am_eiret rfl rfl ⟨J67, m68, (show (-2147483648 ≤ x2 ∧ x2 ≤ 2147483647) by omega), (show f52 11713 = z11713 by omega), (show (0 ≤ x2 ∧ x2 ≤ 999999) by omega)⟩
        · refine am_raload_n rfl rfl rfl ?_
          refine am_riconst rfl ?_
          have q70 := am_Rg11701 hI.1.1
          refine am_evirtualV (m := am_m116) (As := [.ref 117, am_iv 1]) (S1 := []) rfl rfl rfl rfl rfl rfl rfl rfl rfl rfl (am_TE.void (am_ct117 (y1 := 1) (by omega) (by omega) (show 1 ≤ 1 by omega) (show 1 ≤ 3 by omega) (show 0 ≤ (f 11701) by omega) (show (f 11701) ≤ 3 by omega)) (fun f71 a71 hq72 => ?_) (fun _ _ _ h => h))
          obtain ⟨v73, rfl, rfl, hq72⟩ := hq72
          replace hq72 : 0 < v73 ∧ v73 ≤ 3 ∧ f 11701 ≤ v73 := hq72
          refine am_raload_n rfl rfl rfl ?_
          refine am_rbipush rfl (by decide) ?_
          have J74 := am_Rf11701 (v := v73) hI (by omega) (by omega)
          refine am_evirtualV (m := am_m123) (As := [.ref 117, am_iv 59]) (S1 := []) rfl rfl rfl rfl rfl rfl rfl rfl rfl rfl (am_TE.void (am_ct124 (y1 := 59) (by omega) J74 (by omega) (show 0 ≤ 59 by omega)) (fun f75 a75 hq76 => ?_) (fun _ _ _ h => h))
          have m79 : am_mo fz az (am_ud f 11701 v73) a := am_mo.halt hp0 (by omega)
          obtain ⟨hI77, hk78, hq76⟩ := hq76
          replace hq76 : f75 11713 = ((f 11713)) ∧ (am_ph f a ) + 1 ≤ am_ph f75 a75 + 1 * (f75 11701) ∧ (am_at (a 124) 0) + 1 ≤ am_at (a75 124) 0 + 1 * (f75 11701) + 1 * ((f 11713)) := hq76
          have mm80 : v73 ≤ f75 11701 ∧ am_ph f a ≤ am_ph f75 a75 ∧ am_at (a 124) 0 ≤ am_at (a75 124) 0 ∧ am_at (a75 125) 0 = am_at (a 125) 0 := hk78.1
          have hm81 := am_mo.trans m79 hk78
          refine am_riload_n rfl rfl rfl ?_
          refine am_estaticI (m := am_m117) (As := [am_iv x2]) (S1 := []) rfl rfl rfl rfl rfl rfl rfl rfl (am_TE.int (am_ct118 (y1 := x2) (by omega) (by omega)) (fun b82 f82 a82 hq83 => ?_) (fun _ _ _ h => h))
          obtain ⟨rfl, rfl, hq83⟩ := hq83
          refine am_rif_ne rfl rfl (by unfold am_rg; omega) (fun hc84 => ?_) (fun hc84 => ?_)
          · refine am_riload_n rfl rfl rfl ?_
            have q85 := am_Rg11701 hI77.1.1
            have q86 := am_Rg11713 hI77.1.1
            exact am_eiret rfl rfl ⟨hI77, hm81, (show (-2147483648 ≤ x2 ∧ x2 ≤ 2147483647) by omega), (show f75 11713 = z11713 by omega), (show (0 ≤ x2 ∧ x2 ≤ 999999) by omega)⟩
          · refine am_raload_n rfl rfl rfl ?_
            refine am_riconst rfl ?_
            have q87 := am_Rg11701 hI77.1.1
            refine am_evirtualV (m := am_m116) (As := [.ref 117, am_iv 1]) (S1 := []) rfl rfl rfl rfl rfl rfl rfl rfl rfl rfl (am_TE.void (am_ct117 (y1 := 1) (by omega) (by omega) (show 1 ≤ 1 by omega) (show 1 ≤ 3 by omega) (show 0 ≤ (f75 11701) by omega) (show (f75 11701) ≤ 3 by omega)) (fun f88 a88 hq89 => ?_) (fun _ _ _ h => h))
            obtain ⟨v90, rfl, rfl, hq89⟩ := hq89
            replace hq89 : 0 < v90 ∧ v90 ≤ 3 ∧ f75 11701 ≤ v90 := hq89
            refine am_riload_n rfl rfl rfl ?_
            have J91 := am_Rf11701 (v := v90) hI77 (by omega) (by omega)
            have m92 : am_mo fz az (am_ud f75 11701 v90) a75 := am_mo.halt hm81 (by omega)
            have q93 := am_Rg11713 hI77.1.1
            exact am_eiret rfl rfl ⟨J91, m92, (show (-2147483648 ≤ x2 ∧ x2 ≤ 2147483647) by omega), (show f75 11713 = z11713 by omega), (show (0 ≤ x2 ∧ x2 ≤ 999999) by omega)⟩
      · refine am_raload_n rfl rfl rfl ?_
        refine am_evirtualI (m := am_m121) (As := [.ref 117]) (S1 := []) rfl rfl rfl rfl rfl rfl rfl rfl rfl rfl (am_TE.int (am_ct122  (by omega) hI) (fun b94 f94 a94 hq95 => ?_) (fun _ _ _ h => h))
        obtain ⟨rfl, rfl, hq95⟩ := hq95
        refine am_rbipush rfl (by decide) ?_
        refine am_ric_gt rfl rfl (by unfold am_rg; omega) (by unfold am_rg; omega) (fun hc96 => ?_) (fun hc96 => ?_)
        · refine am_riload_n rfl rfl rfl ?_
          refine am_rif_ne rfl rfl (by unfold am_rg; omega) (fun hc97 => ?_) (fun hc97 => ?_)
          · refine am_raload_n rfl rfl rfl ?_
            refine am_rbipush rfl (by decide) ?_
            refine am_evirtualV (m := am_m123) (As := [.ref 117, am_iv 59]) (S1 := []) rfl rfl rfl rfl rfl rfl rfl rfl rfl rfl (am_TE.void (am_ct124 (y1 := 59) (by omega) hI (by omega) (show 0 ≤ 59 by omega)) (fun f98 a98 hq99 => ?_) (fun _ _ _ h => h))
            obtain ⟨hI100, hk101, hq99⟩ := hq99
            replace hq99 : f98 11713 = ((f 11713)) ∧ (am_ph f a ) + 1 ≤ am_ph f98 a98 + 1 * (f98 11701) ∧ (am_at (a 124) 0) + 1 ≤ am_at (a98 124) 0 + 1 * (f98 11701) + 1 * ((f 11713)) := hq99
            have mm102 : f 11701 ≤ f98 11701 ∧ am_ph f a ≤ am_ph f98 a98 ∧ am_at (a 124) 0 ≤ am_at (a98 124) 0 ∧ am_at (a98 125) 0 = am_at (a 125) 0 := hk101.1
            have hm103 := am_mo.trans hp0 hk101
            refine am_riload_n rfl rfl rfl ?_
            refine am_estaticI (m := am_m117) (As := [am_iv x2]) (S1 := []) rfl rfl rfl rfl rfl rfl rfl rfl (am_TE.int (am_ct118 (y1 := x2) (by omega) (by omega)) (fun b104 f104 a104 hq105 => ?_) (fun _ _ _ h => h))
            obtain ⟨rfl, rfl, hq105⟩ := hq105
            refine am_rif_ne rfl rfl (by unfold am_rg; omega) (fun hc106 => ?_) (fun hc106 => ?_)
            · refine am_riload_n rfl rfl rfl ?_
              have q107 := am_Rg11701 hI100.1.1
              have q108 := am_Rg11713 hI100.1.1
              exact am_eiret rfl rfl ⟨hI100, hm103, (show (-2147483648 ≤ x2 ∧ x2 ≤ 2147483647) by omega), (show f98 11713 = z11713 by omega), (show (0 ≤ x2 ∧ x2 ≤ 999999) by omega)⟩
            · refine am_raload_n rfl rfl rfl ?_
              refine am_riconst rfl ?_
              have q109 := am_Rg11701 hI100.1.1
              refine am_evirtualV (m := am_m116) (As := [.ref 117, am_iv 1]) (S1 := []) rfl rfl rfl rfl rfl rfl rfl rfl rfl rfl (am_TE.void (am_ct117 (y1 := 1) (by omega) (by omega) (show 1 ≤ 1 by omega) (show 1 ≤ 3 by omega) (show 0 ≤ (f98 11701) by omega) (show (f98 11701) ≤ 3 by omega)) (fun f110 a110 hq111 => ?_) (fun _ _ _ h => h))
              obtain ⟨v112, rfl, rfl, hq111⟩ := hq111
              replace hq111 : 0 < v112 ∧ v112 ≤ 3 ∧ f98 11701 ≤ v112 := hq111
              refine am_riload_n rfl rfl rfl ?_
              have J113 := am_Rf11701 (v := v112) hI100 (by omega) (by omega)
              have m114 : am_mo fz az (am_ud f98 11701 v112) a98 := am_mo.halt hm103 (by omega)
              have q115 := am_Rg11713 hI100.1.1
              exact am_eiret rfl rfl ⟨J113, m114, (show (-2147483648 ≤ x2 ∧ x2 ≤ 2147483647) by omega), (show f98 11713 = z11713 by omega), (show (0 ≤ x2 ∧ x2 ≤ 999999) by omega)⟩
          · refine am_raload_n rfl rfl rfl ?_
            refine am_riconst rfl ?_
            have q116 := am_Rg11701 hI.1.1
            refine am_evirtualV (m := am_m116) (As := [.ref 117, am_iv 1]) (S1 := []) rfl rfl rfl rfl rfl rfl rfl rfl rfl rfl (am_TE.void (am_ct117 (y1 := 1) (by omega) (by omega) (show 1 ≤ 1 by omega) (show 1 ≤ 3 by omega) (show 0 ≤ (f 11701) by omega) (show (f 11701) ≤ 3 by omega)) (fun f117 a117 hq118 => ?_) (fun _ _ _ h => h))
            obtain ⟨v119, rfl, rfl, hq118⟩ := hq118
            replace hq118 : 0 < v119 ∧ v119 ≤ 3 ∧ f 11701 ≤ v119 := hq118
            refine am_raload_n rfl rfl rfl ?_
            refine am_rbipush rfl (by decide) ?_
            have J120 := am_Rf11701 (v := v119) hI (by omega) (by omega)
            refine am_evirtualV (m := am_m123) (As := [.ref 117, am_iv 59]) (S1 := []) rfl rfl rfl rfl rfl rfl rfl rfl rfl rfl (am_TE.void (am_ct124 (y1 := 59) (by omega) J120 (by omega) (show 0 ≤ 59 by omega)) (fun f121 a121 hq122 => ?_) (fun _ _ _ h => h))
            have m125 : am_mo fz az (am_ud f 11701 v119) a := am_mo.halt hp0 (by omega)
            obtain ⟨hI123, hk124, hq122⟩ := hq122
            replace hq122 : f121 11713 = ((f 11713)) ∧ (am_ph f a ) + 1 ≤ am_ph f121 a121 + 1 * (f121 11701) ∧ (am_at (a 124) 0) + 1 ≤ am_at (a121 124) 0 + 1 * (f121 11701) + 1 * ((f 11713)) := hq122
            have mm126 : v119 ≤ f121 11701 ∧ am_ph f a ≤ am_ph f121 a121 ∧ am_at (a 124) 0 ≤ am_at (a121 124) 0 ∧ am_at (a121 125) 0 = am_at (a 125) 0 := hk124.1
            have hm127 := am_mo.trans m125 hk124
            refine am_riload_n rfl rfl rfl ?_
            refine am_estaticI (m := am_m117) (As := [am_iv x2]) (S1 := []) rfl rfl rfl rfl rfl rfl rfl rfl (am_TE.int (am_ct118 (y1 := x2) (by omega) (by omega)) (fun b128 f128 a128 hq129 => ?_) (fun _ _ _ h => h))
            obtain ⟨rfl, rfl, hq129⟩ := hq129
            refine am_rif_ne rfl rfl (by unfold am_rg; omega) (fun hc130 => ?_) (fun hc130 => ?_)
            · refine am_riload_n rfl rfl rfl ?_
              have q131 := am_Rg11701 hI123.1.1
              have q132 := am_Rg11713 hI123.1.1
              exact am_eiret rfl rfl ⟨hI123, hm127, (show (-2147483648 ≤ x2 ∧ x2 ≤ 2147483647) by omega), (show f121 11713 = z11713 by omega), (show (0 ≤ x2 ∧ x2 ≤ 999999) by omega)⟩
            · refine am_raload_n rfl rfl rfl ?_
              refine am_riconst rfl ?_
              have q133 := am_Rg11701 hI123.1.1
              refine am_evirtualV (m := am_m116) (As := [.ref 117, am_iv 1]) (S1 := []) rfl rfl rfl rfl rfl rfl rfl rfl rfl rfl (am_TE.void (am_ct117 (y1 := 1) (by omega) (by omega) (show 1 ≤ 1 by omega) (show 1 ≤ 3 by omega) (show 0 ≤ (f121 11701) by omega) (show (f121 11701) ≤ 3 by omega)) (fun f134 a134 hq135 => ?_) (fun _ _ _ h => h))
              obtain ⟨v136, rfl, rfl, hq135⟩ := hq135
              replace hq135 : 0 < v136 ∧ v136 ≤ 3 ∧ f121 11701 ≤ v136 := hq135
              refine am_riload_n rfl rfl rfl ?_
              have J137 := am_Rf11701 (v := v136) hI123 (by omega) (by omega)
              have m138 : am_mo fz az (am_ud f121 11701 v136) a121 := am_mo.halt hm127 (by omega)
              have q139 := am_Rg11713 hI123.1.1
              exact am_eiret rfl rfl ⟨J137, m138, (show (-2147483648 ≤ x2 ∧ x2 ≤ 2147483647) by omega), (show f121 11713 = z11713 by omega), (show (0 ≤ x2 ∧ x2 ≤ 999999) by omega)⟩
        · refine am_rbipush rfl (by decide) ?_
          refine am_riload_n rfl rfl rfl ?_
          refine am_rimul rfl ?_
          refine am_raload_n rfl rfl rfl ?_
          refine am_evirtualI (m := am_m121) (As := [.ref 117]) (S1 := [am_iv (10 * x2)]) rfl rfl rfl rfl rfl rfl rfl rfl rfl rfl (am_TE.int (am_ct122  (by omega) hI) (fun b140 f140 a140 hq141 => ?_) (fun _ _ _ h => h))
          obtain ⟨rfl, rfl, hq141⟩ := hq141
          refine am_riadd rfl ?_
          refine am_rbipush rfl (by decide) ?_
          refine am_risub rfl ?_
          refine am_ristore_n (L1 := [(0, .ref 117), (1, am_iv x1), (2, am_iv (((10 * x2) + b140) - 48))]) rfl rfl rfl rfl rfl ?_
          refine am_raload_n rfl rfl rfl ?_
          have ok142 : f 11701 = 0 ∧ am_at (a 124) (f 11713) < am_at (a 125) (f 11713) := am_PK.ok hq141.2.2.1 (by omega)
          refine am_evirtualV (m := am_m122) (As := [.ref 117]) (S1 := []) rfl rfl rfl rfl rfl rfl rfl rfl rfl rfl (am_TE.void (am_ct123  (by omega) hI (show am_at (a 124) ((f 11713)) < am_at (a 125) ((f 11713)) by omega)) (fun f143 a143 hq144 => ?_) (fun _ _ _ h => h))
          obtain ⟨hI145, hk146, hq144⟩ := hq144
          replace hq144 : f143 11701 = ((f 11701)) ∧ f143 11713 = ((f 11713)) ∧ am_ph f143 a143 = (am_ph f a ) + 1 ∧ (((f 11713)) = 0 → am_at (a143 124) 0 = (am_at (a 124) 0) + 1) := hq144
          have mm147 : f 11701 ≤ f143 11701 ∧ am_ph f a ≤ am_ph f143 a143 ∧ am_at (a 124) 0 ≤ am_at (a143 124) 0 ∧ am_at (a143 125) 0 = am_at (a 125) 0 := hk146.1
          have hm148 := am_mo.trans hp0 hk146
          refine am_riinc (L1 := [(0, .ref 117), (1, am_iv (x1 + 1)), (2, am_iv (((10 * x2) + b140) - 48))]) rfl rfl rfl rfl rfl ?_
          refine am_rgoto rfl rfl ?_
          have q149 := am_Rg11701 hI145.1.1
          have q150 := am_Rg11713 hI145.1.1
          exact ih (by omega) hI145 hm148 (by omega) (by omega) (by omega) (by omega) (by omega) (by omega) (by omega)
set_option maxRecDepth 100000 in
set_option maxHeartbeats 4000000 in
theorem am_ct131 {X : List Value} {w : Value} {e : Nat} {g : aF} {h : aA} {E : Nat → aF → aA → Prop} {d : Nat} {f : aF} {a : aA} (hd : 3 ≤ d) (hI : am_RV g h f a) :
    am_TE X d am_m130 0 (lv_args 0 [.ref 117]) [] f a w e (am_QI (fun b f1 a1 => am_RV g h f1 a1 ∧ am_mo f a f1 a1 ∧ (-2147483648 ≤ b ∧ b ≤ 2147483647) ∧ f1 11713 = (f 11713) ∧ (0 ≤ b ∧ b ≤ 999999))) E := by
  obtain ⟨d, rfl⟩ : ∃ d0, d = d0 + 1 := ⟨d - 1, by omega⟩
  have q1 := am_RV_ph hI
  have q2 := am_RV_p0 hI
  have p0 := am_ten_0
  refine am_riconst rfl ?_
  refine am_ristore_n (L1 := [(0, .ref 117), (1, am_iv 0)]) rfl rfl rfl rfl rfl ?_
  refine am_riconst rfl ?_
  refine am_ristore_n (L1 := [(0, .ref 117), (1, am_iv 0), (2, am_iv 0)]) rfl rfl rfl rfl rfl ?_
  have q3 := am_Rg11701 hI.1.1
  have q4 := am_Rg11713 hI.1.1
  exact am_ct131_4 hd (_ + 1) (Nat.lt_succ_self _) hI (am_mo.refl f a) (by omega) (by omega) (by omega) (by omega) (by omega) (by omega) (by omega)
set_option maxRecDepth 100000 in
set_option maxHeartbeats 4000000 in
theorem am_ct133 {X : List Value} {w : Value} {e : Nat} {g : aF} {h : aA} {E : Nat → aF → aA → Prop} {d : Nat} {y1 : Int} {f : aF} {a : aA} (hd : 2 ≤ d) (hI : am_RV g h f a) (hp0 : (-2147483648 ≤ y1 ∧ y1 ≤ 2147483647)) (hp1 : 0 ≤ y1) (hp2 : y1 ≤ 25) :
    am_TE X d am_m132 0 (lv_args 0 [.ref 117, am_iv y1]) [] f a w e (am_QV (fun f1 a1 => am_RV g h f1 a1 ∧ am_mo f a f1 a1 ∧ (f 11713) ≤ f1 11713 ∧ f1 11713 ≤ (f 11713) + 1)) E := by
  obtain ⟨d, rfl⟩ : ∃ d0, d = d0 + 1 := ⟨d - 1, by omega⟩
  have q1 := am_RV_ph hI
  have q2 := am_RV_p0 hI
  have q8 := hI.2.2.2.2.2.1
  have q1 := hI.2.1
  have k9 := am_Rg11709 hI.1.1
  refine am_raload_n rfl rfl rfl ?_
  have q3 := am_Rg11701 hI.1.1
  refine am_rgetf (S1 := [am_iv (f 11701)]) rfl rfl ?_
  refine am_rif_ne rfl rfl (by unfold am_rg; omega) (fun hc4 => ?_) (fun hc4 => ?_)
  · refine am_raload_n rfl rfl rfl ?_
    refine am_rgetf (S1 := [am_iv (f 11701)]) rfl rfl ?_
    refine am_rif_eq rfl rfl (by unfold am_rg; omega) (fun hc5 => ?_) (fun hc5 => ?_)
    · refine am_raload_n rfl rfl rfl ?_
      refine am_rdup rfl rfl ?_
      have q6 := am_Rg11703 hI.1.1
      refine am_rgetf (S1 := [am_iv (f 11703), .ref 117]) rfl rfl ?_
      refine am_raload_n rfl rfl rfl ?_
      refine am_rgetf (S1 := [.ref 122, am_iv (f 11703), .ref 117]) rfl rfl ?_
      refine am_riload_n rfl rfl rfl ?_
      have q7 : (a 122).length = 26 := am_Rl122 (am_RL 122 rfl hI.1.1)
      have i8 : am_ib (a 122) y1 := by unfold am_ib; omega
      have q9 := am_Rb122 (am_RL 122 rfl hI.1.1) i8
      have r11 := hI.2.2.2.2.2.2.2.2.2.1 y1 (by omega) (by omega) (by omega)
      refine am_riaload (l := a 122) rfl am_ge122 i8 ?_
      refine am_riconst rfl ?_
      refine am_riadd rfl ?_
      refine am_riadd rfl ?_
      refine am_rputf (S1 := []) (h1 := am_enc (am_ud f 11703 ((f 11703) + ((am_at (a 122) y1) + 1))) a w e) rfl (am_pfB rfl am_ge117 rfl (am_sf11703 _)) (by rw [am_enc_len, am_enc_len]) ?_
      refine am_raload_n rfl rfl rfl ?_
      refine am_rgetf (S1 := [am_iv ((f 11703) + ((am_at (a 122) y1) + 1))]) rfl rfl ?_
      refine am_raload_n rfl rfl rfl ?_
      have q10 := am_Rg11702 hI.1.1
      refine am_rgetf (S1 := [am_iv (f 11702), am_iv ((f 11703) + ((am_at (a 122) y1) + 1))]) rfl rfl ?_
      refine am_ric_gt rfl rfl (by unfold am_rg; omega) (by unfold am_rg; omega) (fun hc11 => ?_) (fun hc11 => ?_)
      · refine am_raload_n rfl rfl rfl ?_
        refine am_riconst rfl ?_
        refine am_evirtualV (m := am_m116) (As := [.ref 117, am_iv 2]) (S1 := []) rfl rfl rfl rfl rfl rfl rfl rfl rfl rfl (am_TE.void (am_ct117 (y1 := 2) (by omega) (by omega) (show 1 ≤ 2 by omega) (show 2 ≤ 3 by omega) (show 0 ≤ (f 11701) by omega) (show (f 11701) ≤ 3 by omega)) (fun f12 a12 hq13 => ?_) (fun _ _ _ h => h))
        obtain ⟨v14, rfl, rfl, hq13⟩ := hq13
        replace hq13 : 0 < v14 ∧ v14 ≤ 3 ∧ f 11701 ≤ v14 := hq13
        exact am_eret rfl rfl ⟨am_RV_cost hI (by omega) (by omega) (by omega) (by omega), ⟨⟨(show f 11701 ≤ v14 by omega), (show am_at (a 124) 0 + f 11703 - am_lf (a 124) (a 125) (f 11713).toNat ≤ am_at (a 124) 0 + ((f 11703) + ((am_at (a 122) y1) + 1)) - am_lf (a 124) (a 125) (f 11713).toNat by omega), Int.le_refl _, rfl⟩, am_fr_f (am_fr_f (am_fr.refl f a) rfl) rfl⟩, Int.le_refl _, (show f 11713 ≤ f 11713 + 1 by omega)⟩
      · refine am_raload_n rfl rfl rfl ?_
        have q15 := am_Rg11718 hI.1.1
        refine am_rgetf (S1 := [am_iv (f 11718)]) rfl rfl ?_
        refine am_raload_n rfl rfl rfl ?_
        have q16 := am_Rg11713 hI.1.1
        refine am_rgetf (S1 := [am_iv (f 11713), am_iv (f 11718)]) rfl rfl ?_
        refine am_riadd rfl ?_
        refine am_rbipush rfl (by decide) ?_
        refine am_ric_ne rfl rfl (by unfold am_rg; omega) (by unfold am_rg; omega) (fun hc17 => ?_) (fun hc17 => ?_)
        · refine am_raload_n rfl rfl rfl ?_
          refine am_rdup rfl rfl ?_
          refine am_rgetf (S1 := [am_iv (f 11713), .ref 117]) rfl rfl ?_
          refine am_riconst rfl ?_
          refine am_riadd rfl ?_
          refine am_rputf (S1 := []) (h1 := am_enc (am_ud (am_ud f 11703 ((f 11703) + ((am_at (a 122) y1) + 1))) 11713 ((f 11713) + 1)) a w e) rfl (am_pfB rfl am_ge117 rfl (am_sf11713 _)) (by rw [am_enc_len, am_enc_len]) ?_
          refine am_raload_n rfl rfl rfl ?_
          refine am_rgetf (S1 := [.ref 124]) rfl rfl ?_
          refine am_raload_n rfl rfl rfl ?_
          refine am_rgetf (S1 := [am_iv ((f 11713) + 1), .ref 124]) rfl rfl ?_
          refine am_raload_n rfl rfl rfl ?_
          refine am_rgetf (S1 := [.ref 121, am_iv ((f 11713) + 1), .ref 124]) rfl rfl ?_
          refine am_riload_n rfl rfl rfl ?_
          have q18 : (a 121).length = 26 := am_Rl121 (am_RL 121 rfl hI.1.1)
          have i19 : am_ib (a 121) y1 := by unfold am_ib; omega
          have q20 := am_Rb121 (am_RL 121 rfl hI.1.1) i19
          refine am_riaload (l := a 121) rfl am_ge121 i19 ?_
          have q21 : (a 124).length = 20 := am_Rl124 (am_RL 124 rfl hI.1.1)
          have i22 : am_ib (a 124) ((f 11713) + 1) := by unfold am_ib; omega
          have hl23 : am_LR 124 ((a 124).set ((f 11713) + 1).toNat (am_at (a 121) y1)) := am_RS124 (am_RL 124 rfl hI.1.1) (by omega) (by omega)
          refine am_riastore (l := a 124) (h1 := am_enc (am_ud (am_ud f 11703 ((f 11703) + ((am_at (a 122) y1) + 1))) 11713 ((f 11713) + 1)) (am_ud a 124 ((a 124).set ((f 11713) + 1).toNat (am_at (a 121) y1))) w e) rfl am_ge124 i22 (am_sa124 _) ?_
          refine am_raload_n rfl rfl rfl ?_
          refine am_rgetf (S1 := [.ref 125]) rfl rfl ?_
          refine am_raload_n rfl rfl rfl ?_
          refine am_rgetf (S1 := [am_iv ((f 11713) + 1), .ref 125]) rfl rfl ?_
          refine am_raload_n rfl rfl rfl ?_
          refine am_rgetf (S1 := [.ref 121, am_iv ((f 11713) + 1), .ref 125]) rfl rfl ?_
          refine am_riload_n rfl rfl rfl ?_
          have i24 : am_ib (a 121) y1 := by unfold am_ib; omega
          refine am_riaload (l := a 121) rfl am_ge121 i24 ?_
          refine am_raload_n rfl rfl rfl ?_
          refine am_rgetf (S1 := [.ref 122, am_iv (am_at (a 121) y1), am_iv ((f 11713) + 1), .ref 125]) rfl rfl ?_
          refine am_riload_n rfl rfl rfl ?_
          have i25 : am_ib (a 122) y1 := by unfold am_ib; omega
          have r11 := hI.2.2.2.2.2.2.2.2.2.1 y1 (by omega) (by omega) (by omega)
          refine am_riaload (l := a 122) rfl am_ge122 i25 ?_
          refine am_riadd rfl ?_
          have q26 : (a 125).length = 20 := am_Rl125 (am_RL 125 rfl hI.1.1)
          have i27 : am_ib (a 125) ((f 11713) + 1) := by unfold am_ib; omega
          have hl28 : am_LR 125 ((a 125).set ((f 11713) + 1).toNat ((am_at (a 121) y1) + (am_at (a 122) y1))) := am_RS125 (am_RL 125 rfl hI.1.1) (by omega) (by omega)
          refine am_riastore (l := a 125) (h1 := am_enc (am_ud (am_ud f 11703 ((f 11703) + ((am_at (a 122) y1) + 1))) 11713 ((f 11713) + 1)) (am_ud (am_ud a 124 ((a 124).set ((f 11713) + 1).toNat (am_at (a 121) y1))) 125 ((a 125).set ((f 11713) + 1).toNat ((am_at (a 121) y1) + (am_at (a 122) y1)))) w e) rfl am_ge125 i27 (am_sa125 _) ?_
          refine am_raload_n rfl rfl rfl ?_
          refine am_rgetf (S1 := [.ref 126]) rfl rfl ?_
          refine am_raload_n rfl rfl rfl ?_
          refine am_rgetf (S1 := [am_iv ((f 11713) + 1), .ref 126]) rfl rfl ?_
          refine am_riload_n rfl rfl rfl ?_
          have q29 : (a 126).length = 20 := am_Rl126 (am_RL 126 rfl hI.1.1)
          have i30 : am_ib (a 126) ((f 11713) + 1) := by unfold am_ib; omega
          have hl31 : am_LR 126 ((a 126).set ((f 11713) + 1).toNat y1) := am_RS126 (am_RL 126 rfl hI.1.1) (by omega) (by omega)
          refine am_riastore (l := a 126) (h1 := am_enc (am_ud (am_ud f 11703 ((f 11703) + ((am_at (a 122) y1) + 1))) 11713 ((f 11713) + 1)) (am_ud (am_ud (am_ud a 124 ((a 124).set ((f 11713) + 1).toNat (am_at (a 121) y1))) 125 ((a 125).set ((f 11713) + 1).toNat ((am_at (a 121) y1) + (am_at (a 122) y1)))) 126 ((a 126).set ((f 11713) + 1).toNat y1)) w e) rfl am_ge126 i30 (am_sa126 _) ?_
          refine am_raload_n rfl rfl rfl ?_
          refine am_rgetf (S1 := [.ref 127]) rfl rfl ?_
          refine am_raload_n rfl rfl rfl ?_
          refine am_rgetf (S1 := [am_iv ((f 11713) + 1), .ref 127]) rfl rfl ?_
          refine am_raload_n rfl rfl rfl ?_
          refine am_rgetf (S1 := [am_iv (f 11718), am_iv ((f 11713) + 1), .ref 127]) rfl rfl ?_
          have q32 : (a 127).length = 20 := am_Rl127 (am_RL 127 rfl hI.1.1)
          have i33 : am_ib (a 127) ((f 11713) + 1) := by unfold am_ib; omega
          have hl34 : am_LR 127 ((a 127).set ((f 11713) + 1).toNat (f 11718)) := am_RS127 (am_RL 127 rfl hI.1.1) (by omega) (by omega)
          refine am_riastore (l := a 127) (h1 := am_enc (am_ud (am_ud f 11703 ((f 11703) + ((am_at (a 122) y1) + 1))) 11713 ((f 11713) + 1)) (am_ud (am_ud (am_ud (am_ud a 124 ((a 124).set ((f 11713) + 1).toNat (am_at (a 121) y1))) 125 ((a 125).set ((f 11713) + 1).toNat ((am_at (a 121) y1) + (am_at (a 122) y1)))) 126 ((a 126).set ((f 11713) + 1).toNat y1)) 127 ((a 127).set ((f 11713) + 1).toNat (f 11718))) w e) rfl am_ge127 i33 (am_sa127 _) ?_
          refine am_raload_n rfl rfl rfl ?_
          refine am_rgetf (S1 := [.ref 123]) rfl rfl ?_
          refine am_riload_n rfl rfl rfl ?_
          refine am_riconst rfl ?_
          have q35 : (a 123).length = 26 := am_Rl123 (am_RL 123 rfl hI.1.1)
          have i36 : am_ib (a 123) y1 := by unfold am_ib; omega
          have hl37 : am_LR 123 ((a 123).set y1.toNat 1) := am_RS123 (am_RL 123 rfl hI.1.1) (by omega) (by omega)
          refine am_rbastore (l := a 123) (h1 := am_enc (am_ud (am_ud f 11703 ((f 11703) + ((am_at (a 122) y1) + 1))) 11713 ((f 11713) + 1)) (am_ud (am_ud (am_ud (am_ud (am_ud a 124 ((a 124).set ((f 11713) + 1).toNat (am_at (a 121) y1))) 125 ((a 125).set ((f 11713) + 1).toNat ((am_at (a 121) y1) + (am_at (a 122) y1)))) 126 ((a 126).set ((f 11713) + 1).toNat y1)) 127 ((a 127).set ((f 11713) + 1).toNat (f 11718))) 123 ((a 123).set y1.toNat 1)) w e) rfl am_ge123 i36 (by omega) (am_sa123 _) ?_
          have hE := am_RV_enter (x := y1) hI (by omega) (by omega) (by omega) (by omega) (by omega) (by omega)
          exact am_eret rfl rfl ⟨hE.1, ⟨⟨Int.le_refl _, by rw [hE.2.1]; omega, Int.le_of_eq hE.2.2.1.symm, hE.2.2.2⟩, am_fr_a (am_fr_a (am_fr_a (am_fr_a (am_fr_a (am_fr_f (am_fr_f (am_fr.refl f a) rfl) rfl) rfl) rfl) rfl) rfl) rfl⟩, (show f 11713 ≤ f 11713 + 1 by omega), (show f 11713 + 1 ≤ f 11713 + 1 by omega)⟩
        · refine am_raload_n rfl rfl rfl ?_
          refine am_riconst rfl ?_
          refine am_evirtualV (m := am_m116) (As := [.ref 117, am_iv 2]) (S1 := []) rfl rfl rfl rfl rfl rfl rfl rfl rfl rfl (am_TE.void (am_ct117 (y1 := 2) (by omega) (by omega) (show 1 ≤ 2 by omega) (show 2 ≤ 3 by omega) (show 0 ≤ (f 11701) by omega) (show (f 11701) ≤ 3 by omega)) (fun f38 a38 hq39 => ?_) (fun _ _ _ h => h))
          obtain ⟨v40, rfl, rfl, hq39⟩ := hq39
          replace hq39 : 0 < v40 ∧ v40 ≤ 3 ∧ f 11701 ≤ v40 := hq39
          exact am_eret rfl rfl ⟨am_RV_cost hI (by omega) (by omega) (by omega) (by omega), ⟨⟨(show f 11701 ≤ v40 by omega), (show am_at (a 124) 0 + f 11703 - am_lf (a 124) (a 125) (f 11713).toNat ≤ am_at (a 124) 0 + ((f 11703) + ((am_at (a 122) y1) + 1)) - am_lf (a 124) (a 125) (f 11713).toNat by omega), Int.le_refl _, rfl⟩, am_fr_f (am_fr_f (am_fr.refl f a) rfl) rfl⟩, Int.le_refl _, (show f 11713 ≤ f 11713 + 1 by omega)⟩
    · have q41 := am_Rg11713 hI.1.1
      exact am_eret rfl rfl ⟨hI, (am_mo.refl f a), (show (f 11713) ≤ f 11713 by omega), (show f 11713 ≤ (f 11713) + 1 by omega)⟩
  · refine am_raload_n rfl rfl rfl ?_
    refine am_rgetf (S1 := [.ref 121]) rfl rfl ?_
    refine am_riload_n rfl rfl rfl ?_
    have q42 : (a 121).length = 26 := am_Rl121 (am_RL 121 rfl hI.1.1)
    have i43 : am_ib (a 121) y1 := by unfold am_ib; omega
    have q44 := am_Rb121 (am_RL 121 rfl hI.1.1) i43
    refine am_riaload (l := a 121) rfl am_ge121 i43 ?_
    refine am_rif_lt rfl rfl (by unfold am_rg; omega) (fun hc45 => ?_) (fun hc45 => ?_)
    · refine am_raload_n rfl rfl rfl ?_
      refine am_riconst rfl ?_
      refine am_evirtualV (m := am_m116) (As := [.ref 117, am_iv 1]) (S1 := []) rfl rfl rfl rfl rfl rfl rfl rfl rfl rfl (am_TE.void (am_ct117 (y1 := 1) (by omega) (by omega) (show 1 ≤ 1 by omega) (show 1 ≤ 3 by omega) (show 0 ≤ (f 11701) by omega) (show (f 11701) ≤ 3 by omega)) (fun f46 a46 hq47 => ?_) (fun _ _ _ h => h))
      obtain ⟨v48, rfl, rfl, hq47⟩ := hq47
      replace hq47 : 0 < v48 ∧ v48 ≤ 3 ∧ f 11701 ≤ v48 := hq47
      refine am_raload_n rfl rfl rfl ?_
      refine am_rgetf (S1 := [am_iv v48]) rfl rfl ?_
      refine am_rif_eq rfl rfl (by unfold am_rg; omega) (fun hc49 => ?_) (fun hc49 => ?_)
      · exfalso; omega
      have J50 := am_Rf11701 (v := v48) hI (by omega) (by omega)
      have m51 : am_mo f a (am_ud f 11701 v48) a := am_mo.halt (am_mo.refl f a) (by omega)
      have q52 := am_Rg11713 hI.1.1
      exact am_eret rfl rfl ⟨J50, m51, (show (f 11713) ≤ f 11713 by omega), (show f 11713 ≤ (f 11713) + 1 by omega)⟩
    · refine am_raload_n rfl rfl rfl ?_
      refine am_rgetf (S1 := [.ref 123]) rfl rfl ?_
      refine am_riload_n rfl rfl rfl ?_
      have q53 : (a 123).length = 26 := am_Rl123 (am_RL 123 rfl hI.1.1)
      have i54 : am_ib (a 123) y1 := by unfold am_ib; omega
      have q55 := am_Rb123 (am_RL 123 rfl hI.1.1) i54
      refine am_rbaload (l := a 123) rfl am_ge123 i54 ?_
      refine am_rif_eq rfl rfl (by unfold am_rg; omega) (fun hc56 => ?_) (fun hc56 => ?_)
      · refine am_raload_n rfl rfl rfl ?_
        refine am_rgetf (S1 := [am_iv (f 11701)]) rfl rfl ?_
        refine am_rif_eq rfl rfl (by unfold am_rg; omega) (fun hc57 => ?_) (fun hc57 => ?_)
        · refine am_raload_n rfl rfl rfl ?_
          refine am_rdup rfl rfl ?_
          have q58 := am_Rg11703 hI.1.1
          refine am_rgetf (S1 := [am_iv (f 11703), .ref 117]) rfl rfl ?_
          refine am_raload_n rfl rfl rfl ?_
          refine am_rgetf (S1 := [.ref 122, am_iv (f 11703), .ref 117]) rfl rfl ?_
          refine am_riload_n rfl rfl rfl ?_
          have q59 : (a 122).length = 26 := am_Rl122 (am_RL 122 rfl hI.1.1)
          have i60 : am_ib (a 122) y1 := by unfold am_ib; omega
          have q61 := am_Rb122 (am_RL 122 rfl hI.1.1) i60
          have r11 := hI.2.2.2.2.2.2.2.2.2.1 y1 (by omega) (by omega) (by omega)
          refine am_riaload (l := a 122) rfl am_ge122 i60 ?_
          refine am_riconst rfl ?_
          refine am_riadd rfl ?_
          refine am_riadd rfl ?_
          refine am_rputf (S1 := []) (h1 := am_enc (am_ud f 11703 ((f 11703) + ((am_at (a 122) y1) + 1))) a w e) rfl (am_pfB rfl am_ge117 rfl (am_sf11703 _)) (by rw [am_enc_len, am_enc_len]) ?_
          refine am_raload_n rfl rfl rfl ?_
          refine am_rgetf (S1 := [am_iv ((f 11703) + ((am_at (a 122) y1) + 1))]) rfl rfl ?_
          refine am_raload_n rfl rfl rfl ?_
          have q62 := am_Rg11702 hI.1.1
          refine am_rgetf (S1 := [am_iv (f 11702), am_iv ((f 11703) + ((am_at (a 122) y1) + 1))]) rfl rfl ?_
          refine am_ric_gt rfl rfl (by unfold am_rg; omega) (by unfold am_rg; omega) (fun hc63 => ?_) (fun hc63 => ?_)
          · refine am_raload_n rfl rfl rfl ?_
            refine am_riconst rfl ?_
            refine am_evirtualV (m := am_m116) (As := [.ref 117, am_iv 2]) (S1 := []) rfl rfl rfl rfl rfl rfl rfl rfl rfl rfl (am_TE.void (am_ct117 (y1 := 2) (by omega) (by omega) (show 1 ≤ 2 by omega) (show 2 ≤ 3 by omega) (show 0 ≤ (f 11701) by omega) (show (f 11701) ≤ 3 by omega)) (fun f64 a64 hq65 => ?_) (fun _ _ _ h => h))
            obtain ⟨v66, rfl, rfl, hq65⟩ := hq65
            replace hq65 : 0 < v66 ∧ v66 ≤ 3 ∧ f 11701 ≤ v66 := hq65
            exact am_eret rfl rfl ⟨am_RV_cost hI (by omega) (by omega) (by omega) (by omega), ⟨⟨(show f 11701 ≤ v66 by omega), (show am_at (a 124) 0 + f 11703 - am_lf (a 124) (a 125) (f 11713).toNat ≤ am_at (a 124) 0 + ((f 11703) + ((am_at (a 122) y1) + 1)) - am_lf (a 124) (a 125) (f 11713).toNat by omega), Int.le_refl _, rfl⟩, am_fr_f (am_fr_f (am_fr.refl f a) rfl) rfl⟩, Int.le_refl _, (show f 11713 ≤ f 11713 + 1 by omega)⟩
          · refine am_raload_n rfl rfl rfl ?_
            have q67 := am_Rg11718 hI.1.1
            refine am_rgetf (S1 := [am_iv (f 11718)]) rfl rfl ?_
            refine am_raload_n rfl rfl rfl ?_
            have q68 := am_Rg11713 hI.1.1
            refine am_rgetf (S1 := [am_iv (f 11713), am_iv (f 11718)]) rfl rfl ?_
            refine am_riadd rfl ?_
            refine am_rbipush rfl (by decide) ?_
            refine am_ric_ne rfl rfl (by unfold am_rg; omega) (by unfold am_rg; omega) (fun hc69 => ?_) (fun hc69 => ?_)
            · refine am_raload_n rfl rfl rfl ?_
              refine am_rdup rfl rfl ?_
              refine am_rgetf (S1 := [am_iv (f 11713), .ref 117]) rfl rfl ?_
              refine am_riconst rfl ?_
              refine am_riadd rfl ?_
              refine am_rputf (S1 := []) (h1 := am_enc (am_ud (am_ud f 11703 ((f 11703) + ((am_at (a 122) y1) + 1))) 11713 ((f 11713) + 1)) a w e) rfl (am_pfB rfl am_ge117 rfl (am_sf11713 _)) (by rw [am_enc_len, am_enc_len]) ?_
              refine am_raload_n rfl rfl rfl ?_
              refine am_rgetf (S1 := [.ref 124]) rfl rfl ?_
              refine am_raload_n rfl rfl rfl ?_
              refine am_rgetf (S1 := [am_iv ((f 11713) + 1), .ref 124]) rfl rfl ?_
              refine am_raload_n rfl rfl rfl ?_
              refine am_rgetf (S1 := [.ref 121, am_iv ((f 11713) + 1), .ref 124]) rfl rfl ?_
              refine am_riload_n rfl rfl rfl ?_
              have i70 : am_ib (a 121) y1 := by unfold am_ib; omega
              refine am_riaload (l := a 121) rfl am_ge121 i70 ?_
              have q71 : (a 124).length = 20 := am_Rl124 (am_RL 124 rfl hI.1.1)
              have i72 : am_ib (a 124) ((f 11713) + 1) := by unfold am_ib; omega
              have hl73 : am_LR 124 ((a 124).set ((f 11713) + 1).toNat (am_at (a 121) y1)) := am_RS124 (am_RL 124 rfl hI.1.1) (by omega) (by omega)
              refine am_riastore (l := a 124) (h1 := am_enc (am_ud (am_ud f 11703 ((f 11703) + ((am_at (a 122) y1) + 1))) 11713 ((f 11713) + 1)) (am_ud a 124 ((a 124).set ((f 11713) + 1).toNat (am_at (a 121) y1))) w e) rfl am_ge124 i72 (am_sa124 _) ?_
              refine am_raload_n rfl rfl rfl ?_
              refine am_rgetf (S1 := [.ref 125]) rfl rfl ?_
              refine am_raload_n rfl rfl rfl ?_
              refine am_rgetf (S1 := [am_iv ((f 11713) + 1), .ref 125]) rfl rfl ?_
              refine am_raload_n rfl rfl rfl ?_
              refine am_rgetf (S1 := [.ref 121, am_iv ((f 11713) + 1), .ref 125]) rfl rfl ?_
              refine am_riload_n rfl rfl rfl ?_
              have i74 : am_ib (a 121) y1 := by unfold am_ib; omega
              refine am_riaload (l := a 121) rfl am_ge121 i74 ?_
              refine am_raload_n rfl rfl rfl ?_
              refine am_rgetf (S1 := [.ref 122, am_iv (am_at (a 121) y1), am_iv ((f 11713) + 1), .ref 125]) rfl rfl ?_
              refine am_riload_n rfl rfl rfl ?_
              have i75 : am_ib (a 122) y1 := by unfold am_ib; omega
              have r11 := hI.2.2.2.2.2.2.2.2.2.1 y1 (by omega) (by omega) (by omega)
              refine am_riaload (l := a 122) rfl am_ge122 i75 ?_
              refine am_riadd rfl ?_
              have q76 : (a 125).length = 20 := am_Rl125 (am_RL 125 rfl hI.1.1)
              have i77 : am_ib (a 125) ((f 11713) + 1) := by unfold am_ib; omega
              have hl78 : am_LR 125 ((a 125).set ((f 11713) + 1).toNat ((am_at (a 121) y1) + (am_at (a 122) y1))) := am_RS125 (am_RL 125 rfl hI.1.1) (by omega) (by omega)
              refine am_riastore (l := a 125) (h1 := am_enc (am_ud (am_ud f 11703 ((f 11703) + ((am_at (a 122) y1) + 1))) 11713 ((f 11713) + 1)) (am_ud (am_ud a 124 ((a 124).set ((f 11713) + 1).toNat (am_at (a 121) y1))) 125 ((a 125).set ((f 11713) + 1).toNat ((am_at (a 121) y1) + (am_at (a 122) y1)))) w e) rfl am_ge125 i77 (am_sa125 _) ?_
              refine am_raload_n rfl rfl rfl ?_
              refine am_rgetf (S1 := [.ref 126]) rfl rfl ?_
              refine am_raload_n rfl rfl rfl ?_
              refine am_rgetf (S1 := [am_iv ((f 11713) + 1), .ref 126]) rfl rfl ?_
              refine am_riload_n rfl rfl rfl ?_
              have q79 : (a 126).length = 20 := am_Rl126 (am_RL 126 rfl hI.1.1)
              have i80 : am_ib (a 126) ((f 11713) + 1) := by unfold am_ib; omega
              have hl81 : am_LR 126 ((a 126).set ((f 11713) + 1).toNat y1) := am_RS126 (am_RL 126 rfl hI.1.1) (by omega) (by omega)
              refine am_riastore (l := a 126) (h1 := am_enc (am_ud (am_ud f 11703 ((f 11703) + ((am_at (a 122) y1) + 1))) 11713 ((f 11713) + 1)) (am_ud (am_ud (am_ud a 124 ((a 124).set ((f 11713) + 1).toNat (am_at (a 121) y1))) 125 ((a 125).set ((f 11713) + 1).toNat ((am_at (a 121) y1) + (am_at (a 122) y1)))) 126 ((a 126).set ((f 11713) + 1).toNat y1)) w e) rfl am_ge126 i80 (am_sa126 _) ?_
              refine am_raload_n rfl rfl rfl ?_
              refine am_rgetf (S1 := [.ref 127]) rfl rfl ?_
              refine am_raload_n rfl rfl rfl ?_
              refine am_rgetf (S1 := [am_iv ((f 11713) + 1), .ref 127]) rfl rfl ?_
              refine am_raload_n rfl rfl rfl ?_
              refine am_rgetf (S1 := [am_iv (f 11718), am_iv ((f 11713) + 1), .ref 127]) rfl rfl ?_
              have q82 : (a 127).length = 20 := am_Rl127 (am_RL 127 rfl hI.1.1)
              have i83 : am_ib (a 127) ((f 11713) + 1) := by unfold am_ib; omega
              have hl84 : am_LR 127 ((a 127).set ((f 11713) + 1).toNat (f 11718)) := am_RS127 (am_RL 127 rfl hI.1.1) (by omega) (by omega)
              refine am_riastore (l := a 127) (h1 := am_enc (am_ud (am_ud f 11703 ((f 11703) + ((am_at (a 122) y1) + 1))) 11713 ((f 11713) + 1)) (am_ud (am_ud (am_ud (am_ud a 124 ((a 124).set ((f 11713) + 1).toNat (am_at (a 121) y1))) 125 ((a 125).set ((f 11713) + 1).toNat ((am_at (a 121) y1) + (am_at (a 122) y1)))) 126 ((a 126).set ((f 11713) + 1).toNat y1)) 127 ((a 127).set ((f 11713) + 1).toNat (f 11718))) w e) rfl am_ge127 i83 (am_sa127 _) ?_
              refine am_raload_n rfl rfl rfl ?_
              refine am_rgetf (S1 := [.ref 123]) rfl rfl ?_
              refine am_riload_n rfl rfl rfl ?_
              refine am_riconst rfl ?_
              have i85 : am_ib (a 123) y1 := by unfold am_ib; omega
              have hl86 : am_LR 123 ((a 123).set y1.toNat 1) := am_RS123 (am_RL 123 rfl hI.1.1) (by omega) (by omega)
              refine am_rbastore (l := a 123) (h1 := am_enc (am_ud (am_ud f 11703 ((f 11703) + ((am_at (a 122) y1) + 1))) 11713 ((f 11713) + 1)) (am_ud (am_ud (am_ud (am_ud (am_ud a 124 ((a 124).set ((f 11713) + 1).toNat (am_at (a 121) y1))) 125 ((a 125).set ((f 11713) + 1).toNat ((am_at (a 121) y1) + (am_at (a 122) y1)))) 126 ((a 126).set ((f 11713) + 1).toNat y1)) 127 ((a 127).set ((f 11713) + 1).toNat (f 11718))) 123 ((a 123).set y1.toNat 1)) w e) rfl am_ge123 i85 (by omega) (am_sa123 _) ?_
              have hE := am_RV_enter (x := y1) hI (by omega) (by omega) (by omega) (by omega) (by omega) (by omega)
              exact am_eret rfl rfl ⟨hE.1, ⟨⟨Int.le_refl _, by rw [hE.2.1]; omega, Int.le_of_eq hE.2.2.1.symm, hE.2.2.2⟩, am_fr_a (am_fr_a (am_fr_a (am_fr_a (am_fr_a (am_fr_f (am_fr_f (am_fr.refl f a) rfl) rfl) rfl) rfl) rfl) rfl) rfl⟩, (show f 11713 ≤ f 11713 + 1 by omega), (show f 11713 + 1 ≤ f 11713 + 1 by omega)⟩
            · refine am_raload_n rfl rfl rfl ?_
              refine am_riconst rfl ?_
              refine am_evirtualV (m := am_m116) (As := [.ref 117, am_iv 2]) (S1 := []) rfl rfl rfl rfl rfl rfl rfl rfl rfl rfl (am_TE.void (am_ct117 (y1 := 2) (by omega) (by omega) (show 1 ≤ 2 by omega) (show 2 ≤ 3 by omega) (show 0 ≤ (f 11701) by omega) (show (f 11701) ≤ 3 by omega)) (fun f87 a87 hq88 => ?_) (fun _ _ _ h => h))
              obtain ⟨v89, rfl, rfl, hq88⟩ := hq88
              replace hq88 : 0 < v89 ∧ v89 ≤ 3 ∧ f 11701 ≤ v89 := hq88
              exact am_eret rfl rfl ⟨am_RV_cost hI (by omega) (by omega) (by omega) (by omega), ⟨⟨(show f 11701 ≤ v89 by omega), (show am_at (a 124) 0 + f 11703 - am_lf (a 124) (a 125) (f 11713).toNat ≤ am_at (a 124) 0 + ((f 11703) + ((am_at (a 122) y1) + 1)) - am_lf (a 124) (a 125) (f 11713).toNat by omega), Int.le_refl _, rfl⟩, am_fr_f (am_fr_f (am_fr.refl f a) rfl) rfl⟩, Int.le_refl _, (show f 11713 ≤ f 11713 + 1 by omega)⟩
        · have q90 := am_Rg11713 hI.1.1
          exact am_eret rfl rfl ⟨hI, (am_mo.refl f a), (show (f 11713) ≤ f 11713 by omega), (show f 11713 ≤ (f 11713) + 1 by omega)⟩
      · refine am_raload_n rfl rfl rfl ?_
        refine am_riconst rfl ?_
        refine am_evirtualV (m := am_m116) (As := [.ref 117, am_iv 1]) (S1 := []) rfl rfl rfl rfl rfl rfl rfl rfl rfl rfl (am_TE.void (am_ct117 (y1 := 1) (by omega) (by omega) (show 1 ≤ 1 by omega) (show 1 ≤ 3 by omega) (show 0 ≤ (f 11701) by omega) (show (f 11701) ≤ 3 by omega)) (fun f91 a91 hq92 => ?_) (fun _ _ _ h => h))
        obtain ⟨v93, rfl, rfl, hq92⟩ := hq92
        replace hq92 : 0 < v93 ∧ v93 ≤ 3 ∧ f 11701 ≤ v93 := hq92
        refine am_raload_n rfl rfl rfl ?_
        refine am_rgetf (S1 := [am_iv v93]) rfl rfl ?_
        refine am_rif_eq rfl rfl (by unfold am_rg; omega) (fun hc94 => ?_) (fun hc94 => ?_)
        · exfalso; omega
        have J95 := am_Rf11701 (v := v93) hI (by omega) (by omega)
        have m96 : am_mo f a (am_ud f 11701 v93) a := am_mo.halt (am_mo.refl f a) (by omega)
        have q97 := am_Rg11713 hI.1.1
        exact am_eret rfl rfl ⟨J95, m96, (show (f 11713) ≤ f 11713 by omega), (show f 11713 ≤ (f 11713) + 1 by omega)⟩
set_option maxRecDepth 100000 in
set_option maxHeartbeats 4000000 in
theorem am_ct134 {X : List Value} {w : Value} {e : Nat} {g : aF} {h : aA} {E : Nat → aF → aA → Prop} {d : Nat} {f : aF} {a : aA} (hd : 1 ≤ d) (hI : am_RV g h f a) (hp0 : 1 ≤ f 11713) (hp1 : am_at (a 124) (f 11713) = am_at (a 125) (f 11713)) :
    am_TE X d am_m133 0 (lv_args 0 [.ref 117]) [] f a w e (am_QV (fun f1 a1 => am_RV g h f1 a1 ∧ am_mo f a f1 a1 ∧ f1 11701 = (f 11701) ∧ f1 11713 = (f 11713) - 1 ∧ am_ph f1 a1 = (am_ph f a) ∧ am_at (a1 124) 0 = (am_at (a 124) 0))) E := by
  obtain ⟨d, rfl⟩ : ∃ d0, d = d0 + 1 := ⟨d - 1, by omega⟩
  have q1 := am_RV_ph hI
  have q2 := am_RV_p0 hI
  have q3 := am_Rg11713 hI.1.1
  refine am_raload_n rfl rfl rfl ?_
  refine am_rgetf (S1 := [.ref 123]) rfl rfl ?_
  refine am_raload_n rfl rfl rfl ?_
  refine am_rgetf (S1 := [.ref 126, .ref 123]) rfl rfl ?_
  refine am_raload_n rfl rfl rfl ?_
  refine am_rgetf (S1 := [am_iv (f 11713), .ref 126, .ref 123]) rfl rfl ?_
  have q4 : (a 126).length = 20 := am_Rl126 (am_RL 126 rfl hI.1.1)
  have i5 : am_ib (a 126) (f 11713) := by unfold am_ib; omega
  have q6 := am_Rb126 (am_RL 126 rfl hI.1.1) i5
  refine am_riaload (l := a 126) rfl am_ge126 i5 ?_
  refine am_riconst rfl ?_
  have q7 : (a 123).length = 26 := am_Rl123 (am_RL 123 rfl hI.1.1)
  have i8 : am_ib (a 123) (am_at (a 126) (f 11713)) := by unfold am_ib; omega
  have hl9 : am_LR 123 ((a 123).set (am_at (a 126) (f 11713)).toNat 0) := am_RS123 (am_RL 123 rfl hI.1.1) (by omega) (by omega)
  refine am_rbastore (l := a 123) (h1 := am_enc f (am_ud a 123 ((a 123).set (am_at (a 126) (f 11713)).toNat 0)) w e) rfl am_ge123 i8 (by omega) (am_sa123 _) ?_
  refine am_raload_n rfl rfl rfl ?_
  refine am_rdup rfl rfl ?_
  refine am_rgetf (S1 := [am_iv (f 11713), .ref 117]) rfl rfl ?_
  refine am_riconst rfl ?_
  refine am_risub rfl ?_
  refine am_rputf (S1 := []) (h1 := am_enc (am_ud f 11713 ((f 11713) - 1)) (am_ud a 123 ((a 123).set (am_at (a 126) (f 11713)).toNat 0)) w e) rfl (am_pfB rfl am_ge117 rfl (am_sf11713 _)) (by rw [am_enc_len, am_enc_len]) ?_
  have hE := am_RV_leave (x := am_at (a 126) (f 11713)) hI hp0 hp1
  exact am_eret rfl rfl ⟨hE.1, ⟨⟨Int.le_refl _, Int.le_of_eq hE.2.symm, Int.le_refl _, rfl⟩, am_fr_a (am_fr_f (am_fr.refl f a) rfl) rfl⟩, rfl, rfl, hE.2, rfl⟩
set_option maxRecDepth 100000 in
set_option maxHeartbeats 4000000 in
theorem am_ct132 {X : List Value} {w : Value} {e : Nat} {g : aF} {h : aA} {E : Nat → aF → aA → Prop} {d : Nat} {f : aF} {a : aA} (hd : 4 ≤ d) (hI : am_RV g h f a) :
    am_TE X d am_m131 0 (lv_args 0 [.ref 117]) [] f a w e (am_QI (fun b f1 a1 => am_RV g h f1 a1 ∧ am_mo f a f1 a1 ∧ (-2147483648 ≤ b ∧ b ≤ 2147483647) ∧ -1 ≤ b ∧ (f 11713) ≤ f1 11713 ∧ f1 11713 ≤ (f 11713) + 1)) E := by
  obtain ⟨d, rfl⟩ : ∃ d0, d = d0 + 1 := ⟨d - 1, by omega⟩
  have q1 := am_RV_ph hI
  have q2 := am_RV_p0 hI
  refine am_raload_n rfl rfl rfl ?_
  refine am_evirtualI (m := am_m121) (As := [.ref 117]) (S1 := []) rfl rfl rfl rfl rfl rfl rfl rfl rfl rfl (am_TE.int (am_ct122  (by omega) hI) (fun b3 f3 a3 hq4 => ?_) (fun _ _ _ h => h))
  obtain ⟨rfl, rfl, hq4⟩ := hq4
  refine am_rbipush rfl (by decide) ?_
  refine am_ric_ne rfl rfl (by unfold am_rg; omega) (by unfold am_rg; omega) (fun hc5 => ?_) (fun hc5 => ?_)
  · refine am_raload_n rfl rfl rfl ?_
    refine am_evirtualI (m := am_m127) (As := [.ref 117]) (S1 := []) rfl rfl rfl rfl rfl rfl rfl rfl rfl rfl (am_TE.int (am_ct128  (by omega) hI) (fun b6 f6 a6 hq7 => ?_) (fun _ _ _ h => h))
    obtain ⟨hI8, hk9, hq7⟩ := hq7
    replace hq7 : (-2147483648 ≤ b6 ∧ b6 ≤ 2147483647) ∧ f6 11713 = ((f 11713)) ∧ (am_ph f a ) + 1 ≤ am_ph f6 a6 + 1 * (f6 11701) ∧ (am_at (a 124) 0) + 1 ≤ am_at (a6 124) 0 + 1 * (f6 11701) + 1 * ((f 11713)) ∧ (0 ≤ b6 ∧ b6 ≤ 25) := hq7
    have mm10 : f 11701 ≤ f6 11701 ∧ am_ph f a ≤ am_ph f6 a6 ∧ am_at (a 124) 0 ≤ am_at (a6 124) 0 ∧ am_at (a6 125) 0 = am_at (a 125) 0 := hk9.1
    have hm11 := am_mo.trans (am_mo.refl f a) hk9
    refine am_ristore_n (L1 := [(0, .ref 117), (1, am_iv b6)]) rfl rfl rfl rfl rfl ?_
    refine am_raload_n rfl rfl rfl ?_
    refine am_evirtualI (m := am_m121) (As := [.ref 117]) (S1 := []) rfl rfl rfl rfl rfl rfl rfl rfl rfl rfl (am_TE.int (am_ct122  (by omega) hI8) (fun b12 f12 a12 hq13 => ?_) (fun _ _ _ h => h))
    obtain ⟨rfl, rfl, hq13⟩ := hq13
    refine am_rbipush rfl (by decide) ?_
    refine am_ric_ne rfl rfl (by unfold am_rg; omega) (by unfold am_rg; omega) (fun hc14 => ?_) (fun hc14 => ?_)
    · refine am_riload_n rfl rfl rfl ?_
      refine am_rbipush rfl (by decide) ?_
      refine am_ric_ne rfl rfl (by unfold am_rg; omega) (by unfold am_rg; omega) (fun hc15 => ?_) (fun hc15 => ?_)
      · refine am_riload_n rfl rfl rfl ?_
        refine am_rif_eq rfl rfl (by unfold am_rg; omega) (fun hc16 => ?_) (fun hc16 => ?_)
        · refine am_raload_n rfl rfl rfl ?_
          refine am_rldc2 rfl rfl ?_
          refine am_evirtualV (m := am_m124) (As := [.ref 117, .long (7172155)]) (S1 := []) rfl rfl rfl rfl rfl rfl rfl rfl rfl rfl (am_TE.void (am_ct125 (y1 := 7172155) (by omega) hI8 (by decide)) (fun f17 a17 hq18 => ?_) (fun _ _ _ h => h))
          obtain ⟨hI19, hk20, hq18⟩ := hq18
          replace hq18 : f17 11713 = ((f6 11713)) ∧ (am_ph f6 a6 ) + 1 ≤ am_ph f17 a17 + 1 * (f17 11701) ∧ (am_at (a6 124) 0) + 1 ≤ am_at (a17 124) 0 + 1 * (f17 11701) + 1 * ((f6 11713)) := hq18
          have mm21 : f6 11701 ≤ f17 11701 ∧ am_ph f6 a6 ≤ am_ph f17 a17 ∧ am_at (a6 124) 0 ≤ am_at (a17 124) 0 ∧ am_at (a17 125) 0 = am_at (a6 125) 0 := hk20.1
          have hm22 := am_mo.trans hm11 hk20
          refine am_rbipush rfl (by decide) ?_
          have q23 := am_Rg11701 hI19.1.1
          have q24 := am_Rg11713 hI19.1.1
          exact am_eiret rfl rfl ⟨hI19, hm22, (show (-2147483648 ≤ (38 : Int) ∧ (38 : Int) ≤ 2147483647) by omega), (show -1 ≤ ((38 : Int)) by omega), (show (f 11713) ≤ f17 11713 by omega), (show f17 11713 ≤ (f 11713) + 1 by omega)⟩
        · refine am_raload_n rfl rfl rfl ?_
          refine am_riconst rfl ?_
          have q25 := am_Rg11701 hI8.1.1
          refine am_evirtualV (m := am_m116) (As := [.ref 117, am_iv 1]) (S1 := []) rfl rfl rfl rfl rfl rfl rfl rfl rfl rfl (am_TE.void (am_ct117 (y1 := 1) (by omega) (by omega) (show 1 ≤ 1 by omega) (show 1 ≤ 3 by omega) (show 0 ≤ (f6 11701) by omega) (show (f6 11701) ≤ 3 by omega)) (fun f26 a26 hq27 => ?_) (fun _ _ _ h => h))
          obtain ⟨v28, rfl, rfl, hq27⟩ := hq27
          replace hq27 : 0 < v28 ∧ v28 ≤ 3 ∧ f6 11701 ≤ v28 := hq27
          refine am_raload_n rfl rfl rfl ?_
          refine am_rldc2 rfl rfl ?_
          have J29 := am_Rf11701 (v := v28) hI8 (by omega) (by omega)
          refine am_evirtualV (m := am_m124) (As := [.ref 117, .long (7172155)]) (S1 := []) rfl rfl rfl rfl rfl rfl rfl rfl rfl rfl (am_TE.void (am_ct125 (y1 := 7172155) (by omega) J29 (by decide)) (fun f30 a30 hq31 => ?_) (fun _ _ _ h => h))
          have m34 : am_mo f a (am_ud f6 11701 v28) a6 := am_mo.halt hm11 (by omega)
          obtain ⟨hI32, hk33, hq31⟩ := hq31
          replace hq31 : f30 11713 = ((f6 11713)) ∧ (am_ph f6 a6 ) + 1 ≤ am_ph f30 a30 + 1 * (f30 11701) ∧ (am_at (a6 124) 0) + 1 ≤ am_at (a30 124) 0 + 1 * (f30 11701) + 1 * ((f6 11713)) := hq31
          have mm35 : v28 ≤ f30 11701 ∧ am_ph f6 a6 ≤ am_ph f30 a30 ∧ am_at (a6 124) 0 ≤ am_at (a30 124) 0 ∧ am_at (a30 125) 0 = am_at (a6 125) 0 := hk33.1
          have hm36 := am_mo.trans m34 hk33
          refine am_rbipush rfl (by decide) ?_
          have q37 := am_Rg11701 hI32.1.1
          have q38 := am_Rg11713 hI32.1.1
          exact am_eiret rfl rfl ⟨hI32, hm36, (show (-2147483648 ≤ (38 : Int) ∧ (38 : Int) ≤ 2147483647) by omega), (show -1 ≤ ((38 : Int)) by omega), (show (f 11713) ≤ f30 11713 by omega), (show f30 11713 ≤ (f 11713) + 1 by omega)⟩
      · refine am_raload_n rfl rfl rfl ?_
        refine am_rldc2 rfl rfl ?_
        refine am_evirtualV (m := am_m124) (As := [.ref 117, .long (29755)]) (S1 := []) rfl rfl rfl rfl rfl rfl rfl rfl rfl rfl (am_TE.void (am_ct125 (y1 := 29755) (by omega) hI8 (by decide)) (fun f39 a39 hq40 => ?_) (fun _ _ _ h => h))
        obtain ⟨hI41, hk42, hq40⟩ := hq40
        replace hq40 : f39 11713 = ((f6 11713)) ∧ (am_ph f6 a6 ) + 1 ≤ am_ph f39 a39 + 1 * (f39 11701) ∧ (am_at (a6 124) 0) + 1 ≤ am_at (a39 124) 0 + 1 * (f39 11701) + 1 * ((f6 11713)) := hq40
        have mm43 : f6 11701 ≤ f39 11701 ∧ am_ph f6 a6 ≤ am_ph f39 a39 ∧ am_at (a6 124) 0 ≤ am_at (a39 124) 0 ∧ am_at (a39 125) 0 = am_at (a6 125) 0 := hk42.1
        have hm44 := am_mo.trans hm11 hk42
        refine am_rbipush rfl (by decide) ?_
        have q45 := am_Rg11701 hI41.1.1
        have q46 := am_Rg11713 hI41.1.1
        exact am_eiret rfl rfl ⟨hI41, hm44, (show (-2147483648 ≤ (60 : Int) ∧ (60 : Int) ≤ 2147483647) by omega), (show -1 ≤ ((60 : Int)) by omega), (show (f 11713) ≤ f39 11713 by omega), (show f39 11713 ≤ (f 11713) + 1 by omega)⟩
    · refine am_raload_n rfl rfl rfl ?_
      have ok47 : f6 11701 = 0 ∧ am_at (a6 124) (f6 11713) < am_at (a6 125) (f6 11713) := am_PK.ok hq13.2.2.1 (by omega)
      have q48 := am_Rg11713 hI8.1.1
      refine am_evirtualV (m := am_m122) (As := [.ref 117]) (S1 := []) rfl rfl rfl rfl rfl rfl rfl rfl rfl rfl (am_TE.void (am_ct123  (by omega) hI8 (show am_at (a6 124) ((f6 11713)) < am_at (a6 125) ((f6 11713)) by omega)) (fun f49 a49 hq50 => ?_) (fun _ _ _ h => h))
      obtain ⟨hI51, hk52, hq50⟩ := hq50
      replace hq50 : f49 11701 = ((f6 11701)) ∧ f49 11713 = ((f6 11713)) ∧ am_ph f49 a49 = (am_ph f6 a6 ) + 1 ∧ (((f6 11713)) = 0 → am_at (a49 124) 0 = (am_at (a6 124) 0) + 1) := hq50
      have mm53 : f6 11701 ≤ f49 11701 ∧ am_ph f6 a6 ≤ am_ph f49 a49 ∧ am_at (a6 124) 0 ≤ am_at (a49 124) 0 ∧ am_at (a49 125) 0 = am_at (a6 125) 0 := hk52.1
      have hm54 := am_mo.trans hm11 hk52
      refine am_raload_n rfl rfl rfl ?_
      refine am_riload_n rfl rfl rfl ?_
      refine am_evirtualV (m := am_m132) (As := [.ref 117, am_iv b6]) (S1 := []) rfl rfl rfl rfl rfl rfl rfl rfl rfl rfl (am_TE.void (am_ct133 (y1 := b6) (by omega) hI51 (by omega) (show 0 ≤ b6 by omega) (show b6 ≤ 25 by omega)) (fun f55 a55 hq56 => ?_) (fun _ _ _ h => h))
      obtain ⟨hI57, hk58, hq56⟩ := hq56
      replace hq56 : ((f49 11713)) ≤ f55 11713 ∧ f55 11713 ≤ ((f49 11713)) + 1 := hq56
      have mm59 : f49 11701 ≤ f55 11701 ∧ am_ph f49 a49 ≤ am_ph f55 a55 ∧ am_at (a49 124) 0 ≤ am_at (a55 124) 0 ∧ am_at (a55 125) 0 = am_at (a49 125) 0 := hk58.1
      have hm60 := am_mo.trans hm54 hk58
      refine am_riconst rfl ?_
      have q61 := am_Rg11701 hI57.1.1
      have q62 := am_Rg11713 hI57.1.1
      exact am_eiret rfl rfl ⟨hI57, hm60, (show (-2147483648 ≤ ((-1) : Int) ∧ ((-1) : Int) ≤ 2147483647) by omega), (show -1 ≤ (((-1) : Int)) by omega), (show (f 11713) ≤ f55 11713 by omega), (show f55 11713 ≤ (f 11713) + 1 by omega)⟩
  · refine am_raload_n rfl rfl rfl ?_
    have ok63 : f 11701 = 0 ∧ am_at (a 124) (f 11713) < am_at (a 125) (f 11713) := am_PK.ok hq4.2.2.1 (by omega)
    have q64 := am_Rg11713 hI.1.1
    refine am_evirtualV (m := am_m122) (As := [.ref 117]) (S1 := []) rfl rfl rfl rfl rfl rfl rfl rfl rfl rfl (am_TE.void (am_ct123  (by omega) hI (show am_at (a 124) ((f 11713)) < am_at (a 125) ((f 11713)) by omega)) (fun f65 a65 hq66 => ?_) (fun _ _ _ h => h))
    obtain ⟨hI67, hk68, hq66⟩ := hq66
    replace hq66 : f65 11701 = ((f 11701)) ∧ f65 11713 = ((f 11713)) ∧ am_ph f65 a65 = (am_ph f a ) + 1 ∧ (((f 11713)) = 0 → am_at (a65 124) 0 = (am_at (a 124) 0) + 1) := hq66
    have mm69 : f 11701 ≤ f65 11701 ∧ am_ph f a ≤ am_ph f65 a65 ∧ am_at (a 124) 0 ≤ am_at (a65 124) 0 ∧ am_at (a65 125) 0 = am_at (a 125) 0 := hk68.1
    have hm70 := am_mo.trans (am_mo.refl f a) hk68
    refine am_raload_n rfl rfl rfl ?_
    refine am_evirtualI (m := am_m130) (As := [.ref 117]) (S1 := []) rfl rfl rfl rfl rfl rfl rfl rfl rfl rfl (am_TE.int (am_ct131  (by omega) hI67) (fun b71 f71 a71 hq72 => ?_) (fun _ _ _ h => h))
    obtain ⟨hI73, hk74, hq72⟩ := hq72
    replace hq72 : (-2147483648 ≤ b71 ∧ b71 ≤ 2147483647) ∧ f71 11713 = ((f65 11713)) ∧ (0 ≤ b71 ∧ b71 ≤ 999999) := hq72
    have mm75 : f65 11701 ≤ f71 11701 ∧ am_ph f65 a65 ≤ am_ph f71 a71 ∧ am_at (a65 124) 0 ≤ am_at (a71 124) 0 ∧ am_at (a71 125) 0 = am_at (a65 125) 0 := hk74.1
    have hm76 := am_mo.trans hm70 hk74
    have q77 := am_Rg11701 hI73.1.1
    have q78 := am_Rg11713 hI73.1.1
    exact am_eiret rfl rfl ⟨hI73, hm76, (show (-2147483648 ≤ b71 ∧ b71 ≤ 2147483647) by omega), (show -1 ≤ b71 by omega), (show (f 11713) ≤ f71 11713 by omega), (show f71 11713 ≤ (f 11713) + 1 by omega)⟩
