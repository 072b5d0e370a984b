/-! THE LAW'S LOOP -/
def am_QL : Option Value → aH → Prop := fun v h => v = some (am_iv 1) ∧ h.length ≤ 2164
theorem am_and_7 (x : Int) : 0 ≤ am_and x 7 ∧ am_and x 7 ≤ 7 := by
  have h1 : am_and x 7 = ((Int32.ofInt x).toBitVec &&& 7#32).toInt := rfl
  have h2 : ((Int32.ofInt x).toBitVec &&& 7#32).toNat ≤ 7 := by rw [BitVec.toNat_and]; exact Nat.and_le_right
  rw [h1, BitVec.toInt_eq_toNat_of_lt (by omega)]
  omega
set_option maxRecDepth 100000 in
set_option maxHeartbeats 4000000 in
theorem am_loop {X : List Value} {sv : Int → Int} {d : Nat} (hd : 29 ≤ d) (hL : X.length ≤ 2048) (hX : ∀ x : Int, 0 ≤ x → x < X.length → X[x.toNat]? = some (am_iv (sv x)) ∧ (-2147483648 ≤ sv x ∧ sv x ≤ 2147483647)) (n : Nat) :
    ∀ {f : aF} {a : aA} {w : Int64} {e : Nat} {i : Int}, ((X.length : Int) - i).toNat < n → am_LI f a → 0 ≤ i → i ≤ 2052 → 4 * (e : Int) ≤ i →
      am_T X (d + 1) am_m183 23 [(0, .ref 2000000), (1, .ref 0), (2, .ref 117), (3, .ref 163), (4, am_iv i)] [] (am_enc f a (.long w) e) am_QL (fun _ _ => False) := by
  induction n with
  | zero => intros; omega
  | succ n ih =>
    intro f a w e i hn hI h0 h1 he
    refine am_riload rfl rfl rfl ?_
    refine am_raload_n rfl rfl rfl ?_
    refine am_rxlen rfl ?_
    refine am_riconst rfl ?_
    refine am_risub rfl ?_
    refine am_ric_gt rfl rfl (by unfold am_rg; omega) (by unfold am_rg; omega) (fun hc => ?_) (fun hc => ?_)
    · refine am_riconst rfl ?_
      exact am_riret rfl rfl ⟨rfl, by rw [am_enc_len]; omega⟩
    · have hK : ∀ {f : aF} {a : aA} {w : Int64} {e : Nat}, am_LI f a → 4 * (e : Int) ≤ i + 4 → am_T X (d + 1) am_m183 328 [(0, .ref 2000000), (1, .ref 0), (2, .ref 117), (3, .ref 163), (4, am_iv i)] [] (am_enc f a (.long w) e) am_QL (fun _ _ => False) := by
        intro f a w e hI he
        refine am_riinc (L1 := [(0, .ref 2000000), (1, .ref 0), (2, .ref 117), (3, .ref 163), (4, am_iv (i + 4))]) rfl rfl rfl rfl rfl ?_
        refine am_rgoto rfl rfl ?_
        exact ih (by omega) hI (by omega) (by omega) (by omega)
      obtain ⟨hC, hP, hm⟩ := hI
      have ra := am_and_7 (sv i)
      refine am_raload_n rfl rfl rfl ?_
      refine am_riload rfl rfl rfl ?_
      refine am_rxald (y := sv i) rfl (by omega) (by omega) (hX _ (by omega) (by omega)).1 ?_
      refine am_rbipush rfl (by decide) ?_
      refine am_riand rfl ?_
      refine am_rsw rfl (by unfold am_rg; omega) rfl (fun hc => absurd hc (by omega)) (fun h8 h9 => ?_)
      rcases (show am_and (sv i) 7 = 0 ∨ am_and (sv i) 7 = 1 ∨ am_and (sv i) 7 = 2 ∨ am_and (sv i) 7 = 3 ∨ am_and (sv i) 7 = 4 ∨ am_and (sv i) 7 = 5 ∨ am_and (sv i) 7 = 6 ∨ am_and (sv i) 7 = 7 by omega) with hs | hs | hs | hs | hs | hs | hs | hs
      · refine ⟨_, _, by rw [hs]; rfl, rfl, ?_⟩
        refine am_raload_n rfl rfl rfl ?_
        refine am_raload_n rfl rfl rfl ?_
        refine am_riload rfl rfl rfl ?_
        refine am_riconst rfl ?_
        refine am_riadd rfl ?_
        refine am_rxald (y := sv (i + 1)) rfl (by omega) (by omega) (hX _ (by omega) (by omega)).1 ?_
        refine am_ri2l rfl ?_
        refine am_rbipush rfl (by decide) ?_
        refine am_rlshl rfl ?_
        refine am_raload_n rfl rfl rfl ?_
        refine am_riload rfl rfl rfl ?_
        refine am_riconst rfl ?_
        refine am_riadd rfl ?_
        refine am_rxald (y := sv (i + 2)) rfl (by omega) (by omega) (hX _ (by omega) (by omega)).1 ?_
        refine am_ri2l rfl ?_
        refine am_rldc2 rfl rfl ?_
        refine am_rland rfl ?_
        refine am_rlor rfl ?_
        refine am_raload_n rfl rfl rfl ?_
        refine am_riload rfl rfl rfl ?_
        refine am_riconst rfl ?_
        refine am_riadd rfl ?_
        refine am_rxald (y := sv (i + 3)) rfl (by omega) (by omega) (hX _ (by omega) (by omega)).1 ?_
        refine am_raload_n rfl rfl rfl ?_
        refine am_lstat (m := am_m179) (As := [.ref 0, .long ((((Int32.ofInt (sv (i + 1))).toInt64) <<< ((Int32.ofInt 32).toInt64 &&& 63)) ||| (((Int32.ofInt (sv (i + 2))).toInt64) &&& (4294967295))), am_iv (sv (i + 3)), .ref 163]) (S1 := []) rfl rfl rfl rfl rfl rfl rfl (am_h180 (by omega) (by omega) hC (hX _ (by omega) (by omega)).2) (fun b1 f1 a1 w1 e1 he1 hq => ?_)
        obtain ⟨hC1, hc1, hq⟩ := hq
        have hP1 := am_PP_cf hP hc1
        have g7 : f1 11707 = f 11707 := hc1.1 11707 (by decide)
        have ry := (hX (i + 3) (by omega) (by omega)).2
        refine am_ristore (L1 := [(0, .ref 2000000), (1, .ref 0), (2, .ref 117), (3, .ref 163), (4, am_iv i), (5, am_iv b1)]) rfl rfl rfl rfl rfl ?_
        refine am_raload_n rfl rfl rfl ?_
        refine am_raload_n rfl rfl rfl ?_
        refine am_riload rfl rfl rfl ?_
        refine am_riconst rfl ?_
        refine am_riadd rfl ?_
        refine am_rxald (y := sv (i + 1)) rfl (by omega) (by omega) (hX _ (by omega) (by omega)).1 ?_
        refine am_ri2l rfl ?_
        refine am_rbipush rfl (by decide) ?_
        refine am_rlshl rfl ?_
        refine am_raload_n rfl rfl rfl ?_
        refine am_riload rfl rfl rfl ?_
        refine am_riconst rfl ?_
        refine am_riadd rfl ?_
        refine am_rxald (y := sv (i + 2)) rfl (by omega) (by omega) (hX _ (by omega) (by omega)).1 ?_
        refine am_ri2l rfl ?_
        refine am_rldc2 rfl rfl ?_
        refine am_rland rfl ?_
        refine am_rlor rfl ?_
        refine am_raload_n rfl rfl rfl ?_
        refine am_riload rfl rfl rfl ?_
        refine am_riconst rfl ?_
        refine am_riadd rfl ?_
        refine am_rxald (y := sv (i + 3)) rfl (by omega) (by omega) (hX _ (by omega) (by omega)).1 ?_
        refine am_lvirt (m := am_m114) (As := [.ref 117, .long ((((Int32.ofInt (sv (i + 1))).toInt64) <<< ((Int32.ofInt 32).toInt64 &&& 63)) ||| (((Int32.ofInt (sv (i + 2))).toInt64) &&& (4294967295))), am_iv (sv (i + 3))]) (S1 := []) rfl rfl rfl rfl rfl rfl rfl rfl rfl (am_ct115 (by omega) hP1 (hX _ (by omega) (by omega)).2) (fun b2 f2 a2 hq2 => ?_)
        obtain ⟨hq2, hP2, hr2⟩ := hq2
        have hC2 := am_CP_rf hC1 hr2
        have g1 : f2 1 = f1 1 := hr2.1 1 (by decide)
        have m7 := hP1.2.1
        refine am_ristore (L1 := [(0, .ref 2000000), (1, .ref 0), (2, .ref 117), (3, .ref 163), (4, am_iv i), (5, am_iv b1), (6, am_iv b2)]) rfl rfl rfl rfl rfl ?_
        refine am_rgoto rfl rfl ?_
        exact am_T.drop (L1 := [(0, .ref 2000000), (1, .ref 0), (2, .ref 117), (3, .ref 163), (4, am_iv i)]) (hK ⟨hC2, hP2, by omega⟩ (by omega)) (by simp)
      · refine ⟨_, _, by rw [hs]; rfl, rfl, ?_⟩
        refine am_raload_n rfl rfl rfl ?_
        refine am_lvirt (m := am_m99) (As := [.ref 0]) (S1 := []) rfl rfl rfl rfl rfl rfl rfl rfl rfl (am_ct99 (by omega) hC) (fun b1 f1 a1 hq => ?_)
        obtain ⟨gb, hC1, g0, hc1⟩ := hq
        have hP1 := am_PP_cf hP hc1
        have g7 : f1 11707 = f 11707 := hc1.1 11707 (by decide)
        refine am_raload_n rfl rfl rfl ?_
        refine am_lvirt (m := am_m115) (As := [.ref 117]) (S1 := [am_iv b1]) rfl rfl rfl rfl rfl rfl rfl rfl rfl (am_ct116 (by omega) hP1 ) (fun b2 f2 a2 hq2 => ?_)
        obtain ⟨gb2, g8, hP2, hr2⟩ := hq2
        have g1 : f2 1 = f1 1 := hr2.1 1 (by decide)
        have m1 := hC.2.1
        refine am_ric_eq rfl rfl (by unfold am_rg; omega) (by unfold am_rg; omega) (fun hc => ?_) (fun hc => absurd hc (by omega))
        exact hK ⟨am_CP_rf hC1 hr2, hP2, by omega⟩ (by omega)
      · refine ⟨_, _, by rw [hs]; rfl, rfl, ?_⟩
        refine am_raload_n rfl rfl rfl ?_
        refine am_raload_n rfl rfl rfl ?_
        refine am_riload rfl rfl rfl ?_
        refine am_riconst rfl ?_
        refine am_riadd rfl ?_
        refine am_rxald (y := sv (i + 1)) rfl (by omega) (by omega) (hX _ (by omega) (by omega)).1 ?_
        refine am_raload_n rfl rfl rfl ?_
        refine am_lstat (m := am_m180) (As := [.ref 0, am_iv (sv (i + 1)), .ref 163]) (S1 := []) rfl rfl rfl rfl rfl rfl rfl (am_h181 (by omega) (by omega) hC (hX _ (by omega) (by omega)).2) (fun b1 f1 a1 w1 e1 he1 hq => ?_)
        obtain ⟨hC1, g0, hc1⟩ := hq
        have hP1 := am_PP_cf hP hc1
        have g7 : f1 11707 = f 11707 := hc1.1 11707 (by decide)
        refine am_ristore (L1 := [(0, .ref 2000000), (1, .ref 0), (2, .ref 117), (3, .ref 163), (4, am_iv i), (5, am_iv b1)]) rfl rfl rfl rfl rfl ?_
        refine am_raload_n rfl rfl rfl ?_
        refine am_raload_n rfl rfl rfl ?_
        refine am_riload rfl rfl rfl ?_
        refine am_riconst rfl ?_
        refine am_riadd rfl ?_
        refine am_rxald (y := sv (i + 1)) rfl (by omega) (by omega) (hX _ (by omega) (by omega)).1 ?_
        refine am_lvirt (m := am_m173) (As := [.ref 117, am_iv (sv (i + 1))]) (S1 := []) rfl rfl rfl rfl rfl rfl rfl rfl rfl (am_ct174 (by omega) hP1 (hX _ (by omega) (by omega)).2) (fun b2 f2 a2 hq2 => ?_)
        obtain ⟨hP2, g8, hr2⟩ := hq2
        have g1 : f2 1 = f1 1 := hr2.1 1 (by decide)
        refine am_ristore (L1 := [(0, .ref 2000000), (1, .ref 0), (2, .ref 117), (3, .ref 163), (4, am_iv i), (5, am_iv b1), (6, am_iv b2)]) rfl rfl rfl rfl rfl ?_
        refine am_rgoto rfl rfl ?_
        exact am_T.drop (L1 := [(0, .ref 2000000), (1, .ref 0), (2, .ref 117), (3, .ref 163), (4, am_iv i)]) (hK ⟨am_CP_rf hC1 hr2, hP2, by omega⟩ (by omega)) (by simp)
      · refine ⟨_, _, by rw [hs]; rfl, rfl, ?_⟩
        refine am_raload_n rfl rfl rfl ?_
        refine am_lvirt (m := am_m101) (As := [.ref 0]) (S1 := []) rfl rfl rfl rfl rfl rfl rfl rfl rfl (am_ct101 (by omega)) (fun b1 f1 a1 hq => ?_)
        obtain ⟨rfl, rfl⟩ := hq
        refine am_rpop rfl rfl ?_
        refine am_raload_n rfl rfl rfl ?_
        refine am_lvirt (m := am_m174) (As := [.ref 117]) (S1 := []) rfl rfl rfl rfl rfl rfl rfl rfl rfl (am_ct175 (by omega) hP ) (fun b2 f2 a2 hq2 => ?_)
        obtain ⟨hP2, g8, hr2⟩ := hq2
        have g1 : f2 1 = f 1 := hr2.1 1 (by decide)
        refine am_rpop rfl rfl ?_
        refine am_rgoto rfl rfl ?_
        exact hK ⟨am_CP_rf hC hr2, hP2, by omega⟩ (by omega)
      · refine ⟨_, _, by rw [hs]; rfl, rfl, ?_⟩
        refine am_raload_n rfl rfl rfl ?_
        refine am_raload_n rfl rfl rfl ?_
        refine am_riload rfl rfl rfl ?_
        refine am_riconst rfl ?_
        refine am_riadd rfl ?_
        refine am_rxald (y := sv (i + 1)) rfl (by omega) (by omega) (hX _ (by omega) (by omega)).1 ?_
        refine am_raload_n rfl rfl rfl ?_
        refine am_riload rfl rfl rfl ?_
        refine am_riconst rfl ?_
        refine am_riadd rfl ?_
        refine am_rxald (y := sv (i + 2)) rfl (by omega) (by omega) (hX _ (by omega) (by omega)).1 ?_
        refine am_raload_n rfl rfl rfl ?_
        refine am_lstat (m := am_m181) (As := [.ref 0, am_iv (sv (i + 1)), am_iv (sv (i + 2)), .ref 163]) (S1 := []) rfl rfl rfl rfl rfl rfl rfl (am_h182 (by omega) (by omega) hC (hX _ (by omega) (by omega)).2 (hX _ (by omega) (by omega)).2) (fun b1 f1 a1 w1 e1 he1 hq => ?_)
        obtain ⟨rfl, rfl⟩ := hq
        refine am_ristore (L1 := [(0, .ref 2000000), (1, .ref 0), (2, .ref 117), (3, .ref 163), (4, am_iv i), (5, am_iv b1)]) rfl rfl rfl rfl rfl ?_
        refine am_raload_n rfl rfl rfl ?_
        refine am_raload_n rfl rfl rfl ?_
        refine am_riload rfl rfl rfl ?_
        refine am_riconst rfl ?_
        refine am_riadd rfl ?_
        refine am_rxald (y := sv (i + 1)) rfl (by omega) (by omega) (hX _ (by omega) (by omega)).1 ?_
        refine am_raload_n rfl rfl rfl ?_
        refine am_riload rfl rfl rfl ?_
        refine am_riconst rfl ?_
        refine am_riadd rfl ?_
        refine am_rxald (y := sv (i + 2)) rfl (by omega) (by omega) (hX _ (by omega) (by omega)).1 ?_
        refine am_lvirt (m := am_m175) (As := [.ref 117, am_iv (sv (i + 1)), am_iv (sv (i + 2))]) (S1 := []) rfl rfl rfl rfl rfl rfl rfl rfl rfl (am_ct176 (by omega) hP (hX _ (by omega) (by omega)).2 (hX _ (by omega) (by omega)).2) (fun b2 f2 a2 hq2 => ?_)
        obtain ⟨hP2, g8, hr2⟩ := hq2
        have g1 : f2 1 = f 1 := hr2.1 1 (by decide)
        refine am_ristore (L1 := [(0, .ref 2000000), (1, .ref 0), (2, .ref 117), (3, .ref 163), (4, am_iv i), (5, am_iv b1), (6, am_iv b2)]) rfl rfl rfl rfl rfl ?_
        refine am_rgoto rfl rfl ?_
        exact am_T.drop (L1 := [(0, .ref 2000000), (1, .ref 0), (2, .ref 117), (3, .ref 163), (4, am_iv i)]) (hK ⟨am_CP_rf hC hr2, hP2, by omega⟩ (by omega)) (by simp)
      · refine ⟨_, _, by rw [hs]; rfl, rfl, ?_⟩
        refine am_raload_n rfl rfl rfl ?_
        refine am_raload_n rfl rfl rfl ?_
        refine am_riload rfl rfl rfl ?_
        refine am_riconst rfl ?_
        refine am_riadd rfl ?_
        refine am_rxald (y := sv (i + 1)) rfl (by omega) (by omega) (hX _ (by omega) (by omega)).1 ?_
        refine am_raload_n rfl rfl rfl ?_
        refine am_riload rfl rfl rfl ?_
        refine am_riconst rfl ?_
        refine am_riadd rfl ?_
        refine am_rxald (y := sv (i + 2)) rfl (by omega) (by omega) (hX _ (by omega) (by omega)).1 ?_
        refine am_raload_n rfl rfl rfl ?_
        refine am_lstat (m := am_m182) (As := [.ref 0, am_iv (sv (i + 1)), am_iv (sv (i + 2)), .ref 163]) (S1 := []) rfl rfl rfl rfl rfl rfl rfl (am_h183 (by omega) (by omega) hC (hX _ (by omega) (by omega)).2 (hX _ (by omega) (by omega)).2) (fun b1 f1 a1 w1 e1 he1 hq => ?_)
        obtain ⟨rfl, rfl⟩ := hq
        refine am_ristore (L1 := [(0, .ref 2000000), (1, .ref 0), (2, .ref 117), (3, .ref 163), (4, am_iv i), (5, am_iv b1)]) rfl rfl rfl rfl rfl ?_
        refine am_raload_n rfl rfl rfl ?_
        refine am_raload_n rfl rfl rfl ?_
        refine am_riload rfl rfl rfl ?_
        refine am_riconst rfl ?_
        refine am_riadd rfl ?_
        refine am_rxald (y := sv (i + 1)) rfl (by omega) (by omega) (hX _ (by omega) (by omega)).1 ?_
        refine am_raload_n rfl rfl rfl ?_
        refine am_riload rfl rfl rfl ?_
        refine am_riconst rfl ?_
        refine am_riadd rfl ?_
        refine am_rxald (y := sv (i + 2)) rfl (by omega) (by omega) (hX _ (by omega) (by omega)).1 ?_
        refine am_lvirt (m := am_m176) (As := [.ref 117, am_iv (sv (i + 1)), am_iv (sv (i + 2))]) (S1 := []) rfl rfl rfl rfl rfl rfl rfl rfl rfl (am_ct177 (by omega) hP (hX _ (by omega) (by omega)).2 (hX _ (by omega) (by omega)).2) (fun b2 f2 a2 hq2 => ?_)
        obtain ⟨hP2, g8, hr2⟩ := hq2
        have g1 : f2 1 = f 1 := hr2.1 1 (by decide)
        refine am_ristore (L1 := [(0, .ref 2000000), (1, .ref 0), (2, .ref 117), (3, .ref 163), (4, am_iv i), (5, am_iv b1), (6, am_iv b2)]) rfl rfl rfl rfl rfl ?_
        refine am_rgoto rfl rfl ?_
        exact am_T.drop (L1 := [(0, .ref 2000000), (1, .ref 0), (2, .ref 117), (3, .ref 163), (4, am_iv i)]) (hK ⟨am_CP_rf hC hr2, hP2, by omega⟩ (by omega)) (by simp)
      · refine ⟨_, _, by rw [hs]; rfl, rfl, ?_⟩
        refine am_raload_n rfl rfl rfl ?_
        refine am_lvirt (m := am_m104) (As := [.ref 0]) (S1 := []) rfl rfl rfl rfl rfl rfl rfl rfl rfl (am_ct104 (by omega)) (fun b1 f1 a1 hq => ?_)
        obtain ⟨rfl, rfl⟩ := hq
        refine am_rpop rfl rfl ?_
        refine am_raload_n rfl rfl rfl ?_
        refine am_lvirt (m := am_m177) (As := [.ref 117]) (S1 := []) rfl rfl rfl rfl rfl rfl rfl rfl rfl (am_ct178 (by omega) hP ) (fun b2 f2 a2 hq2 => ?_)
        obtain ⟨hP2, g8, hr2⟩ := hq2
        have g1 : f2 1 = f 1 := hr2.1 1 (by decide)
        refine am_rpop rfl rfl ?_
        refine am_rgoto rfl rfl ?_
        exact hK ⟨am_CP_rf hC hr2, hP2, by omega⟩ (by omega)
      · refine ⟨_, _, by rw [hs]; rfl, rfl, ?_⟩
        refine am_raload_n rfl rfl rfl ?_
        refine am_raload_n rfl rfl rfl ?_
        refine am_riload rfl rfl rfl ?_
        refine am_riconst rfl ?_
        refine am_riadd rfl ?_
        refine am_rxald (y := sv (i + 1)) rfl (by omega) (by omega) (hX _ (by omega) (by omega)).1 ?_
        refine am_lvirt (m := am_m105) (As := [.ref 0, am_iv (sv (i + 1))]) (S1 := []) rfl rfl rfl rfl rfl rfl rfl rfl rfl (am_ct105 (by omega) (hX _ (by omega) (by omega)).2) (fun b1 f1 a1 hq => ?_)
        obtain ⟨rfl, rfl⟩ := hq
        refine am_rpop rfl rfl ?_
        refine am_raload_n rfl rfl rfl ?_
        refine am_raload_n rfl rfl rfl ?_
        refine am_riload rfl rfl rfl ?_
        refine am_riconst rfl ?_
        refine am_riadd rfl ?_
        refine am_rxald (y := sv (i + 1)) rfl (by omega) (by omega) (hX _ (by omega) (by omega)).1 ?_
        refine am_lvirt (m := am_m178) (As := [.ref 117, am_iv (sv (i + 1))]) (S1 := []) rfl rfl rfl rfl rfl rfl rfl rfl rfl (am_ct179 (by omega) hP (hX _ (by omega) (by omega)).2) (fun b2 f2 a2 hq2 => ?_)
        obtain ⟨hP2, g8, hr2⟩ := hq2
        have g1 : f2 1 = f 1 := hr2.1 1 (by decide)
        refine am_rpop rfl rfl ?_
        refine am_rgoto rfl rfl ?_
        exact hK ⟨am_CP_rf hC hr2, hP2, by omega⟩ (by omega)
