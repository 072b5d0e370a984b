/-! THE MODELS by their cell, lengths, Strings, arraycopy, longs (by program) -/
def am_isM (c : Nat) : Prop := c = 14 ∨ ∃ i, i < 26 ∧ c = 28 + 3 * i
theorem am_isMx {x : Int} (h0 : 0 ≤ x) (h1 : x < 26) : am_isM (28 + 3 * x.toNat) := Or.inr ⟨x.toNat, by omega, rfl⟩
section AmAux
variable {X : List Value} {d : Nat} {r : aM} {pc : Nat} {L : aL} {S S1 : List Value} {h : aH} {f : aF} {a : aA} {w : Value} {e : Nat} {Q : Option Value → aH → Prop} {E : Nat → aH → Prop} {v : Value} {k c o : Nat} {x y : Int} {idx : Nat}
theorem am_geM (hc : am_isM c) : am_get (am_enc f a w e) c = some (false, 4, [am_iv (f (100 * c)), am_iv (f (100 * c + 1)), am_iv (f (100 * c + 2)), .ref (c + 1), .ref (c + 2), am_iv (f (100 * c + 5))]) := by
  rcases hc with rfl | ⟨i, hi, rfl⟩
  · rfl
  · match i, hi with
    | 0, _ => rfl
    | 1, _ => rfl
    | 2, _ => rfl
    | 3, _ => rfl
    | 4, _ => rfl
    | 5, _ => rfl
    | 6, _ => rfl
    | 7, _ => rfl
    | 8, _ => rfl
    | 9, _ => rfl
    | 10, _ => rfl
    | 11, _ => rfl
    | 12, _ => rfl
    | 13, _ => rfl
    | 14, _ => rfl
    | 15, _ => rfl
    | 16, _ => rfl
    | 17, _ => rfl
    | 18, _ => rfl
    | 19, _ => rfl
    | 20, _ => rfl
    | 21, _ => rfl
    | 22, _ => rfl
    | 23, _ => rfl
    | 24, _ => rfl
    | 25, _ => rfl
    | n + 26, h => exact absurd h (by omega)
theorem am_geM1 (hc : am_isM c) : am_get (am_enc f a w e) (c + 1) = some (true, 0, (a (c + 1)).map am_iv) := by
  rcases hc with rfl | ⟨i, hi, rfl⟩
  · rfl
  · match i, hi with
    | 0, _ => rfl
    | 1, _ => rfl
    | 2, _ => rfl
    | 3, _ => rfl
    | 4, _ => rfl
    | 5, _ => rfl
    | 6, _ => rfl
    | 7, _ => rfl
    | 8, _ => rfl
    | 9, _ => rfl
    | 10, _ => rfl
    | 11, _ => rfl
    | 12, _ => rfl
    | 13, _ => rfl
    | 14, _ => rfl
    | 15, _ => rfl
    | 16, _ => rfl
    | 17, _ => rfl
    | 18, _ => rfl
    | 19, _ => rfl
    | 20, _ => rfl
    | 21, _ => rfl
    | 22, _ => rfl
    | 23, _ => rfl
    | 24, _ => rfl
    | 25, _ => rfl
    | n + 26, h => exact absurd h (by omega)
set_option maxRecDepth 100000 in
theorem am_saM1 (hc : am_isM c) (l : List Int) : (am_enc f a w e).set (c + 1) (some (true, 0, l.map am_iv)) = am_enc f (am_ud a (c + 1) l) w e := by
  rcases hc with rfl | ⟨i, hi, rfl⟩
  · rfl
  · match i, hi with
    | 0, _ => rfl
    | 1, _ => rfl
    | 2, _ => rfl
    | 3, _ => rfl
    | 4, _ => rfl
    | 5, _ => rfl
    | 6, _ => rfl
    | 7, _ => rfl
    | 8, _ => rfl
    | 9, _ => rfl
    | 10, _ => rfl
    | 11, _ => rfl
    | 12, _ => rfl
    | 13, _ => rfl
    | 14, _ => rfl
    | 15, _ => rfl
    | 16, _ => rfl
    | 17, _ => rfl
    | 18, _ => rfl
    | 19, _ => rfl
    | 20, _ => rfl
    | 21, _ => rfl
    | 22, _ => rfl
    | 23, _ => rfl
    | 24, _ => rfl
    | 25, _ => rfl
    | n + 26, h => exact absurd h (by omega)
theorem am_geM2 (hc : am_isM c) : am_get (am_enc f a w e) (c + 2) = some (true, 0, (a (c + 2)).map am_iv) := by
  rcases hc with rfl | ⟨i, hi, rfl⟩
  · rfl
  · match i, hi with
    | 0, _ => rfl
    | 1, _ => rfl
    | 2, _ => rfl
    | 3, _ => rfl
    | 4, _ => rfl
    | 5, _ => rfl
    | 6, _ => rfl
    | 7, _ => rfl
    | 8, _ => rfl
    | 9, _ => rfl
    | 10, _ => rfl
    | 11, _ => rfl
    | 12, _ => rfl
    | 13, _ => rfl
    | 14, _ => rfl
    | 15, _ => rfl
    | 16, _ => rfl
    | 17, _ => rfl
    | 18, _ => rfl
    | 19, _ => rfl
    | 20, _ => rfl
    | 21, _ => rfl
    | 22, _ => rfl
    | 23, _ => rfl
    | 24, _ => rfl
    | 25, _ => rfl
    | n + 26, h => exact absurd h (by omega)
set_option maxRecDepth 100000 in
theorem am_saM2 (hc : am_isM c) (l : List Int) : (am_enc f a w e).set (c + 2) (some (true, 0, l.map am_iv)) = am_enc f (am_ud a (c + 2) l) w e := by
  rcases hc with rfl | ⟨i, hi, rfl⟩
  · rfl
  · match i, hi with
    | 0, _ => rfl
    | 1, _ => rfl
    | 2, _ => rfl
    | 3, _ => rfl
    | 4, _ => rfl
    | 5, _ => rfl
    | 6, _ => rfl
    | 7, _ => rfl
    | 8, _ => rfl
    | 9, _ => rfl
    | 10, _ => rfl
    | 11, _ => rfl
    | 12, _ => rfl
    | 13, _ => rfl
    | 14, _ => rfl
    | 15, _ => rfl
    | 16, _ => rfl
    | 17, _ => rfl
    | 18, _ => rfl
    | 19, _ => rfl
    | 20, _ => rfl
    | 21, _ => rfl
    | 22, _ => rfl
    | 23, _ => rfl
    | 24, _ => rfl
    | 25, _ => rfl
    | n + 26, h => exact absurd h (by omega)
set_option maxRecDepth 100000 in
theorem am_sfM0 (hc : am_isM c) (y : Int) : (am_enc f a w e).set c (some (false, 4, [am_iv y, am_iv (f (100 * c + 1)), am_iv (f (100 * c + 2)), .ref (c + 1), .ref (c + 2), am_iv (f (100 * c + 5))])) = am_enc (am_ud f (100 * c) y) a w e := by
  rcases hc with rfl | ⟨i, hi, rfl⟩
  · rfl
  · match i, hi with
    | 0, _ => rfl
    | 1, _ => rfl
    | 2, _ => rfl
    | 3, _ => rfl
    | 4, _ => rfl
    | 5, _ => rfl
    | 6, _ => rfl
    | 7, _ => rfl
    | 8, _ => rfl
    | 9, _ => rfl
    | 10, _ => rfl
    | 11, _ => rfl
    | 12, _ => rfl
    | 13, _ => rfl
    | 14, _ => rfl
    | 15, _ => rfl
    | 16, _ => rfl
    | 17, _ => rfl
    | 18, _ => rfl
    | 19, _ => rfl
    | 20, _ => rfl
    | 21, _ => rfl
    | 22, _ => rfl
    | 23, _ => rfl
    | 24, _ => rfl
    | 25, _ => rfl
    | n + 26, h => exact absurd h (by omega)
theorem am_pfM0 (hc : am_isM c) (hfd : am_look2 am_fd o idx = some (4, 0)) : am_putf o false idx (am_iv y :: .ref c :: S) (am_enc f a w e) = some (S, am_enc (am_ud f (100 * c) y) a w e) := by
  simp only [am_putf, hfd, am_geM hc]
  exact congrArg (fun q => some (S, q)) (am_sfM0 hc y)
theorem am_gfM0 (hc : am_isM c) (hfd : am_look2 am_fd o idx = some (4, 0)) : am_getf o idx (.ref c :: S) (am_enc f a w e) = some (am_iv (f (100 * c)) :: S) := by
  simp only [am_getf, hfd, am_geM hc]
  rfl
set_option maxRecDepth 100000 in
theorem am_sfM1 (hc : am_isM c) (y : Int) : (am_enc f a w e).set c (some (false, 4, [am_iv (f (100 * c)), am_iv y, am_iv (f (100 * c + 2)), .ref (c + 1), .ref (c + 2), am_iv (f (100 * c + 5))])) = am_enc (am_ud f (100 * c + 1) y) a w e := by
  rcases hc with rfl | ⟨i, hi, rfl⟩
  · rfl
  · match i, hi with
    | 0, _ => rfl
    | 1, _ => rfl
    | 2, _ => rfl
    | 3, _ => rfl
    | 4, _ => rfl
    | 5, _ => rfl
    | 6, _ => rfl
    | 7, _ => rfl
    | 8, _ => rfl
    | 9, _ => rfl
    | 10, _ => rfl
    | 11, _ => rfl
    | 12, _ => rfl
    | 13, _ => rfl
    | 14, _ => rfl
    | 15, _ => rfl
    | 16, _ => rfl
    | 17, _ => rfl
    | 18, _ => rfl
    | 19, _ => rfl
    | 20, _ => rfl
    | 21, _ => rfl
    | 22, _ => rfl
    | 23, _ => rfl
    | 24, _ => rfl
    | 25, _ => rfl
    | n + 26, h => exact absurd h (by omega)
theorem am_pfM1 (hc : am_isM c) (hfd : am_look2 am_fd o idx = some (4, 1)) : am_putf o false idx (am_iv y :: .ref c :: S) (am_enc f a w e) = some (S, am_enc (am_ud f (100 * c + 1) y) a w e) := by
  simp only [am_putf, hfd, am_geM hc]
  exact congrArg (fun q => some (S, q)) (am_sfM1 hc y)
theorem am_gfM1 (hc : am_isM c) (hfd : am_look2 am_fd o idx = some (4, 1)) : am_getf o idx (.ref c :: S) (am_enc f a w e) = some (am_iv (f (100 * c + 1)) :: S) := by
  simp only [am_getf, hfd, am_geM hc]
  rfl
set_option maxRecDepth 100000 in
theorem am_sfM2 (hc : am_isM c) (y : Int) : (am_enc f a w e).set c (some (false, 4, [am_iv (f (100 * c)), am_iv (f (100 * c + 1)), am_iv y, .ref (c + 1), .ref (c + 2), am_iv (f (100 * c + 5))])) = am_enc (am_ud f (100 * c + 2) y) a w e := by
  rcases hc with rfl | ⟨i, hi, rfl⟩
  · rfl
  · match i, hi with
    | 0, _ => rfl
    | 1, _ => rfl
    | 2, _ => rfl
    | 3, _ => rfl
    | 4, _ => rfl
    | 5, _ => rfl
    | 6, _ => rfl
    | 7, _ => rfl
    | 8, _ => rfl
    | 9, _ => rfl
    | 10, _ => rfl
    | 11, _ => rfl
    | 12, _ => rfl
    | 13, _ => rfl
    | 14, _ => rfl
    | 15, _ => rfl
    | 16, _ => rfl
    | 17, _ => rfl
    | 18, _ => rfl
    | 19, _ => rfl
    | 20, _ => rfl
    | 21, _ => rfl
    | 22, _ => rfl
    | 23, _ => rfl
    | 24, _ => rfl
    | 25, _ => rfl
    | n + 26, h => exact absurd h (by omega)
theorem am_pfM2 (hc : am_isM c) (hfd : am_look2 am_fd o idx = some (4, 2)) : am_putf o false idx (am_iv y :: .ref c :: S) (am_enc f a w e) = some (S, am_enc (am_ud f (100 * c + 2) y) a w e) := by
  simp only [am_putf, hfd, am_geM hc]
  exact congrArg (fun q => some (S, q)) (am_sfM2 hc y)
theorem am_gfM2 (hc : am_isM c) (hfd : am_look2 am_fd o idx = some (4, 2)) : am_getf o idx (.ref c :: S) (am_enc f a w e) = some (am_iv (f (100 * c + 2)) :: S) := by
  simp only [am_getf, hfd, am_geM hc]
  rfl
set_option maxRecDepth 100000 in
theorem am_sfM5 (hc : am_isM c) (y : Int) : (am_enc f a w e).set c (some (false, 4, [am_iv (f (100 * c)), am_iv (f (100 * c + 1)), am_iv (f (100 * c + 2)), .ref (c + 1), .ref (c + 2), am_iv y])) = am_enc (am_ud f (100 * c + 5) y) a w e := by
  rcases hc with rfl | ⟨i, hi, rfl⟩
  · rfl
  · match i, hi with
    | 0, _ => rfl
    | 1, _ => rfl
    | 2, _ => rfl
    | 3, _ => rfl
    | 4, _ => rfl
    | 5, _ => rfl
    | 6, _ => rfl
    | 7, _ => rfl
    | 8, _ => rfl
    | 9, _ => rfl
    | 10, _ => rfl
    | 11, _ => rfl
    | 12, _ => rfl
    | 13, _ => rfl
    | 14, _ => rfl
    | 15, _ => rfl
    | 16, _ => rfl
    | 17, _ => rfl
    | 18, _ => rfl
    | 19, _ => rfl
    | 20, _ => rfl
    | 21, _ => rfl
    | 22, _ => rfl
    | 23, _ => rfl
    | 24, _ => rfl
    | 25, _ => rfl
    | n + 26, h => exact absurd h (by omega)
theorem am_pfM5 (hc : am_isM c) (hfd : am_look2 am_fd o idx = some (4, 5)) : am_putf o false idx (am_iv y :: .ref c :: S) (am_enc f a w e) = some (S, am_enc (am_ud f (100 * c + 5) y) a w e) := by
  simp only [am_putf, hfd, am_geM hc]
  exact congrArg (fun q => some (S, q)) (am_sfM5 hc y)
theorem am_gfM5 (hc : am_isM c) (hfd : am_look2 am_fd o idx = some (4, 5)) : am_getf o idx (.ref c :: S) (am_enc f a w e) = some (am_iv (f (100 * c + 5)) :: S) := by
  simp only [am_getf, hfd, am_geM hc]
  rfl
theorem am_gfM3 (hc : am_isM c) (hfd : am_look2 am_fd o idx = some (4, 3)) : am_getf o idx (.ref c :: S) (am_enc f a w e) = some (.ref (c + 1) :: S) := by
  simp only [am_getf, hfd, am_geM hc]
  rfl
theorem am_gfM4 (hc : am_isM c) (hfd : am_look2 am_fd o idx = some (4, 4)) : am_getf o idx (.ref c :: S) (am_enc f a w e) = some (.ref (c + 2) :: S) := by
  simp only [am_getf, hfd, am_geM hc]
  rfl
theorem am_rcM {As : List Value} {m : aM} (hc : am_isM c) (hm : m.2.2.2.2.1 = 4) : am_rc1 m (am_enc f a w e) (.ref c :: As) = true := by
  simp only [am_rc1, am_geM hc, hm]
  rfl
theorem am_mods (h0 : 0 ≤ x) (h1 : x < 26) : am_ald X 3 (am_iv x :: .ref 13 :: S) (am_enc f a w e) = some (.ref (28 + 3 * x.toNat) :: S) := by
  obtain ⟨e1, e2⟩ := am_ixN h0 (by omega)
  have hi : x.toNat < 26 := by omega
  generalize hn : x.toNat = n at hi e2
  simp only [am_ald, am_ge13, am_ix, e1, e2]
  match n, hi with
  | 0, _ => rfl
  | 1, _ => rfl
  | 2, _ => rfl
  | 3, _ => rfl
  | 4, _ => rfl
  | 5, _ => rfl
  | 6, _ => rfl
  | 7, _ => rfl
  | 8, _ => rfl
  | 9, _ => rfl
  | 10, _ => rfl
  | 11, _ => rfl
  | 12, _ => rfl
  | 13, _ => rfl
  | 14, _ => rfl
  | 15, _ => rfl
  | 16, _ => rfl
  | 17, _ => rfl
  | 18, _ => rfl
  | 19, _ => rfl
  | 20, _ => rfl
  | 21, _ => rfl
  | 22, _ => rfl
  | 23, _ => rfl
  | 24, _ => rfl
  | 25, _ => rfl
  | n + 26, h => exact absurd h (by omega)
theorem am_rlenI {tk : Nat} {l : List Int} (hq : am_look r.2.2.2.2.2.2.2 pc = some (.arraylength, 1)) (hg : am_get h k = some (true, tk, l.map am_iv)) (ht : am_T X d r (pc + 1) L (am_iv (l.length : Int) :: S) h Q E) : am_T X d r pc L (.ref k :: S) h Q E :=
  am_rlen hq hg (by rw [List.length_map]; exact ht)
theorem am_slenE {s : Nat} (hs : s < am_sn) (hl : am_look2 am_sli o idx = some k) (hS : Nat.ble (am_sum S) 8 = true) : am_slen o idx (.ref (1000000 + s) :: S) = some (am_iv (am_sl s : Int) :: S) := by
  simp only [am_slen, hl]
  rw [show (Nat.ble 1000000 (1000000 + s) && Nat.blt (1000000 + s) (1000000 + am_sn) && Nat.ble (am_sum S) 8) = true by
    rw [hS, show Nat.ble 1000000 (1000000 + s) = true from Nat.ble_eq_true_of_le (by omega), show Nat.blt (1000000 + s) (1000000 + am_sn) = true from Nat.ble_eq_true_of_le (by omega)]; rfl]
  rw [show am_iv (am_sl s : Int) = .int (Int32.ofNat (am_sl s)) by rw [am_iv, Int32.ofInt_eq_ofNat]]
  simp only [Nat.add_sub_cancel_left]
def am_sc (s : Nat) (x : Int) : Int := ((am_sB.getD s []).getD x.toNat 0).toInt
theorem am_schrE {s : Nat} (hs : s < am_sn) (h0 : 0 ≤ x) (h1 : x < am_sl s) (h2 : x < 2147483648) (hl : am_look2 am_sci o idx = some k) (hS : Nat.ble (am_sum S) 8 = true) : am_schr o idx (am_iv x :: .ref (1000000 + s) :: S) = some (am_iv (am_sc s x) :: S) := by
  obtain ⟨e1, e2⟩ := am_ixN h0 h2
  simp only [am_schr, hl, e1, e2, Nat.add_sub_cancel_left]
  rw [show (Nat.ble 1000000 (1000000 + s) && Nat.blt (1000000 + s) (1000000 + am_sn) && Nat.ble (am_sum S) 8 && !false && Nat.blt x.toNat (am_sl s)) = true by
    rw [hS, show Nat.ble 1000000 (1000000 + s) = true from Nat.ble_eq_true_of_le (by omega), show Nat.blt (1000000 + s) (1000000 + am_sn) = true from Nat.ble_eq_true_of_le (by omega), show Nat.blt x.toNat (am_sl s) = true from Nat.ble_eq_true_of_le (by omega)]; rfl]
  simp only [am_sc, am_iv, Int32.ofInt_toInt]
def am_cpyI (l0 l1 : List Int) (sp dp n : Int) : List Int := l1.take dp.toNat ++ ((l0.drop sp.toNat).take n.toNat ++ l1.drop (dp.toNat + n.toNat))
theorem am_acpE {s0 dd : Nat} {l0 l1 : List Int} {sp dp n : Int} {h1 : aH} (hl : am_look2 am_acT o idx = some k) (hs0 : am_get h s0 = some (true, 0, l0.map am_iv)) (hd0 : am_get h dd = some (true, 0, l1.map am_iv)) (hne : Nat.beq s0 dd = false) (hS : Nat.ble (am_sum S) 8 = true) (g0 : 0 ≤ n ∧ 0 ≤ sp ∧ 0 ≤ dp) (g1 : sp + n ≤ l0.length) (g2 : dp + n ≤ l1.length) (g3 : n < 2147483648 ∧ sp < 2147483648 ∧ dp < 2147483648)
    (hh : h.set dd (some (true, 0, (am_cpyI l0 l1 sp dp n).map am_iv)) = h1) : am_acp o idx (am_iv n :: am_iv dp :: .ref dd :: am_iv sp :: .ref s0 :: S) h = some (S, h1) := by
  obtain ⟨a1, a2⟩ := am_ixN g0.1 g3.1
  obtain ⟨b1, b2⟩ := am_ixN g0.2.1 g3.2.1
  obtain ⟨c1, c2⟩ := am_ixN g0.2.2 g3.2.2
  simp only [am_acp, hl, hs0, hd0, a1, a2, b1, b2, c1, c2, hne, hS, List.length_map]
  rw [show (Nat.beq 0 0 && Nat.beq 0 0 && !false && true && !false && !false && !false && Nat.ble (sp.toNat + n.toNat) l0.length && Nat.ble (dp.toNat + n.toNat) l1.length && (((l0.map am_iv).drop sp.toNat).take n.toNat).all am_isI) = true by
    rw [show Nat.ble (sp.toNat + n.toNat) l0.length = true from Nat.ble_eq_true_of_le (by omega), show Nat.ble (dp.toNat + n.toNat) l1.length = true from Nat.ble_eq_true_of_le (by omega), ← List.map_drop, ← List.map_take, List.all_map]
    simp [am_isI]]
  simp only [am_cpy, ← List.map_drop, ← List.map_take, ← List.map_append]
  exact congrArg (fun q => some (S, q)) hh
theorem am_ri2l (hq : am_look r.2.2.2.2.2.2.2 pc = some (.i2l, 1)) (ht : am_T X d r (pc + 1) L (.long (Int32.ofInt x).toInt64 :: S) h Q E) : am_T X d r pc L (am_iv x :: S) h Q E := am_rpure hq (fun _ => rfl) ht
theorem am_rl2i {z : Int64} (hq : am_look r.2.2.2.2.2.2.2 pc = some (.l2i, 1)) (ht : am_T X d r (pc + 1) L (am_iv z.toInt32.toInt :: S) h Q E) : am_T X d r pc L (.long z :: S) h Q E := am_rpure hq (fun _ => by rw [show am_iv z.toInt32.toInt = .int z.toInt32 by rw [am_iv, Int32.ofInt_toInt]]; rfl) ht
theorem am_rland {z z1 : Int64} (hq : am_look r.2.2.2.2.2.2.2 pc = some (.land, 1)) (ht : am_T X d r (pc + 1) L (.long (z &&& z1) :: S) h Q E) : am_T X d r pc L (.long z1 :: .long z :: S) h Q E := am_rpure hq (fun _ => rfl) ht
theorem am_rlor {z z1 : Int64} (hq : am_look r.2.2.2.2.2.2.2 pc = some (.lor, 1)) (ht : am_T X d r (pc + 1) L (.long (z ||| z1) :: S) h Q E) : am_T X d r pc L (.long z1 :: .long z :: S) h Q E := am_rpure hq (fun _ => rfl) ht
theorem am_rlshr {z : Int64} (hq : am_look r.2.2.2.2.2.2.2 pc = some (.lshr, 1)) (ht : am_T X d r (pc + 1) L (.long (z >>> ((Int32.ofInt x).toInt64 &&& 63)) :: S) h Q E) : am_T X d r pc L (am_iv x :: .long z :: S) h Q E := am_rpure hq (fun _ => rfl) ht
theorem am_rlshl {z : Int64} (hq : am_look r.2.2.2.2.2.2.2 pc = some (.lshl, 1)) (ht : am_T X d r (pc + 1) L (.long (z <<< ((Int32.ofInt x).toInt64 &&& 63)) :: S) h Q E) : am_T X d r pc L (am_iv x :: .long z :: S) h Q E := am_rpure hq (fun _ => rfl) ht
end AmAux
