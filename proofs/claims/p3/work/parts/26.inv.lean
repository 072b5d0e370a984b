/-! THE INVARIANT OF THE CLASS (by program: wip/p2/inv.py) -/
def am_fl (k : Nat) : Int := bif Nat.beq k 201 then 0 else bif Nat.beq k 202 then 0 else bif Nat.beq k 203 then (-1) else bif Nat.beq k 406 then 0 else bif Nat.beq k 408 then 0 else bif Nat.beq k 1003 then 0 else bif Nat.beq k 1208 then 0 else bif Nat.beq k 1709 then 0 else bif Nat.beq k 1710 then 0 else bif Nat.beq k 2703 then 0 else bif Nat.beq k 10606 then 0 else bif Nat.beq k 10607 then 0 else bif Nat.beq k 11406 then 0 else bif (Nat.beq (k / 100) 14 || (Nat.ble 28 (k / 100) && Nat.blt (k / 100) 106)) && Nat.beq (k % 100) 2 then 0 else -2147483648
def am_fh (k : Nat) : Int := bif Nat.beq k 201 then 720 else bif Nat.beq k 202 then 720 else bif Nat.beq k 203 then 720 else bif Nat.beq k 406 then 16 else bif Nat.beq k 408 then 4000 else bif Nat.beq k 1003 then 2360 else bif Nat.beq k 1208 then 1 else bif Nat.beq k 1709 then 45 else bif Nat.beq k 1710 then 2360 else bif Nat.beq k 2703 then 1 else bif Nat.beq k 10606 then 200 else bif Nat.beq k 10607 then 2000 else bif Nat.beq k 11406 then 16 else bif (Nat.beq (k / 100) 14 || (Nat.ble 28 (k / 100) && Nat.blt (k / 100) 106)) && Nat.beq (k % 100) 2 then 30 else 2147483647
def am_al (k : Nat) : Nat := bif Nat.beq k 1 then 360 else bif Nat.beq k 3 then 720 else bif Nat.beq k 5 then 26 else bif Nat.beq k 6 then 26 else bif Nat.beq k 7 then 16 else bif Nat.beq k 8 then 16 else bif Nat.beq k 9 then 16 else bif Nat.beq k 11 then 2360 else bif Nat.beq k 18 then 45 else bif Nat.beq k 19 then 45 else bif Nat.beq k 20 then 45 else bif Nat.beq k 21 then 45 else bif Nat.beq k 22 then 45 else bif Nat.beq k 23 then 45 else bif Nat.beq k 24 then 45 else bif Nat.beq k 25 then 45 else bif Nat.beq k 26 then 2360 else bif Nat.beq k 107 then 200 else bif Nat.beq k 108 then 200 else bif Nat.beq k 109 then 200 else bif Nat.beq k 110 then 200 else bif Nat.beq k 111 then 200 else bif Nat.beq k 112 then 2000 else bif Nat.beq k 115 then 16 else bif Nat.beq k 116 then 16 else bif Nat.beq k 15 || Nat.beq k 16 || (Nat.ble 28 k && Nat.blt k 106 && !Nat.beq (k % 3) 1) then 31 else 0
def am_bl (k : Nat) : Int := bif Nat.beq k 1 then 0 else bif Nat.beq k 5 then (-1) else bif Nat.beq k 6 then (-1) else bif Nat.beq k 7 then (-122) else bif Nat.beq k 8 then 0 else bif Nat.beq k 9 then (-1) else bif Nat.beq k 19 then 0 else bif Nat.beq k 22 then 0 else bif Nat.beq k 23 then 0 else bif Nat.beq k 24 then 0 else bif Nat.beq k 25 then 0 else bif Nat.beq k 108 then 0 else bif Nat.beq k 109 then 0 else bif Nat.beq k 110 then 0 else bif Nat.beq k 111 then (-1) else bif Nat.beq k 115 then 0 else -2147483648
def am_bh (k : Nat) : Int := bif Nat.beq k 1 then 255 else bif Nat.beq k 5 then 720 else bif Nat.beq k 6 then 720 else bif Nat.beq k 7 then 122 else bif Nat.beq k 8 then 720 else bif Nat.beq k 9 then 720 else bif Nat.beq k 19 then 122 else bif Nat.beq k 22 then 720 else bif Nat.beq k 23 then 720 else bif Nat.beq k 24 then 2360 else bif Nat.beq k 25 then 2360 else bif Nat.beq k 108 then 122 else bif Nat.beq k 109 then 2000 else bif Nat.beq k 110 then 2000 else bif Nat.beq k 111 then 44 else bif Nat.beq k 115 then 122 else 2147483647
def am_LN (k : Nat) (l : List Int) : Prop := l.length = am_al k ∧ ∀ x ∈ l, am_bl k ≤ x ∧ x ≤ am_bh k
def am_RU (p : Bool) (f : aF) : Prop := p = true → (0 ≤ f 407 ∧ f 407 ≤ 2000) ∧ f 408 ≤ 2000
def am_J (p : Bool) (g : aF) (h : aA) (f : aF) (a : aA) : Prop :=
  (∀ k, 200 ≤ k → k < 11700 → am_fl k ≤ f k ∧ f k ≤ am_fh k) ∧ (∀ k, 1 ≤ k → k < 117 → am_LN k (a k)) ∧
  (∀ k, (k < 200 ∨ 11700 ≤ k) → f k = g k) ∧ (∀ k, (k < 2 ∨ 117 ≤ k) → a k = h k) ∧ am_RU p f
/-- starts are not behind ends -/
def am_R1 (s t : List Int) : Prop := ∀ i : Int, 0 ≤ i → i < 26 → am_at s i ≤ am_at t i
/-- what is kept of the first n lies before q -/
def am_R3 (n q : Int) (s l : List Int) : Prop := ∀ i : Int, 0 ≤ i → i < n → am_at s i + am_at l i ≤ q
/-- a BEGIN bears a letter -/
def am_R5 (n : Int) (k s : List Int) : Prop := ∀ i : Int, 0 ≤ i → i < n → am_at k i = 1 → 97 ≤ am_at s i
def am_R6 (n : Int) (s : List Int) : Prop := ∀ i : Int, 0 ≤ i → i < n → 97 ≤ am_at s i
def am_KR (f : aF) (a : aA) : Prop :=
  am_R1 (a 5) (a 6) ∧ am_R3 (f 1709) (f 1710) (a 24) (a 25) ∧ am_R3 (f 10606) (f 10607) (a 109) (a 110) ∧ am_R5 (f 10606) (a 107) (a 108) ∧ am_R6 (f 11406) (a 115) ∧ am_R3 45 2360 (a 24) (a 25)
def am_IV (p : Bool) (g : aF) (h : aA) (f : aF) (a : aA) : Prop := am_J p g h f a ∧ am_KR f a
def am_EC (g : aF) (h : aA) : Nat → aF → aA → Prop := fun x f a => x < 3 ∧ am_IV false g h f a
def am_ten (x : Int) : Int := 10 ^ x.toNat
theorem am_ten_0 : am_ten 0 = 1 := rfl
theorem am_ten_s {x : Int} (h : 0 ≤ x) : am_ten (x + 1) = 10 * am_ten x := by
  unfold am_ten
  rw [show (x + 1).toNat = x.toNat + 1 by omega, Int.pow_succ, Int.mul_comm]
theorem am_ten_6 {x : Int} (h : 0 ≤ x) (h6 : x ≤ 6) : am_ten x ≤ 1000000 := by
  rcases (show x = 0 ∨ x = 1 ∨ x = 2 ∨ x = 3 ∨ x = 4 ∨ x = 5 ∨ x = 6 by omega) with rfl | rfl | rfl | rfl | rfl | rfl | rfl <;> decide
/-- a boolean into a field -/
theorem am_pfB {o idx ci r k : Nat} {ini : Bool} {fs S : List Value} {x : Int} {h h1 : aH} (hfd : am_look2 am_fd o idx = some (ci, k)) (hg : am_get h r = some (false, ci, fs)) (hc : (Nat.beq ci ci && Nat.beq fs.length (am_nf ci) && am_fit (am_ty ci k) (am_iv x) && (!(am_fin ci k) || (ini && Nat.beq o ci))) = true) (hs : h.set r (some (false, ci, fs.set k (am_iv x))) = h1) : am_putf o ini idx (am_iv x :: .ref r :: S) h = some (S, h1) := by
  simp only [am_putf, hfd, hg, hc, hs]
section AmInv
variable {p : Bool} {g : aF} {h : aA} {f : aF} {a : aA} {k c : Nat} {v x i : Int} {l : List Int}
theorem am_IV.weak (hI : am_IV p g h f a) : am_IV false g h f a := ⟨⟨hI.1.1, hI.1.2.1, hI.1.2.2.1, hI.1.2.2.2.1, fun h => absurd h (by decide)⟩, hI.2⟩
theorem am_Jf (hk : 200 ≤ k ∧ k < 11700) (hr : am_RU p f → am_RU p (am_ud f k v)) (hJ : am_J p g h f a) (h1 : am_fl k ≤ v) (h2 : v ≤ am_fh k) : am_J p g h (am_ud f k v) a := by
  refine ⟨fun j hj1 hj2 => ?_, hJ.2.1, fun j hj => ?_, hJ.2.2.2.1, hr hJ.2.2.2.2⟩
  · by_cases he : j = k
    · subst he; rw [am_ud_eq]; exact ⟨h1, h2⟩
    · rw [am_ud_ne _ _ he]; exact hJ.1 j hj1 hj2
  · rw [am_ud_ne _ _ (by omega)]; exact hJ.2.2.1 j hj
theorem am_Ja (hk : 2 ≤ k ∧ k < 117) (hJ : am_J p g h f a) (hl : am_LN k l) : am_J p g h f (am_ud a k l) := by
  refine ⟨hJ.1, fun j hj1 hj2 => ?_, hJ.2.2.1, fun j hj => ?_, hJ.2.2.2.2⟩
  · by_cases he : j = k
    · subst he; rw [am_ud_eq]; exact hl
    · rw [am_ud_ne _ _ he]; exact hJ.2.1 j hj1 hj2
  · rw [am_ud_ne _ _ (by omega)]; exact hJ.2.2.2.1 j hj
theorem am_LN.at (hl : am_LN k l) (hi : am_ib l x) : am_bl k ≤ am_at l x ∧ am_at l x ≤ am_bh k := by
  refine hl.2 _ ?_
  unfold am_at
  have h1 := hi.2.1
  have h0 := hi.1
  have h2 : x.toNat < l.length := by omega
  rw [List.getD_eq_getElem?_getD, List.getElem?_eq_getElem h2]
  exact List.getElem_mem h2
theorem am_LN.put (hl : am_LN k l) {j : Nat} (h1 : am_bl k ≤ v) (h2 : v ≤ am_bh k) : am_LN k (l.set j v) := by
  refine ⟨by rw [List.length_set]; exact hl.1, fun x hx => ?_⟩
  rcases List.mem_or_eq_of_mem_set hx with h | h
  · exact hl.2 x h
  · rw [h]; exact ⟨h1, h2⟩
theorem am_LN.cpy {k0 : Nat} {l0 : List Int} {sp dp n : Int} (hl : am_LN k l) (hl0 : am_LN k0 l0) (hb : am_bl k ≤ am_bl k0 ∧ am_bh k0 ≤ am_bh k) (g0 : 0 ≤ n ∧ 0 ≤ sp ∧ 0 ≤ dp) (g1 : sp + n ≤ l0.length) (g2 : dp + n ≤ l.length) : am_LN k (am_cpyI l0 l sp dp n) := by
  refine ⟨?_, fun x hx => ?_⟩
  · rw [← hl.1]; unfold am_cpyI; simp only [List.length_append, List.length_take, List.length_drop]; omega
  · unfold am_cpyI at hx
    rcases List.mem_append.mp hx with h | h
    · exact hl.2 x (List.mem_of_mem_take h)
    · rcases List.mem_append.mp h with h | h
      · have := hl0.2 x (List.mem_of_mem_drop (List.mem_of_mem_take h)); omega
      · exact hl.2 x (List.mem_of_mem_drop h)
theorem am_at_set (hi : am_ib l i) : am_at (l.set i.toNat v) x = if x.toNat = i.toNat then v else am_at l x := by
  unfold am_at
  have h1 := hi.2.1
  have h0 := hi.1
  have h2 : i.toNat < l.length := by omega
  rw [List.getD_eq_getElem?_getD, List.getD_eq_getElem?_getD, List.getElem?_set]
  by_cases he : i.toNat = x.toNat
  · rw [if_pos he, if_pos he.symm, if_pos h2]; rfl
  · rw [if_neg he, if_neg (fun q => he q.symm)]
theorem am_toI (x : Int32) : -2147483648 ≤ x.toInt ∧ x.toInt ≤ 2147483647 := ⟨Int32.le_toInt _, Int.lt_add_one_iff.mp (Int32.toInt_lt _)⟩
theorem am_and_rg (x y : Int) : -2147483648 ≤ am_and x y ∧ am_and x y ≤ 2147483647 := am_toI _
theorem am_or_rg (x y : Int) : -2147483648 ≤ am_or x y ∧ am_or x y ≤ 2147483647 := am_toI _
theorem am_shl_rg (x y : Int) : -2147483648 ≤ am_shl x y ∧ am_shl x y ≤ 2147483647 := am_toI _
theorem am_shr_rg (x y : Int) : -2147483648 ≤ am_shr x y ∧ am_shr x y ≤ 2147483647 := am_toI _
theorem am_and_255 (x : Int) : 0 ≤ am_and x 255 ∧ am_and x 255 ≤ 255 := by
  have h1 : am_and x 255 = ((Int32.ofInt x).toBitVec &&& 255#32).toInt := rfl
  have h2 : ((Int32.ofInt x).toBitVec &&& 255#32).toNat ≤ 255 := by rw [BitVec.toNat_and]; exact Nat.and_le_right
  rw [h1, BitVec.toInt_eq_toNat_of_lt (by omega)]
  omega
theorem am_or_b {x y : Int} (hx : x = 0 ∨ x = 1) (hy : y = 0 ∨ y = 1) : am_or x y = 0 ∨ am_or x y = 1 := by
  rcases hx with rfl | rfl <;> rcases hy with rfl | rfl <;> decide
theorem am_and_b {x y : Int} (hx : x = 0 ∨ x = 1) (hy : y = 0 ∨ y = 1) : am_and x y = 0 ∨ am_and x y = 1 := by
  rcases hx with rfl | rfl <;> rcases hy with rfl | rfl <;> decide
theorem am_sl_le : ∀ {s : Nat}, s < am_sn → am_sl s ≤ 100 := by decide +kernel
theorem am_sc_rg (s : Nat) (x : Int) : -2147483648 ≤ am_sc s x ∧ am_sc s x ≤ 2147483647 := am_toI _
theorem am_IL (k : Nat) (hk : (Nat.ble 1 k && Nat.blt k 117) = true) (hI : am_IV p g h f a) : am_LN k (a k) := by
  rw [Bool.and_eq_true] at hk
  exact hI.1.2.1 k (Nat.le_of_ble_eq_true hk.1) (Nat.le_of_ble_eq_true hk.2)
theorem am_R1_set {s t : List Int} {u : Int} (hR : am_R1 s t) (h1 : am_ib s i) (h2 : am_ib t i) (hv : v ≤ u) : am_R1 (s.set i.toNat v) (t.set i.toNat u) := by
  intro j h3 h4
  rw [am_at_set h1, am_at_set h2]
  split
  · exact hv
  · exact hR j h3 h4
theorem am_R3_0 (q : Int) (s l : List Int) : am_R3 0 q s l := fun i h1 h2 => absurd h1 (by omega)
theorem am_R3_push {n q : Int} {s l : List Int} (hR : am_R3 n q s l) (h0 : 0 ≤ n) (h1 : am_ib s n) (h2 : am_ib l n) : am_R3 (n + 1) q (s.set n.toNat q) (l.set n.toNat 0) := by
  intro j h3 h4
  rw [am_at_set h1, am_at_set h2]
  split
  · omega
  · exact hR j h3 (by omega)
theorem am_R3_pushA {n q N Q : Int} {s l : List Int} (hR : am_R3 N Q s l) (h0 : q ≤ Q) (h1 : am_ib s n) (h2 : am_ib l n) : am_R3 N Q (s.set n.toNat q) (l.set n.toNat 0) := by
  intro j h3 h4
  rw [am_at_set h1, am_at_set h2]
  split
  · omega
  · exact hR j h3 h4
theorem am_R3_val {n q z : Int} {s l : List Int} (hR : am_R3 n q s l) (h0 : 0 ≤ am_at l (n - 1)) (hv : 0 ≤ v) (hn : 0 < n) (h2 : am_ib l (n - 1)) (hz : z = q + v) : am_R3 n z s (l.set (n - 1).toNat v) := by
  intro j h3 h4
  rw [am_at_set h2]
  split
  · have := hR (n - 1) (by omega) (by omega)
    rw [show j = n - 1 by omega]; omega
  · have := hR j h3 h4; omega
theorem am_R3_valA {n q N Q : Int} {s l : List Int} (hR : am_R3 n q s l) (hA : am_R3 N Q s l) (h0 : 0 ≤ am_at l (n - 1)) (hn : 0 < n) (hq : q + v ≤ Q) (h2 : am_ib l (n - 1)) : am_R3 N Q s (l.set (n - 1).toNat v) := by
  intro j h3 h4
  rw [am_at_set h2]
  split
  · have := hR (n - 1) (by omega) (by omega)
    rw [show j = n - 1 by omega]; omega
  · exact hA j h3 h4
theorem am_R3_inc {n q : Int} {s l : List Int} (hR : am_R3 n q s l) (h2 : am_ib l (n - 1)) : am_R3 n (q + 1) s (l.set (n - 1).toNat (am_at l (n - 1) + 1)) := by
  intro j h3 h4
  rw [am_at_set h2]
  split
  · have := hR (n - 1) (by omega) (by omega)
    rw [show j = n - 1 by omega]; omega
  · have := hR j h3 h4; omega
theorem am_R5_0 (s l : List Int) : am_R5 0 s l := fun i h1 h2 => absurd h1 (by omega)
theorem am_R5_push {n u : Int} {s l : List Int} (hR : am_R5 n s l) (h0 : 0 ≤ n) (h1 : am_ib s n) (h2 : am_ib l n) (hv : v = 1 → 97 ≤ u) : am_R5 (n + 1) (s.set n.toNat v) (l.set n.toNat u) := by
  intro j h3 h4
  rw [am_at_set h1, am_at_set h2]
  split
  · exact hv
  · exact hR j h3 (by omega)
theorem am_R6_0 (s : List Int) : am_R6 0 s := fun i h1 h2 => absurd h1 (by omega)
theorem am_R6_push {n : Int} {s : List Int} (hR : am_R6 n s) (h0 : 0 ≤ n) (h1 : am_ib s n) (hv : 97 ≤ v) : am_R6 (n + 1) (s.set n.toNat v) := by
  intro j h3 h4
  rw [am_at_set h1]
  split
  · exact hv
  · exact hR j h3 (by omega)
theorem am_R6_pop {n m : Int} {s : List Int} (hR : am_R6 n s) (h0 : m ≤ n) : am_R6 m s := fun j h3 h4 => hR j h3 (by omega)
theorem am_Jf407 (hJ : am_J false g h f a) (h1 : -2147483648 ≤ v) (h2 : v ≤ 2147483647) : am_J false g h (am_ud f 407 v) a := am_Jf (by decide) (fun _ q => absurd q (by decide)) hJ h1 h2
theorem am_Jf408 (hJ : am_J false g h f a) (h1 : 0 ≤ v) (h2 : v ≤ 4000) : am_J false g h (am_ud f 408 v) a := am_Jf (by decide) (fun _ q => absurd q (by decide)) hJ h1 h2
theorem am_If408f (hI : am_IV p g h f a) (h1 : 0 ≤ v) (h2 : v ≤ 4000) : am_IV false g h (am_ud f 408 v) a := ⟨am_Jf408 hI.weak.1 h1 h2, hI.2⟩
theorem am_If408t (hI : am_IV true g h f a) (h1 : 0 ≤ v) (h2 : v ≤ 2000) : am_IV true g h (am_ud f 408 v) a := ⟨am_Jf (by decide) (fun q z => ⟨(q z).1, h2⟩) hI.1 h1 (Int.le_trans h2 (by decide)), hI.2⟩
theorem am_Ig201 (hI : am_IV p g h f a) : 0 ≤ f 201 ∧ f 201 ≤ 720 := hI.1.1 201 (by decide) (by decide)
theorem am_If201 (hI : am_IV p g h f a) (h1 : 0 ≤ v) (h2 : v ≤ 720) : am_IV p g h (am_ud f 201 v) a := ⟨am_Jf (by decide) (fun q => q) hI.1 h1 h2, hI.2⟩
theorem am_Jf201 (hI : am_J p g h f a) (h1 : 0 ≤ v) (h2 : v ≤ 720) : am_J p g h (am_ud f 201 v) a := am_Jf (by decide) (fun q => q) hI h1 h2
theorem am_Ig202 (hI : am_IV p g h f a) : 0 ≤ f 202 ∧ f 202 ≤ 720 := hI.1.1 202 (by decide) (by decide)
theorem am_If202 (hI : am_IV p g h f a) (h1 : 0 ≤ v) (h2 : v ≤ 720) : am_IV p g h (am_ud f 202 v) a := ⟨am_Jf (by decide) (fun q => q) hI.1 h1 h2, hI.2⟩
theorem am_Jf202 (hI : am_J p g h f a) (h1 : 0 ≤ v) (h2 : v ≤ 720) : am_J p g h (am_ud f 202 v) a := am_Jf (by decide) (fun q => q) hI h1 h2
theorem am_Ig203 (hI : am_IV p g h f a) : (-1) ≤ f 203 ∧ f 203 ≤ 720 := hI.1.1 203 (by decide) (by decide)
theorem am_If203 (hI : am_IV p g h f a) (h1 : (-1) ≤ v) (h2 : v ≤ 720) : am_IV p g h (am_ud f 203 v) a := ⟨am_Jf (by decide) (fun q => q) hI.1 h1 h2, hI.2⟩
theorem am_Jf203 (hI : am_J p g h f a) (h1 : (-1) ≤ v) (h2 : v ≤ 720) : am_J p g h (am_ud f 203 v) a := am_Jf (by decide) (fun q => q) hI h1 h2
theorem am_Ig406 (hI : am_IV p g h f a) : 0 ≤ f 406 ∧ f 406 ≤ 16 := hI.1.1 406 (by decide) (by decide)
theorem am_If406 (hI : am_IV p g h f a) (h1 : 0 ≤ v) (h2 : v ≤ 16) : am_IV p g h (am_ud f 406 v) a := ⟨am_Jf (by decide) (fun q => q) hI.1 h1 h2, hI.2⟩
theorem am_Jf406 (hI : am_J p g h f a) (h1 : 0 ≤ v) (h2 : v ≤ 16) : am_J p g h (am_ud f 406 v) a := am_Jf (by decide) (fun q => q) hI h1 h2
theorem am_Ig407 (hI : am_IV p g h f a) : (-2147483648) ≤ f 407 ∧ f 407 ≤ 2147483647 := hI.1.1 407 (by decide) (by decide)
theorem am_Ig408 (hI : am_IV p g h f a) : 0 ≤ f 408 ∧ f 408 ≤ 4000 := hI.1.1 408 (by decide) (by decide)
theorem am_Ig1003 (hI : am_IV p g h f a) : 0 ≤ f 1003 ∧ f 1003 ≤ 2360 := hI.1.1 1003 (by decide) (by decide)
theorem am_If1003 (hI : am_IV p g h f a) (h1 : 0 ≤ v) (h2 : v ≤ 2360) : am_IV p g h (am_ud f 1003 v) a := ⟨am_Jf (by decide) (fun q => q) hI.1 h1 h2, hI.2⟩
theorem am_Jf1003 (hI : am_J p g h f a) (h1 : 0 ≤ v) (h2 : v ≤ 2360) : am_J p g h (am_ud f 1003 v) a := am_Jf (by decide) (fun q => q) hI h1 h2
theorem am_Ig1207 (hI : am_IV p g h f a) : (-2147483648) ≤ f 1207 ∧ f 1207 ≤ 2147483647 := hI.1.1 1207 (by decide) (by decide)
theorem am_If1207 (hI : am_IV p g h f a) (h1 : (-2147483648) ≤ v) (h2 : v ≤ 2147483647) : am_IV p g h (am_ud f 1207 v) a := ⟨am_Jf (by decide) (fun q => q) hI.1 h1 h2, hI.2⟩
theorem am_Jf1207 (hI : am_J p g h f a) (h1 : (-2147483648) ≤ v) (h2 : v ≤ 2147483647) : am_J p g h (am_ud f 1207 v) a := am_Jf (by decide) (fun q => q) hI h1 h2
theorem am_Ig1208 (hI : am_IV p g h f a) : 0 ≤ f 1208 ∧ f 1208 ≤ 1 := hI.1.1 1208 (by decide) (by decide)
theorem am_If1208 (hI : am_IV p g h f a) (h1 : 0 ≤ v) (h2 : v ≤ 1) : am_IV p g h (am_ud f 1208 v) a := ⟨am_Jf (by decide) (fun q => q) hI.1 h1 h2, hI.2⟩
theorem am_Jf1208 (hI : am_J p g h f a) (h1 : 0 ≤ v) (h2 : v ≤ 1) : am_J p g h (am_ud f 1208 v) a := am_Jf (by decide) (fun q => q) hI h1 h2
theorem am_Ig1709 (hI : am_IV p g h f a) : 0 ≤ f 1709 ∧ f 1709 ≤ 45 := hI.1.1 1709 (by decide) (by decide)
theorem am_Jf1709 (hI : am_J p g h f a) (h1 : 0 ≤ v) (h2 : v ≤ 45) : am_J p g h (am_ud f 1709 v) a := am_Jf (by decide) (fun q => q) hI h1 h2
theorem am_Ig1710 (hI : am_IV p g h f a) : 0 ≤ f 1710 ∧ f 1710 ≤ 2360 := hI.1.1 1710 (by decide) (by decide)
theorem am_Jf1710 (hI : am_J p g h f a) (h1 : 0 ≤ v) (h2 : v ≤ 2360) : am_J p g h (am_ud f 1710 v) a := am_Jf (by decide) (fun q => q) hI h1 h2
theorem am_Ig2701 (hI : am_IV p g h f a) : (-2147483648) ≤ f 2701 ∧ f 2701 ≤ 2147483647 := hI.1.1 2701 (by decide) (by decide)
theorem am_If2701 (hI : am_IV p g h f a) (h1 : (-2147483648) ≤ v) (h2 : v ≤ 2147483647) : am_IV p g h (am_ud f 2701 v) a := ⟨am_Jf (by decide) (fun q => q) hI.1 h1 h2, hI.2⟩
theorem am_Jf2701 (hI : am_J p g h f a) (h1 : (-2147483648) ≤ v) (h2 : v ≤ 2147483647) : am_J p g h (am_ud f 2701 v) a := am_Jf (by decide) (fun q => q) hI h1 h2
theorem am_Ig2702 (hI : am_IV p g h f a) : (-2147483648) ≤ f 2702 ∧ f 2702 ≤ 2147483647 := hI.1.1 2702 (by decide) (by decide)
theorem am_If2702 (hI : am_IV p g h f a) (h1 : (-2147483648) ≤ v) (h2 : v ≤ 2147483647) : am_IV p g h (am_ud f 2702 v) a := ⟨am_Jf (by decide) (fun q => q) hI.1 h1 h2, hI.2⟩
theorem am_Jf2702 (hI : am_J p g h f a) (h1 : (-2147483648) ≤ v) (h2 : v ≤ 2147483647) : am_J p g h (am_ud f 2702 v) a := am_Jf (by decide) (fun q => q) hI h1 h2
theorem am_Ig2703 (hI : am_IV p g h f a) : 0 ≤ f 2703 ∧ f 2703 ≤ 1 := hI.1.1 2703 (by decide) (by decide)
theorem am_If2703 (hI : am_IV p g h f a) (h1 : 0 ≤ v) (h2 : v ≤ 1) : am_IV p g h (am_ud f 2703 v) a := ⟨am_Jf (by decide) (fun q => q) hI.1 h1 h2, hI.2⟩
theorem am_Jf2703 (hI : am_J p g h f a) (h1 : 0 ≤ v) (h2 : v ≤ 1) : am_J p g h (am_ud f 2703 v) a := am_Jf (by decide) (fun q => q) hI h1 h2
theorem am_Ig10606 (hI : am_IV p g h f a) : 0 ≤ f 10606 ∧ f 10606 ≤ 200 := hI.1.1 10606 (by decide) (by decide)
theorem am_Jf10606 (hI : am_J p g h f a) (h1 : 0 ≤ v) (h2 : v ≤ 200) : am_J p g h (am_ud f 10606 v) a := am_Jf (by decide) (fun q => q) hI h1 h2
theorem am_Ig10607 (hI : am_IV p g h f a) : 0 ≤ f 10607 ∧ f 10607 ≤ 2000 := hI.1.1 10607 (by decide) (by decide)
theorem am_Jf10607 (hI : am_J p g h f a) (h1 : 0 ≤ v) (h2 : v ≤ 2000) : am_J p g h (am_ud f 10607 v) a := am_Jf (by decide) (fun q => q) hI h1 h2
theorem am_Ig11406 (hI : am_IV p g h f a) : 0 ≤ f 11406 ∧ f 11406 ≤ 16 := hI.1.1 11406 (by decide) (by decide)
theorem am_Jf11406 (hI : am_J p g h f a) (h1 : 0 ≤ v) (h2 : v ≤ 16) : am_J p g h (am_ud f 11406 v) a := am_Jf (by decide) (fun q => q) hI h1 h2
theorem am_Ig11407 (hI : am_IV p g h f a) : (-2147483648) ≤ f 11407 ∧ f 11407 ≤ 2147483647 := hI.1.1 11407 (by decide) (by decide)
theorem am_If11407 (hI : am_IV p g h f a) (h1 : (-2147483648) ≤ v) (h2 : v ≤ 2147483647) : am_IV p g h (am_ud f 11407 v) a := ⟨am_Jf (by decide) (fun q => q) hI.1 h1 h2, hI.2⟩
theorem am_Jf11407 (hI : am_J p g h f a) (h1 : (-2147483648) ≤ v) (h2 : v ≤ 2147483647) : am_J p g h (am_ud f 11407 v) a := am_Jf (by decide) (fun q => q) hI h1 h2
theorem am_Lb1 (hl : am_LN 1 l) (hi : am_ib l x) : 0 ≤ am_at l x ∧ am_at l x ≤ 255 := am_LN.at hl hi
theorem am_Ll1 (hl : am_LN 1 l) : l.length = 360 := hl.1
theorem am_LS1 {j : Nat} (hl : am_LN 1 l) (h1 : 0 ≤ v) (h2 : v ≤ 255) : am_LN 1 (l.set j v) := am_LN.put hl h1 h2
theorem am_Lb3 (hl : am_LN 3 l) (hi : am_ib l x) : (-2147483648) ≤ am_at l x ∧ am_at l x ≤ 2147483647 := am_LN.at hl hi
theorem am_Ll3 (hl : am_LN 3 l) : l.length = 720 := hl.1
theorem am_LS3 {j : Nat} (hl : am_LN 3 l) (h1 : (-2147483648) ≤ v) (h2 : v ≤ 2147483647) : am_LN 3 (l.set j v) := am_LN.put hl h1 h2
theorem am_Ia3 (hI : am_IV p g h f a) (hl : am_LN 3 l) : am_IV p g h f (am_ud a 3 l) := ⟨am_Ja (by decide) hI.1 hl, hI.2⟩
theorem am_Ja3 (hI : am_J p g h f a) (hl : am_LN 3 l) : am_J p g h f (am_ud a 3 l) := am_Ja (by decide) hI hl
theorem am_Lb5 (hl : am_LN 5 l) (hi : am_ib l x) : (-1) ≤ am_at l x ∧ am_at l x ≤ 720 := am_LN.at hl hi
theorem am_Ll5 (hl : am_LN 5 l) : l.length = 26 := hl.1
theorem am_LS5 {j : Nat} (hl : am_LN 5 l) (h1 : (-1) ≤ v) (h2 : v ≤ 720) : am_LN 5 (l.set j v) := am_LN.put hl h1 h2
theorem am_Ja5 (hI : am_J p g h f a) (hl : am_LN 5 l) : am_J p g h f (am_ud a 5 l) := am_Ja (by decide) hI hl
theorem am_Lb6 (hl : am_LN 6 l) (hi : am_ib l x) : (-1) ≤ am_at l x ∧ am_at l x ≤ 720 := am_LN.at hl hi
theorem am_Ll6 (hl : am_LN 6 l) : l.length = 26 := hl.1
theorem am_LS6 {j : Nat} (hl : am_LN 6 l) (h1 : (-1) ≤ v) (h2 : v ≤ 720) : am_LN 6 (l.set j v) := am_LN.put hl h1 h2
theorem am_Ja6 (hI : am_J p g h f a) (hl : am_LN 6 l) : am_J p g h f (am_ud a 6 l) := am_Ja (by decide) hI hl
theorem am_Lb7 (hl : am_LN 7 l) (hi : am_ib l x) : (-122) ≤ am_at l x ∧ am_at l x ≤ 122 := am_LN.at hl hi
theorem am_Ll7 (hl : am_LN 7 l) : l.length = 16 := hl.1
theorem am_LS7 {j : Nat} (hl : am_LN 7 l) (h1 : (-122) ≤ v) (h2 : v ≤ 122) : am_LN 7 (l.set j v) := am_LN.put hl h1 h2
theorem am_Ia7 (hI : am_IV p g h f a) (hl : am_LN 7 l) : am_IV p g h f (am_ud a 7 l) := ⟨am_Ja (by decide) hI.1 hl, hI.2⟩
theorem am_Ja7 (hI : am_J p g h f a) (hl : am_LN 7 l) : am_J p g h f (am_ud a 7 l) := am_Ja (by decide) hI hl
theorem am_Lb8 (hl : am_LN 8 l) (hi : am_ib l x) : 0 ≤ am_at l x ∧ am_at l x ≤ 720 := am_LN.at hl hi
theorem am_Ll8 (hl : am_LN 8 l) : l.length = 16 := hl.1
theorem am_LS8 {j : Nat} (hl : am_LN 8 l) (h1 : 0 ≤ v) (h2 : v ≤ 720) : am_LN 8 (l.set j v) := am_LN.put hl h1 h2
theorem am_Ia8 (hI : am_IV p g h f a) (hl : am_LN 8 l) : am_IV p g h f (am_ud a 8 l) := ⟨am_Ja (by decide) hI.1 hl, hI.2⟩
theorem am_Ja8 (hI : am_J p g h f a) (hl : am_LN 8 l) : am_J p g h f (am_ud a 8 l) := am_Ja (by decide) hI hl
theorem am_Lb9 (hl : am_LN 9 l) (hi : am_ib l x) : (-1) ≤ am_at l x ∧ am_at l x ≤ 720 := am_LN.at hl hi
theorem am_Ll9 (hl : am_LN 9 l) : l.length = 16 := hl.1
theorem am_LS9 {j : Nat} (hl : am_LN 9 l) (h1 : (-1) ≤ v) (h2 : v ≤ 720) : am_LN 9 (l.set j v) := am_LN.put hl h1 h2
theorem am_Ia9 (hI : am_IV p g h f a) (hl : am_LN 9 l) : am_IV p g h f (am_ud a 9 l) := ⟨am_Ja (by decide) hI.1 hl, hI.2⟩
theorem am_Ja9 (hI : am_J p g h f a) (hl : am_LN 9 l) : am_J p g h f (am_ud a 9 l) := am_Ja (by decide) hI hl
theorem am_Lb11 (hl : am_LN 11 l) (hi : am_ib l x) : (-2147483648) ≤ am_at l x ∧ am_at l x ≤ 2147483647 := am_LN.at hl hi
theorem am_Ll11 (hl : am_LN 11 l) : l.length = 2360 := hl.1
theorem am_LS11 {j : Nat} (hl : am_LN 11 l) (h1 : (-2147483648) ≤ v) (h2 : v ≤ 2147483647) : am_LN 11 (l.set j v) := am_LN.put hl h1 h2
theorem am_Ia11 (hI : am_IV p g h f a) (hl : am_LN 11 l) : am_IV p g h f (am_ud a 11 l) := ⟨am_Ja (by decide) hI.1 hl, hI.2⟩
theorem am_Ja11 (hI : am_J p g h f a) (hl : am_LN 11 l) : am_J p g h f (am_ud a 11 l) := am_Ja (by decide) hI hl
theorem am_Lb18 (hl : am_LN 18 l) (hi : am_ib l x) : (-2147483648) ≤ am_at l x ∧ am_at l x ≤ 2147483647 := am_LN.at hl hi
theorem am_Ll18 (hl : am_LN 18 l) : l.length = 45 := hl.1
theorem am_LS18 {j : Nat} (hl : am_LN 18 l) (h1 : (-2147483648) ≤ v) (h2 : v ≤ 2147483647) : am_LN 18 (l.set j v) := am_LN.put hl h1 h2
theorem am_Ia18 (hI : am_IV p g h f a) (hl : am_LN 18 l) : am_IV p g h f (am_ud a 18 l) := ⟨am_Ja (by decide) hI.1 hl, hI.2⟩
theorem am_Ja18 (hI : am_J p g h f a) (hl : am_LN 18 l) : am_J p g h f (am_ud a 18 l) := am_Ja (by decide) hI hl
theorem am_Lb19 (hl : am_LN 19 l) (hi : am_ib l x) : 0 ≤ am_at l x ∧ am_at l x ≤ 122 := am_LN.at hl hi
theorem am_Ll19 (hl : am_LN 19 l) : l.length = 45 := hl.1
theorem am_LS19 {j : Nat} (hl : am_LN 19 l) (h1 : 0 ≤ v) (h2 : v ≤ 122) : am_LN 19 (l.set j v) := am_LN.put hl h1 h2
theorem am_Ia19 (hI : am_IV p g h f a) (hl : am_LN 19 l) : am_IV p g h f (am_ud a 19 l) := ⟨am_Ja (by decide) hI.1 hl, hI.2⟩
theorem am_Ja19 (hI : am_J p g h f a) (hl : am_LN 19 l) : am_J p g h f (am_ud a 19 l) := am_Ja (by decide) hI hl
theorem am_Lb20 (hl : am_LN 20 l) (hi : am_ib l x) : (-2147483648) ≤ am_at l x ∧ am_at l x ≤ 2147483647 := am_LN.at hl hi
theorem am_Ll20 (hl : am_LN 20 l) : l.length = 45 := hl.1
theorem am_LS20 {j : Nat} (hl : am_LN 20 l) (h1 : (-2147483648) ≤ v) (h2 : v ≤ 2147483647) : am_LN 20 (l.set j v) := am_LN.put hl h1 h2
theorem am_Ia20 (hI : am_IV p g h f a) (hl : am_LN 20 l) : am_IV p g h f (am_ud a 20 l) := ⟨am_Ja (by decide) hI.1 hl, hI.2⟩
theorem am_Ja20 (hI : am_J p g h f a) (hl : am_LN 20 l) : am_J p g h f (am_ud a 20 l) := am_Ja (by decide) hI hl
theorem am_Lb21 (hl : am_LN 21 l) (hi : am_ib l x) : (-2147483648) ≤ am_at l x ∧ am_at l x ≤ 2147483647 := am_LN.at hl hi
theorem am_Ll21 (hl : am_LN 21 l) : l.length = 45 := hl.1
theorem am_LS21 {j : Nat} (hl : am_LN 21 l) (h1 : (-2147483648) ≤ v) (h2 : v ≤ 2147483647) : am_LN 21 (l.set j v) := am_LN.put hl h1 h2
theorem am_Ia21 (hI : am_IV p g h f a) (hl : am_LN 21 l) : am_IV p g h f (am_ud a 21 l) := ⟨am_Ja (by decide) hI.1 hl, hI.2⟩
theorem am_Ja21 (hI : am_J p g h f a) (hl : am_LN 21 l) : am_J p g h f (am_ud a 21 l) := am_Ja (by decide) hI hl
theorem am_Lb22 (hl : am_LN 22 l) (hi : am_ib l x) : 0 ≤ am_at l x ∧ am_at l x ≤ 720 := am_LN.at hl hi
theorem am_Ll22 (hl : am_LN 22 l) : l.length = 45 := hl.1
theorem am_LS22 {j : Nat} (hl : am_LN 22 l) (h1 : 0 ≤ v) (h2 : v ≤ 720) : am_LN 22 (l.set j v) := am_LN.put hl h1 h2
theorem am_Ia22 (hI : am_IV p g h f a) (hl : am_LN 22 l) : am_IV p g h f (am_ud a 22 l) := ⟨am_Ja (by decide) hI.1 hl, hI.2⟩
theorem am_Ja22 (hI : am_J p g h f a) (hl : am_LN 22 l) : am_J p g h f (am_ud a 22 l) := am_Ja (by decide) hI hl
theorem am_Lb23 (hl : am_LN 23 l) (hi : am_ib l x) : 0 ≤ am_at l x ∧ am_at l x ≤ 720 := am_LN.at hl hi
theorem am_Ll23 (hl : am_LN 23 l) : l.length = 45 := hl.1
theorem am_LS23 {j : Nat} (hl : am_LN 23 l) (h1 : 0 ≤ v) (h2 : v ≤ 720) : am_LN 23 (l.set j v) := am_LN.put hl h1 h2
theorem am_Ia23 (hI : am_IV p g h f a) (hl : am_LN 23 l) : am_IV p g h f (am_ud a 23 l) := ⟨am_Ja (by decide) hI.1 hl, hI.2⟩
theorem am_Ja23 (hI : am_J p g h f a) (hl : am_LN 23 l) : am_J p g h f (am_ud a 23 l) := am_Ja (by decide) hI hl
theorem am_Lb24 (hl : am_LN 24 l) (hi : am_ib l x) : 0 ≤ am_at l x ∧ am_at l x ≤ 2360 := am_LN.at hl hi
theorem am_Ll24 (hl : am_LN 24 l) : l.length = 45 := hl.1
theorem am_LS24 {j : Nat} (hl : am_LN 24 l) (h1 : 0 ≤ v) (h2 : v ≤ 2360) : am_LN 24 (l.set j v) := am_LN.put hl h1 h2
theorem am_Ja24 (hI : am_J p g h f a) (hl : am_LN 24 l) : am_J p g h f (am_ud a 24 l) := am_Ja (by decide) hI hl
theorem am_Lb25 (hl : am_LN 25 l) (hi : am_ib l x) : 0 ≤ am_at l x ∧ am_at l x ≤ 2360 := am_LN.at hl hi
theorem am_Ll25 (hl : am_LN 25 l) : l.length = 45 := hl.1
theorem am_LS25 {j : Nat} (hl : am_LN 25 l) (h1 : 0 ≤ v) (h2 : v ≤ 2360) : am_LN 25 (l.set j v) := am_LN.put hl h1 h2
theorem am_Ja25 (hI : am_J p g h f a) (hl : am_LN 25 l) : am_J p g h f (am_ud a 25 l) := am_Ja (by decide) hI hl
theorem am_Lb26 (hl : am_LN 26 l) (hi : am_ib l x) : (-2147483648) ≤ am_at l x ∧ am_at l x ≤ 2147483647 := am_LN.at hl hi
theorem am_Ll26 (hl : am_LN 26 l) : l.length = 2360 := hl.1
theorem am_LS26 {j : Nat} (hl : am_LN 26 l) (h1 : (-2147483648) ≤ v) (h2 : v ≤ 2147483647) : am_LN 26 (l.set j v) := am_LN.put hl h1 h2
theorem am_Ia26 (hI : am_IV p g h f a) (hl : am_LN 26 l) : am_IV p g h f (am_ud a 26 l) := ⟨am_Ja (by decide) hI.1 hl, hI.2⟩
theorem am_Ja26 (hI : am_J p g h f a) (hl : am_LN 26 l) : am_J p g h f (am_ud a 26 l) := am_Ja (by decide) hI hl
theorem am_Lb107 (hl : am_LN 107 l) (hi : am_ib l x) : (-2147483648) ≤ am_at l x ∧ am_at l x ≤ 2147483647 := am_LN.at hl hi
theorem am_Ll107 (hl : am_LN 107 l) : l.length = 200 := hl.1
theorem am_LS107 {j : Nat} (hl : am_LN 107 l) (h1 : (-2147483648) ≤ v) (h2 : v ≤ 2147483647) : am_LN 107 (l.set j v) := am_LN.put hl h1 h2
theorem am_Ja107 (hI : am_J p g h f a) (hl : am_LN 107 l) : am_J p g h f (am_ud a 107 l) := am_Ja (by decide) hI hl
theorem am_Lb108 (hl : am_LN 108 l) (hi : am_ib l x) : 0 ≤ am_at l x ∧ am_at l x ≤ 122 := am_LN.at hl hi
theorem am_Ll108 (hl : am_LN 108 l) : l.length = 200 := hl.1
theorem am_LS108 {j : Nat} (hl : am_LN 108 l) (h1 : 0 ≤ v) (h2 : v ≤ 122) : am_LN 108 (l.set j v) := am_LN.put hl h1 h2
theorem am_Ja108 (hI : am_J p g h f a) (hl : am_LN 108 l) : am_J p g h f (am_ud a 108 l) := am_Ja (by decide) hI hl
theorem am_Lb109 (hl : am_LN 109 l) (hi : am_ib l x) : 0 ≤ am_at l x ∧ am_at l x ≤ 2000 := am_LN.at hl hi
theorem am_Ll109 (hl : am_LN 109 l) : l.length = 200 := hl.1
theorem am_LS109 {j : Nat} (hl : am_LN 109 l) (h1 : 0 ≤ v) (h2 : v ≤ 2000) : am_LN 109 (l.set j v) := am_LN.put hl h1 h2
theorem am_Ja109 (hI : am_J p g h f a) (hl : am_LN 109 l) : am_J p g h f (am_ud a 109 l) := am_Ja (by decide) hI hl
theorem am_Lb110 (hl : am_LN 110 l) (hi : am_ib l x) : 0 ≤ am_at l x ∧ am_at l x ≤ 2000 := am_LN.at hl hi
theorem am_Ll110 (hl : am_LN 110 l) : l.length = 200 := hl.1
theorem am_LS110 {j : Nat} (hl : am_LN 110 l) (h1 : 0 ≤ v) (h2 : v ≤ 2000) : am_LN 110 (l.set j v) := am_LN.put hl h1 h2
theorem am_Ja110 (hI : am_J p g h f a) (hl : am_LN 110 l) : am_J p g h f (am_ud a 110 l) := am_Ja (by decide) hI hl
theorem am_Lb111 (hl : am_LN 111 l) (hi : am_ib l x) : (-1) ≤ am_at l x ∧ am_at l x ≤ 44 := am_LN.at hl hi
theorem am_Ll111 (hl : am_LN 111 l) : l.length = 200 := hl.1
theorem am_LS111 {j : Nat} (hl : am_LN 111 l) (h1 : (-1) ≤ v) (h2 : v ≤ 44) : am_LN 111 (l.set j v) := am_LN.put hl h1 h2
theorem am_Ia111 (hI : am_IV p g h f a) (hl : am_LN 111 l) : am_IV p g h f (am_ud a 111 l) := ⟨am_Ja (by decide) hI.1 hl, hI.2⟩
theorem am_Ja111 (hI : am_J p g h f a) (hl : am_LN 111 l) : am_J p g h f (am_ud a 111 l) := am_Ja (by decide) hI hl
theorem am_Lb112 (hl : am_LN 112 l) (hi : am_ib l x) : (-2147483648) ≤ am_at l x ∧ am_at l x ≤ 2147483647 := am_LN.at hl hi
theorem am_Ll112 (hl : am_LN 112 l) : l.length = 2000 := hl.1
theorem am_LS112 {j : Nat} (hl : am_LN 112 l) (h1 : (-2147483648) ≤ v) (h2 : v ≤ 2147483647) : am_LN 112 (l.set j v) := am_LN.put hl h1 h2
theorem am_Ia112 (hI : am_IV p g h f a) (hl : am_LN 112 l) : am_IV p g h f (am_ud a 112 l) := ⟨am_Ja (by decide) hI.1 hl, hI.2⟩
theorem am_Ja112 (hI : am_J p g h f a) (hl : am_LN 112 l) : am_J p g h f (am_ud a 112 l) := am_Ja (by decide) hI hl
theorem am_Lb115 (hl : am_LN 115 l) (hi : am_ib l x) : 0 ≤ am_at l x ∧ am_at l x ≤ 122 := am_LN.at hl hi
theorem am_Ll115 (hl : am_LN 115 l) : l.length = 16 := hl.1
theorem am_LS115 {j : Nat} (hl : am_LN 115 l) (h1 : 0 ≤ v) (h2 : v ≤ 122) : am_LN 115 (l.set j v) := am_LN.put hl h1 h2
theorem am_Ja115 (hI : am_J p g h f a) (hl : am_LN 115 l) : am_J p g h f (am_ud a 115 l) := am_Ja (by decide) hI hl
theorem am_Lb116 (hl : am_LN 116 l) (hi : am_ib l x) : (-2147483648) ≤ am_at l x ∧ am_at l x ≤ 2147483647 := am_LN.at hl hi
theorem am_Ll116 (hl : am_LN 116 l) : l.length = 16 := hl.1
theorem am_LS116 {j : Nat} (hl : am_LN 116 l) (h1 : (-2147483648) ≤ v) (h2 : v ≤ 2147483647) : am_LN 116 (l.set j v) := am_LN.put hl h1 h2
theorem am_Ia116 (hI : am_IV p g h f a) (hl : am_LN 116 l) : am_IV p g h f (am_ud a 116 l) := ⟨am_Ja (by decide) hI.1 hl, hI.2⟩
theorem am_Ja116 (hI : am_J p g h f a) (hl : am_LN 116 l) : am_J p g h f (am_ud a 116 l) := am_Ja (by decide) hI hl
theorem am_IgM0 (hc : am_isM c) (hI : am_IV p g h f a) : (-2147483648) ≤ f (100 * c) ∧ f (100 * c) ≤ 2147483647 := by
  rcases hc with rfl | ⟨i, hi, rfl⟩
  · exact hI.1.1 _ (by decide) (by decide)
  · match i, hi with
    | 0, _ => exact hI.1.1 _ (by decide) (by decide)
    | 1, _ => exact hI.1.1 _ (by decide) (by decide)
    | 2, _ => exact hI.1.1 _ (by decide) (by decide)
    | 3, _ => exact hI.1.1 _ (by decide) (by decide)
    | 4, _ => exact hI.1.1 _ (by decide) (by decide)
    | 5, _ => exact hI.1.1 _ (by decide) (by decide)
    | 6, _ => exact hI.1.1 _ (by decide) (by decide)
    | 7, _ => exact hI.1.1 _ (by decide) (by decide)
    | 8, _ => exact hI.1.1 _ (by decide) (by decide)
    | 9, _ => exact hI.1.1 _ (by decide) (by decide)
    | 10, _ => exact hI.1.1 _ (by decide) (by decide)
    | 11, _ => exact hI.1.1 _ (by decide) (by decide)
    | 12, _ => exact hI.1.1 _ (by decide) (by decide)
    | 13, _ => exact hI.1.1 _ (by decide) (by decide)
    | 14, _ => exact hI.1.1 _ (by decide) (by decide)
    | 15, _ => exact hI.1.1 _ (by decide) (by decide)
    | 16, _ => exact hI.1.1 _ (by decide) (by decide)
    | 17, _ => exact hI.1.1 _ (by decide) (by decide)
    | 18, _ => exact hI.1.1 _ (by decide) (by decide)
    | 19, _ => exact hI.1.1 _ (by decide) (by decide)
    | 20, _ => exact hI.1.1 _ (by decide) (by decide)
    | 21, _ => exact hI.1.1 _ (by decide) (by decide)
    | 22, _ => exact hI.1.1 _ (by decide) (by decide)
    | 23, _ => exact hI.1.1 _ (by decide) (by decide)
    | 24, _ => exact hI.1.1 _ (by decide) (by decide)
    | 25, _ => exact hI.1.1 _ (by decide) (by decide)
    | n + 26, h => exact absurd h (by omega)
theorem am_IfM0 (hc : am_isM c) (hI : am_IV p g h f a) (h1 : (-2147483648) ≤ v) (h2 : v ≤ 2147483647) : am_IV p g h (am_ud f (100 * c) v) a := by
  rcases hc with rfl | ⟨i, hi, rfl⟩
  · exact ⟨am_Jf (by decide) (fun q => q) hI.1 h1 h2, hI.2⟩
  · match i, hi with
    | 0, _ => exact ⟨am_Jf (by decide) (fun q => q) hI.1 h1 h2, hI.2⟩
    | 1, _ => exact ⟨am_Jf (by decide) (fun q => q) hI.1 h1 h2, hI.2⟩
    | 2, _ => exact ⟨am_Jf (by decide) (fun q => q) hI.1 h1 h2, hI.2⟩
    | 3, _ => exact ⟨am_Jf (by decide) (fun q => q) hI.1 h1 h2, hI.2⟩
    | 4, _ => exact ⟨am_Jf (by decide) (fun q => q) hI.1 h1 h2, hI.2⟩
    | 5, _ => exact ⟨am_Jf (by decide) (fun q => q) hI.1 h1 h2, hI.2⟩
    | 6, _ => exact ⟨am_Jf (by decide) (fun q => q) hI.1 h1 h2, hI.2⟩
    | 7, _ => exact ⟨am_Jf (by decide) (fun q => q) hI.1 h1 h2, hI.2⟩
    | 8, _ => exact ⟨am_Jf (by decide) (fun q => q) hI.1 h1 h2, hI.2⟩
    | 9, _ => exact ⟨am_Jf (by decide) (fun q => q) hI.1 h1 h2, hI.2⟩
    | 10, _ => exact ⟨am_Jf (by decide) (fun q => q) hI.1 h1 h2, hI.2⟩
    | 11, _ => exact ⟨am_Jf (by decide) (fun q => q) hI.1 h1 h2, hI.2⟩
    | 12, _ => exact ⟨am_Jf (by decide) (fun q => q) hI.1 h1 h2, hI.2⟩
    | 13, _ => exact ⟨am_Jf (by decide) (fun q => q) hI.1 h1 h2, hI.2⟩
    | 14, _ => exact ⟨am_Jf (by decide) (fun q => q) hI.1 h1 h2, hI.2⟩
    | 15, _ => exact ⟨am_Jf (by decide) (fun q => q) hI.1 h1 h2, hI.2⟩
    | 16, _ => exact ⟨am_Jf (by decide) (fun q => q) hI.1 h1 h2, hI.2⟩
    | 17, _ => exact ⟨am_Jf (by decide) (fun q => q) hI.1 h1 h2, hI.2⟩
    | 18, _ => exact ⟨am_Jf (by decide) (fun q => q) hI.1 h1 h2, hI.2⟩
    | 19, _ => exact ⟨am_Jf (by decide) (fun q => q) hI.1 h1 h2, hI.2⟩
    | 20, _ => exact ⟨am_Jf (by decide) (fun q => q) hI.1 h1 h2, hI.2⟩
    | 21, _ => exact ⟨am_Jf (by decide) (fun q => q) hI.1 h1 h2, hI.2⟩
    | 22, _ => exact ⟨am_Jf (by decide) (fun q => q) hI.1 h1 h2, hI.2⟩
    | 23, _ => exact ⟨am_Jf (by decide) (fun q => q) hI.1 h1 h2, hI.2⟩
    | 24, _ => exact ⟨am_Jf (by decide) (fun q => q) hI.1 h1 h2, hI.2⟩
    | 25, _ => exact ⟨am_Jf (by decide) (fun q => q) hI.1 h1 h2, hI.2⟩
    | n + 26, h => exact absurd h (by omega)
theorem am_IgM1 (hc : am_isM c) (hI : am_IV p g h f a) : (-2147483648) ≤ f (100 * c + 1) ∧ f (100 * c + 1) ≤ 2147483647 := by
  rcases hc with rfl | ⟨i, hi, rfl⟩
  · exact hI.1.1 _ (by decide) (by decide)
  · match i, hi with
    | 0, _ => exact hI.1.1 _ (by decide) (by decide)
    | 1, _ => exact hI.1.1 _ (by decide) (by decide)
    | 2, _ => exact hI.1.1 _ (by decide) (by decide)
    | 3, _ => exact hI.1.1 _ (by decide) (by decide)
    | 4, _ => exact hI.1.1 _ (by decide) (by decide)
    | 5, _ => exact hI.1.1 _ (by decide) (by decide)
    | 6, _ => exact hI.1.1 _ (by decide) (by decide)
    | 7, _ => exact hI.1.1 _ (by decide) (by decide)
    | 8, _ => exact hI.1.1 _ (by decide) (by decide)
    | 9, _ => exact hI.1.1 _ (by decide) (by decide)
    | 10, _ => exact hI.1.1 _ (by decide) (by decide)
    | 11, _ => exact hI.1.1 _ (by decide) (by decide)
    | 12, _ => exact hI.1.1 _ (by decide) (by decide)
    | 13, _ => exact hI.1.1 _ (by decide) (by decide)
    | 14, _ => exact hI.1.1 _ (by decide) (by decide)
    | 15, _ => exact hI.1.1 _ (by decide) (by decide)
    | 16, _ => exact hI.1.1 _ (by decide) (by decide)
    | 17, _ => exact hI.1.1 _ (by decide) (by decide)
    | 18, _ => exact hI.1.1 _ (by decide) (by decide)
    | 19, _ => exact hI.1.1 _ (by decide) (by decide)
    | 20, _ => exact hI.1.1 _ (by decide) (by decide)
    | 21, _ => exact hI.1.1 _ (by decide) (by decide)
    | 22, _ => exact hI.1.1 _ (by decide) (by decide)
    | 23, _ => exact hI.1.1 _ (by decide) (by decide)
    | 24, _ => exact hI.1.1 _ (by decide) (by decide)
    | 25, _ => exact hI.1.1 _ (by decide) (by decide)
    | n + 26, h => exact absurd h (by omega)
theorem am_IfM1 (hc : am_isM c) (hI : am_IV p g h f a) (h1 : (-2147483648) ≤ v) (h2 : v ≤ 2147483647) : am_IV p g h (am_ud f (100 * c + 1) v) a := by
  rcases hc with rfl | ⟨i, hi, rfl⟩
  · exact ⟨am_Jf (by decide) (fun q => q) hI.1 h1 h2, hI.2⟩
  · match i, hi with
    | 0, _ => exact ⟨am_Jf (by decide) (fun q => q) hI.1 h1 h2, hI.2⟩
    | 1, _ => exact ⟨am_Jf (by decide) (fun q => q) hI.1 h1 h2, hI.2⟩
    | 2, _ => exact ⟨am_Jf (by decide) (fun q => q) hI.1 h1 h2, hI.2⟩
    | 3, _ => exact ⟨am_Jf (by decide) (fun q => q) hI.1 h1 h2, hI.2⟩
    | 4, _ => exact ⟨am_Jf (by decide) (fun q => q) hI.1 h1 h2, hI.2⟩
    | 5, _ => exact ⟨am_Jf (by decide) (fun q => q) hI.1 h1 h2, hI.2⟩
    | 6, _ => exact ⟨am_Jf (by decide) (fun q => q) hI.1 h1 h2, hI.2⟩
    | 7, _ => exact ⟨am_Jf (by decide) (fun q => q) hI.1 h1 h2, hI.2⟩
    | 8, _ => exact ⟨am_Jf (by decide) (fun q => q) hI.1 h1 h2, hI.2⟩
    | 9, _ => exact ⟨am_Jf (by decide) (fun q => q) hI.1 h1 h2, hI.2⟩
    | 10, _ => exact ⟨am_Jf (by decide) (fun q => q) hI.1 h1 h2, hI.2⟩
    | 11, _ => exact ⟨am_Jf (by decide) (fun q => q) hI.1 h1 h2, hI.2⟩
    | 12, _ => exact ⟨am_Jf (by decide) (fun q => q) hI.1 h1 h2, hI.2⟩
    | 13, _ => exact ⟨am_Jf (by decide) (fun q => q) hI.1 h1 h2, hI.2⟩
    | 14, _ => exact ⟨am_Jf (by decide) (fun q => q) hI.1 h1 h2, hI.2⟩
    | 15, _ => exact ⟨am_Jf (by decide) (fun q => q) hI.1 h1 h2, hI.2⟩
    | 16, _ => exact ⟨am_Jf (by decide) (fun q => q) hI.1 h1 h2, hI.2⟩
    | 17, _ => exact ⟨am_Jf (by decide) (fun q => q) hI.1 h1 h2, hI.2⟩
    | 18, _ => exact ⟨am_Jf (by decide) (fun q => q) hI.1 h1 h2, hI.2⟩
    | 19, _ => exact ⟨am_Jf (by decide) (fun q => q) hI.1 h1 h2, hI.2⟩
    | 20, _ => exact ⟨am_Jf (by decide) (fun q => q) hI.1 h1 h2, hI.2⟩
    | 21, _ => exact ⟨am_Jf (by decide) (fun q => q) hI.1 h1 h2, hI.2⟩
    | 22, _ => exact ⟨am_Jf (by decide) (fun q => q) hI.1 h1 h2, hI.2⟩
    | 23, _ => exact ⟨am_Jf (by decide) (fun q => q) hI.1 h1 h2, hI.2⟩
    | 24, _ => exact ⟨am_Jf (by decide) (fun q => q) hI.1 h1 h2, hI.2⟩
    | 25, _ => exact ⟨am_Jf (by decide) (fun q => q) hI.1 h1 h2, hI.2⟩
    | n + 26, h => exact absurd h (by omega)
theorem am_IgM2 (hc : am_isM c) (hI : am_IV p g h f a) : 0 ≤ f (100 * c + 2) ∧ f (100 * c + 2) ≤ 30 := by
  rcases hc with rfl | ⟨i, hi, rfl⟩
  · exact hI.1.1 _ (by decide) (by decide)
  · match i, hi with
    | 0, _ => exact hI.1.1 _ (by decide) (by decide)
    | 1, _ => exact hI.1.1 _ (by decide) (by decide)
    | 2, _ => exact hI.1.1 _ (by decide) (by decide)
    | 3, _ => exact hI.1.1 _ (by decide) (by decide)
    | 4, _ => exact hI.1.1 _ (by decide) (by decide)
    | 5, _ => exact hI.1.1 _ (by decide) (by decide)
    | 6, _ => exact hI.1.1 _ (by decide) (by decide)
    | 7, _ => exact hI.1.1 _ (by decide) (by decide)
    | 8, _ => exact hI.1.1 _ (by decide) (by decide)
    | 9, _ => exact hI.1.1 _ (by decide) (by decide)
    | 10, _ => exact hI.1.1 _ (by decide) (by decide)
    | 11, _ => exact hI.1.1 _ (by decide) (by decide)
    | 12, _ => exact hI.1.1 _ (by decide) (by decide)
    | 13, _ => exact hI.1.1 _ (by decide) (by decide)
    | 14, _ => exact hI.1.1 _ (by decide) (by decide)
    | 15, _ => exact hI.1.1 _ (by decide) (by decide)
    | 16, _ => exact hI.1.1 _ (by decide) (by decide)
    | 17, _ => exact hI.1.1 _ (by decide) (by decide)
    | 18, _ => exact hI.1.1 _ (by decide) (by decide)
    | 19, _ => exact hI.1.1 _ (by decide) (by decide)
    | 20, _ => exact hI.1.1 _ (by decide) (by decide)
    | 21, _ => exact hI.1.1 _ (by decide) (by decide)
    | 22, _ => exact hI.1.1 _ (by decide) (by decide)
    | 23, _ => exact hI.1.1 _ (by decide) (by decide)
    | 24, _ => exact hI.1.1 _ (by decide) (by decide)
    | 25, _ => exact hI.1.1 _ (by decide) (by decide)
    | n + 26, h => exact absurd h (by omega)
theorem am_IfM2 (hc : am_isM c) (hI : am_IV p g h f a) (h1 : 0 ≤ v) (h2 : v ≤ 30) : am_IV p g h (am_ud f (100 * c + 2) v) a := by
  rcases hc with rfl | ⟨i, hi, rfl⟩
  · exact ⟨am_Jf (by decide) (fun q => q) hI.1 h1 h2, hI.2⟩
  · match i, hi with
    | 0, _ => exact ⟨am_Jf (by decide) (fun q => q) hI.1 h1 h2, hI.2⟩
    | 1, _ => exact ⟨am_Jf (by decide) (fun q => q) hI.1 h1 h2, hI.2⟩
    | 2, _ => exact ⟨am_Jf (by decide) (fun q => q) hI.1 h1 h2, hI.2⟩
    | 3, _ => exact ⟨am_Jf (by decide) (fun q => q) hI.1 h1 h2, hI.2⟩
    | 4, _ => exact ⟨am_Jf (by decide) (fun q => q) hI.1 h1 h2, hI.2⟩
    | 5, _ => exact ⟨am_Jf (by decide) (fun q => q) hI.1 h1 h2, hI.2⟩
    | 6, _ => exact ⟨am_Jf (by decide) (fun q => q) hI.1 h1 h2, hI.2⟩
    | 7, _ => exact ⟨am_Jf (by decide) (fun q => q) hI.1 h1 h2, hI.2⟩
    | 8, _ => exact ⟨am_Jf (by decide) (fun q => q) hI.1 h1 h2, hI.2⟩
    | 9, _ => exact ⟨am_Jf (by decide) (fun q => q) hI.1 h1 h2, hI.2⟩
    | 10, _ => exact ⟨am_Jf (by decide) (fun q => q) hI.1 h1 h2, hI.2⟩
    | 11, _ => exact ⟨am_Jf (by decide) (fun q => q) hI.1 h1 h2, hI.2⟩
    | 12, _ => exact ⟨am_Jf (by decide) (fun q => q) hI.1 h1 h2, hI.2⟩
    | 13, _ => exact ⟨am_Jf (by decide) (fun q => q) hI.1 h1 h2, hI.2⟩
    | 14, _ => exact ⟨am_Jf (by decide) (fun q => q) hI.1 h1 h2, hI.2⟩
    | 15, _ => exact ⟨am_Jf (by decide) (fun q => q) hI.1 h1 h2, hI.2⟩
    | 16, _ => exact ⟨am_Jf (by decide) (fun q => q) hI.1 h1 h2, hI.2⟩
    | 17, _ => exact ⟨am_Jf (by decide) (fun q => q) hI.1 h1 h2, hI.2⟩
    | 18, _ => exact ⟨am_Jf (by decide) (fun q => q) hI.1 h1 h2, hI.2⟩
    | 19, _ => exact ⟨am_Jf (by decide) (fun q => q) hI.1 h1 h2, hI.2⟩
    | 20, _ => exact ⟨am_Jf (by decide) (fun q => q) hI.1 h1 h2, hI.2⟩
    | 21, _ => exact ⟨am_Jf (by decide) (fun q => q) hI.1 h1 h2, hI.2⟩
    | 22, _ => exact ⟨am_Jf (by decide) (fun q => q) hI.1 h1 h2, hI.2⟩
    | 23, _ => exact ⟨am_Jf (by decide) (fun q => q) hI.1 h1 h2, hI.2⟩
    | 24, _ => exact ⟨am_Jf (by decide) (fun q => q) hI.1 h1 h2, hI.2⟩
    | 25, _ => exact ⟨am_Jf (by decide) (fun q => q) hI.1 h1 h2, hI.2⟩
    | n + 26, h => exact absurd h (by omega)
theorem am_IgM5 (hc : am_isM c) (hI : am_IV p g h f a) : (-2147483648) ≤ f (100 * c + 5) ∧ f (100 * c + 5) ≤ 2147483647 := by
  rcases hc with rfl | ⟨i, hi, rfl⟩
  · exact hI.1.1 _ (by decide) (by decide)
  · match i, hi with
    | 0, _ => exact hI.1.1 _ (by decide) (by decide)
    | 1, _ => exact hI.1.1 _ (by decide) (by decide)
    | 2, _ => exact hI.1.1 _ (by decide) (by decide)
    | 3, _ => exact hI.1.1 _ (by decide) (by decide)
    | 4, _ => exact hI.1.1 _ (by decide) (by decide)
    | 5, _ => exact hI.1.1 _ (by decide) (by decide)
    | 6, _ => exact hI.1.1 _ (by decide) (by decide)
    | 7, _ => exact hI.1.1 _ (by decide) (by decide)
    | 8, _ => exact hI.1.1 _ (by decide) (by decide)
    | 9, _ => exact hI.1.1 _ (by decide) (by decide)
    | 10, _ => exact hI.1.1 _ (by decide) (by decide)
    | 11, _ => exact hI.1.1 _ (by decide) (by decide)
    | 12, _ => exact hI.1.1 _ (by decide) (by decide)
    | 13, _ => exact hI.1.1 _ (by decide) (by decide)
    | 14, _ => exact hI.1.1 _ (by decide) (by decide)
    | 15, _ => exact hI.1.1 _ (by decide) (by decide)
    | 16, _ => exact hI.1.1 _ (by decide) (by decide)
    | 17, _ => exact hI.1.1 _ (by decide) (by decide)
    | 18, _ => exact hI.1.1 _ (by decide) (by decide)
    | 19, _ => exact hI.1.1 _ (by decide) (by decide)
    | 20, _ => exact hI.1.1 _ (by decide) (by decide)
    | 21, _ => exact hI.1.1 _ (by decide) (by decide)
    | 22, _ => exact hI.1.1 _ (by decide) (by decide)
    | 23, _ => exact hI.1.1 _ (by decide) (by decide)
    | 24, _ => exact hI.1.1 _ (by decide) (by decide)
    | 25, _ => exact hI.1.1 _ (by decide) (by decide)
    | n + 26, h => exact absurd h (by omega)
theorem am_IfM5 (hc : am_isM c) (hI : am_IV p g h f a) (h1 : (-2147483648) ≤ v) (h2 : v ≤ 2147483647) : am_IV p g h (am_ud f (100 * c + 5) v) a := by
  rcases hc with rfl | ⟨i, hi, rfl⟩
  · exact ⟨am_Jf (by decide) (fun q => q) hI.1 h1 h2, hI.2⟩
  · match i, hi with
    | 0, _ => exact ⟨am_Jf (by decide) (fun q => q) hI.1 h1 h2, hI.2⟩
    | 1, _ => exact ⟨am_Jf (by decide) (fun q => q) hI.1 h1 h2, hI.2⟩
    | 2, _ => exact ⟨am_Jf (by decide) (fun q => q) hI.1 h1 h2, hI.2⟩
    | 3, _ => exact ⟨am_Jf (by decide) (fun q => q) hI.1 h1 h2, hI.2⟩
    | 4, _ => exact ⟨am_Jf (by decide) (fun q => q) hI.1 h1 h2, hI.2⟩
    | 5, _ => exact ⟨am_Jf (by decide) (fun q => q) hI.1 h1 h2, hI.2⟩
    | 6, _ => exact ⟨am_Jf (by decide) (fun q => q) hI.1 h1 h2, hI.2⟩
    | 7, _ => exact ⟨am_Jf (by decide) (fun q => q) hI.1 h1 h2, hI.2⟩
    | 8, _ => exact ⟨am_Jf (by decide) (fun q => q) hI.1 h1 h2, hI.2⟩
    | 9, _ => exact ⟨am_Jf (by decide) (fun q => q) hI.1 h1 h2, hI.2⟩
    | 10, _ => exact ⟨am_Jf (by decide) (fun q => q) hI.1 h1 h2, hI.2⟩
    | 11, _ => exact ⟨am_Jf (by decide) (fun q => q) hI.1 h1 h2, hI.2⟩
    | 12, _ => exact ⟨am_Jf (by decide) (fun q => q) hI.1 h1 h2, hI.2⟩
    | 13, _ => exact ⟨am_Jf (by decide) (fun q => q) hI.1 h1 h2, hI.2⟩
    | 14, _ => exact ⟨am_Jf (by decide) (fun q => q) hI.1 h1 h2, hI.2⟩
    | 15, _ => exact ⟨am_Jf (by decide) (fun q => q) hI.1 h1 h2, hI.2⟩
    | 16, _ => exact ⟨am_Jf (by decide) (fun q => q) hI.1 h1 h2, hI.2⟩
    | 17, _ => exact ⟨am_Jf (by decide) (fun q => q) hI.1 h1 h2, hI.2⟩
    | 18, _ => exact ⟨am_Jf (by decide) (fun q => q) hI.1 h1 h2, hI.2⟩
    | 19, _ => exact ⟨am_Jf (by decide) (fun q => q) hI.1 h1 h2, hI.2⟩
    | 20, _ => exact ⟨am_Jf (by decide) (fun q => q) hI.1 h1 h2, hI.2⟩
    | 21, _ => exact ⟨am_Jf (by decide) (fun q => q) hI.1 h1 h2, hI.2⟩
    | 22, _ => exact ⟨am_Jf (by decide) (fun q => q) hI.1 h1 h2, hI.2⟩
    | 23, _ => exact ⟨am_Jf (by decide) (fun q => q) hI.1 h1 h2, hI.2⟩
    | 24, _ => exact ⟨am_Jf (by decide) (fun q => q) hI.1 h1 h2, hI.2⟩
    | 25, _ => exact ⟨am_Jf (by decide) (fun q => q) hI.1 h1 h2, hI.2⟩
    | n + 26, h => exact absurd h (by omega)
theorem am_ILM1 (hc : am_isM c) (hI : am_IV p g h f a) : am_LN (c + 1) (a (c + 1)) := by
  rcases hc with rfl | ⟨i, hi, rfl⟩
  · exact hI.1.2.1 _ (by decide) (by decide)
  · match i, hi with
    | 0, _ => exact hI.1.2.1 _ (by decide) (by decide)
    | 1, _ => exact hI.1.2.1 _ (by decide) (by decide)
    | 2, _ => exact hI.1.2.1 _ (by decide) (by decide)
    | 3, _ => exact hI.1.2.1 _ (by decide) (by decide)
    | 4, _ => exact hI.1.2.1 _ (by decide) (by decide)
    | 5, _ => exact hI.1.2.1 _ (by decide) (by decide)
    | 6, _ => exact hI.1.2.1 _ (by decide) (by decide)
    | 7, _ => exact hI.1.2.1 _ (by decide) (by decide)
    | 8, _ => exact hI.1.2.1 _ (by decide) (by decide)
    | 9, _ => exact hI.1.2.1 _ (by decide) (by decide)
    | 10, _ => exact hI.1.2.1 _ (by decide) (by decide)
    | 11, _ => exact hI.1.2.1 _ (by decide) (by decide)
    | 12, _ => exact hI.1.2.1 _ (by decide) (by decide)
    | 13, _ => exact hI.1.2.1 _ (by decide) (by decide)
    | 14, _ => exact hI.1.2.1 _ (by decide) (by decide)
    | 15, _ => exact hI.1.2.1 _ (by decide) (by decide)
    | 16, _ => exact hI.1.2.1 _ (by decide) (by decide)
    | 17, _ => exact hI.1.2.1 _ (by decide) (by decide)
    | 18, _ => exact hI.1.2.1 _ (by decide) (by decide)
    | 19, _ => exact hI.1.2.1 _ (by decide) (by decide)
    | 20, _ => exact hI.1.2.1 _ (by decide) (by decide)
    | 21, _ => exact hI.1.2.1 _ (by decide) (by decide)
    | 22, _ => exact hI.1.2.1 _ (by decide) (by decide)
    | 23, _ => exact hI.1.2.1 _ (by decide) (by decide)
    | 24, _ => exact hI.1.2.1 _ (by decide) (by decide)
    | 25, _ => exact hI.1.2.1 _ (by decide) (by decide)
    | n + 26, h => exact absurd h (by omega)
theorem am_LbM1 (hc : am_isM c) (hl : am_LN (c + 1) l) (hx : am_ib l x) : -2147483648 ≤ am_at l x ∧ am_at l x ≤ 2147483647 := by
  rcases hc with rfl | ⟨i, hi, rfl⟩
  · exact am_LN.at hl hx
  · match i, hi with
    | 0, _ => exact am_LN.at hl hx
    | 1, _ => exact am_LN.at hl hx
    | 2, _ => exact am_LN.at hl hx
    | 3, _ => exact am_LN.at hl hx
    | 4, _ => exact am_LN.at hl hx
    | 5, _ => exact am_LN.at hl hx
    | 6, _ => exact am_LN.at hl hx
    | 7, _ => exact am_LN.at hl hx
    | 8, _ => exact am_LN.at hl hx
    | 9, _ => exact am_LN.at hl hx
    | 10, _ => exact am_LN.at hl hx
    | 11, _ => exact am_LN.at hl hx
    | 12, _ => exact am_LN.at hl hx
    | 13, _ => exact am_LN.at hl hx
    | 14, _ => exact am_LN.at hl hx
    | 15, _ => exact am_LN.at hl hx
    | 16, _ => exact am_LN.at hl hx
    | 17, _ => exact am_LN.at hl hx
    | 18, _ => exact am_LN.at hl hx
    | 19, _ => exact am_LN.at hl hx
    | 20, _ => exact am_LN.at hl hx
    | 21, _ => exact am_LN.at hl hx
    | 22, _ => exact am_LN.at hl hx
    | 23, _ => exact am_LN.at hl hx
    | 24, _ => exact am_LN.at hl hx
    | 25, _ => exact am_LN.at hl hx
    | n + 26, h => exact absurd h (by omega)
theorem am_LlM1 (hc : am_isM c) (hl : am_LN (c + 1) l) : l.length = 31 := by
  rcases hc with rfl | ⟨i, hi, rfl⟩
  · exact hl.1
  · match i, hi with
    | 0, _ => exact hl.1
    | 1, _ => exact hl.1
    | 2, _ => exact hl.1
    | 3, _ => exact hl.1
    | 4, _ => exact hl.1
    | 5, _ => exact hl.1
    | 6, _ => exact hl.1
    | 7, _ => exact hl.1
    | 8, _ => exact hl.1
    | 9, _ => exact hl.1
    | 10, _ => exact hl.1
    | 11, _ => exact hl.1
    | 12, _ => exact hl.1
    | 13, _ => exact hl.1
    | 14, _ => exact hl.1
    | 15, _ => exact hl.1
    | 16, _ => exact hl.1
    | 17, _ => exact hl.1
    | 18, _ => exact hl.1
    | 19, _ => exact hl.1
    | 20, _ => exact hl.1
    | 21, _ => exact hl.1
    | 22, _ => exact hl.1
    | 23, _ => exact hl.1
    | 24, _ => exact hl.1
    | 25, _ => exact hl.1
    | n + 26, h => exact absurd h (by omega)
theorem am_LSM1 {j : Nat} (hc : am_isM c) (hl : am_LN (c + 1) l) (h1 : -2147483648 ≤ v) (h2 : v ≤ 2147483647) : am_LN (c + 1) (l.set j v) := by
  rcases hc with rfl | ⟨i, hi, rfl⟩
  · exact am_LN.put hl h1 h2
  · match i, hi with
    | 0, _ => exact am_LN.put hl h1 h2
    | 1, _ => exact am_LN.put hl h1 h2
    | 2, _ => exact am_LN.put hl h1 h2
    | 3, _ => exact am_LN.put hl h1 h2
    | 4, _ => exact am_LN.put hl h1 h2
    | 5, _ => exact am_LN.put hl h1 h2
    | 6, _ => exact am_LN.put hl h1 h2
    | 7, _ => exact am_LN.put hl h1 h2
    | 8, _ => exact am_LN.put hl h1 h2
    | 9, _ => exact am_LN.put hl h1 h2
    | 10, _ => exact am_LN.put hl h1 h2
    | 11, _ => exact am_LN.put hl h1 h2
    | 12, _ => exact am_LN.put hl h1 h2
    | 13, _ => exact am_LN.put hl h1 h2
    | 14, _ => exact am_LN.put hl h1 h2
    | 15, _ => exact am_LN.put hl h1 h2
    | 16, _ => exact am_LN.put hl h1 h2
    | 17, _ => exact am_LN.put hl h1 h2
    | 18, _ => exact am_LN.put hl h1 h2
    | 19, _ => exact am_LN.put hl h1 h2
    | 20, _ => exact am_LN.put hl h1 h2
    | 21, _ => exact am_LN.put hl h1 h2
    | 22, _ => exact am_LN.put hl h1 h2
    | 23, _ => exact am_LN.put hl h1 h2
    | 24, _ => exact am_LN.put hl h1 h2
    | 25, _ => exact am_LN.put hl h1 h2
    | n + 26, h => exact absurd h (by omega)
theorem am_IaM1 (hc : am_isM c) (hI : am_IV p g h f a) (hl : am_LN (c + 1) l) : am_IV p g h f (am_ud a (c + 1) l) := by
  rcases hc with rfl | ⟨i, hi, rfl⟩
  · exact ⟨am_Ja (by decide) hI.1 hl, hI.2⟩
  · match i, hi with
    | 0, _ => exact ⟨am_Ja (by decide) hI.1 hl, hI.2⟩
    | 1, _ => exact ⟨am_Ja (by decide) hI.1 hl, hI.2⟩
    | 2, _ => exact ⟨am_Ja (by decide) hI.1 hl, hI.2⟩
    | 3, _ => exact ⟨am_Ja (by decide) hI.1 hl, hI.2⟩
    | 4, _ => exact ⟨am_Ja (by decide) hI.1 hl, hI.2⟩
    | 5, _ => exact ⟨am_Ja (by decide) hI.1 hl, hI.2⟩
    | 6, _ => exact ⟨am_Ja (by decide) hI.1 hl, hI.2⟩
    | 7, _ => exact ⟨am_Ja (by decide) hI.1 hl, hI.2⟩
    | 8, _ => exact ⟨am_Ja (by decide) hI.1 hl, hI.2⟩
    | 9, _ => exact ⟨am_Ja (by decide) hI.1 hl, hI.2⟩
    | 10, _ => exact ⟨am_Ja (by decide) hI.1 hl, hI.2⟩
    | 11, _ => exact ⟨am_Ja (by decide) hI.1 hl, hI.2⟩
    | 12, _ => exact ⟨am_Ja (by decide) hI.1 hl, hI.2⟩
    | 13, _ => exact ⟨am_Ja (by decide) hI.1 hl, hI.2⟩
    | 14, _ => exact ⟨am_Ja (by decide) hI.1 hl, hI.2⟩
    | 15, _ => exact ⟨am_Ja (by decide) hI.1 hl, hI.2⟩
    | 16, _ => exact ⟨am_Ja (by decide) hI.1 hl, hI.2⟩
    | 17, _ => exact ⟨am_Ja (by decide) hI.1 hl, hI.2⟩
    | 18, _ => exact ⟨am_Ja (by decide) hI.1 hl, hI.2⟩
    | 19, _ => exact ⟨am_Ja (by decide) hI.1 hl, hI.2⟩
    | 20, _ => exact ⟨am_Ja (by decide) hI.1 hl, hI.2⟩
    | 21, _ => exact ⟨am_Ja (by decide) hI.1 hl, hI.2⟩
    | 22, _ => exact ⟨am_Ja (by decide) hI.1 hl, hI.2⟩
    | 23, _ => exact ⟨am_Ja (by decide) hI.1 hl, hI.2⟩
    | 24, _ => exact ⟨am_Ja (by decide) hI.1 hl, hI.2⟩
    | 25, _ => exact ⟨am_Ja (by decide) hI.1 hl, hI.2⟩
    | n + 26, h => exact absurd h (by omega)
theorem am_ILM2 (hc : am_isM c) (hI : am_IV p g h f a) : am_LN (c + 2) (a (c + 2)) := by
  rcases hc with rfl | ⟨i, hi, rfl⟩
  · exact hI.1.2.1 _ (by decide) (by decide)
  · match i, hi with
    | 0, _ => exact hI.1.2.1 _ (by decide) (by decide)
    | 1, _ => exact hI.1.2.1 _ (by decide) (by decide)
    | 2, _ => exact hI.1.2.1 _ (by decide) (by decide)
    | 3, _ => exact hI.1.2.1 _ (by decide) (by decide)
    | 4, _ => exact hI.1.2.1 _ (by decide) (by decide)
    | 5, _ => exact hI.1.2.1 _ (by decide) (by decide)
    | 6, _ => exact hI.1.2.1 _ (by decide) (by decide)
    | 7, _ => exact hI.1.2.1 _ (by decide) (by decide)
    | 8, _ => exact hI.1.2.1 _ (by decide) (by decide)
    | 9, _ => exact hI.1.2.1 _ (by decide) (by decide)
    | 10, _ => exact hI.1.2.1 _ (by decide) (by decide)
    | 11, _ => exact hI.1.2.1 _ (by decide) (by decide)
    | 12, _ => exact hI.1.2.1 _ (by decide) (by decide)
    | 13, _ => exact hI.1.2.1 _ (by decide) (by decide)
    | 14, _ => exact hI.1.2.1 _ (by decide) (by decide)
    | 15, _ => exact hI.1.2.1 _ (by decide) (by decide)
    | 16, _ => exact hI.1.2.1 _ (by decide) (by decide)
    | 17, _ => exact hI.1.2.1 _ (by decide) (by decide)
    | 18, _ => exact hI.1.2.1 _ (by decide) (by decide)
    | 19, _ => exact hI.1.2.1 _ (by decide) (by decide)
    | 20, _ => exact hI.1.2.1 _ (by decide) (by decide)
    | 21, _ => exact hI.1.2.1 _ (by decide) (by decide)
    | 22, _ => exact hI.1.2.1 _ (by decide) (by decide)
    | 23, _ => exact hI.1.2.1 _ (by decide) (by decide)
    | 24, _ => exact hI.1.2.1 _ (by decide) (by decide)
    | 25, _ => exact hI.1.2.1 _ (by decide) (by decide)
    | n + 26, h => exact absurd h (by omega)
theorem am_LbM2 (hc : am_isM c) (hl : am_LN (c + 2) l) (hx : am_ib l x) : -2147483648 ≤ am_at l x ∧ am_at l x ≤ 2147483647 := by
  rcases hc with rfl | ⟨i, hi, rfl⟩
  · exact am_LN.at hl hx
  · match i, hi with
    | 0, _ => exact am_LN.at hl hx
    | 1, _ => exact am_LN.at hl hx
    | 2, _ => exact am_LN.at hl hx
    | 3, _ => exact am_LN.at hl hx
    | 4, _ => exact am_LN.at hl hx
    | 5, _ => exact am_LN.at hl hx
    | 6, _ => exact am_LN.at hl hx
    | 7, _ => exact am_LN.at hl hx
    | 8, _ => exact am_LN.at hl hx
    | 9, _ => exact am_LN.at hl hx
    | 10, _ => exact am_LN.at hl hx
    | 11, _ => exact am_LN.at hl hx
    | 12, _ => exact am_LN.at hl hx
    | 13, _ => exact am_LN.at hl hx
    | 14, _ => exact am_LN.at hl hx
    | 15, _ => exact am_LN.at hl hx
    | 16, _ => exact am_LN.at hl hx
    | 17, _ => exact am_LN.at hl hx
    | 18, _ => exact am_LN.at hl hx
    | 19, _ => exact am_LN.at hl hx
    | 20, _ => exact am_LN.at hl hx
    | 21, _ => exact am_LN.at hl hx
    | 22, _ => exact am_LN.at hl hx
    | 23, _ => exact am_LN.at hl hx
    | 24, _ => exact am_LN.at hl hx
    | 25, _ => exact am_LN.at hl hx
    | n + 26, h => exact absurd h (by omega)
theorem am_LlM2 (hc : am_isM c) (hl : am_LN (c + 2) l) : l.length = 31 := by
  rcases hc with rfl | ⟨i, hi, rfl⟩
  · exact hl.1
  · match i, hi with
    | 0, _ => exact hl.1
    | 1, _ => exact hl.1
    | 2, _ => exact hl.1
    | 3, _ => exact hl.1
    | 4, _ => exact hl.1
    | 5, _ => exact hl.1
    | 6, _ => exact hl.1
    | 7, _ => exact hl.1
    | 8, _ => exact hl.1
    | 9, _ => exact hl.1
    | 10, _ => exact hl.1
    | 11, _ => exact hl.1
    | 12, _ => exact hl.1
    | 13, _ => exact hl.1
    | 14, _ => exact hl.1
    | 15, _ => exact hl.1
    | 16, _ => exact hl.1
    | 17, _ => exact hl.1
    | 18, _ => exact hl.1
    | 19, _ => exact hl.1
    | 20, _ => exact hl.1
    | 21, _ => exact hl.1
    | 22, _ => exact hl.1
    | 23, _ => exact hl.1
    | 24, _ => exact hl.1
    | 25, _ => exact hl.1
    | n + 26, h => exact absurd h (by omega)
theorem am_LSM2 {j : Nat} (hc : am_isM c) (hl : am_LN (c + 2) l) (h1 : -2147483648 ≤ v) (h2 : v ≤ 2147483647) : am_LN (c + 2) (l.set j v) := by
  rcases hc with rfl | ⟨i, hi, rfl⟩
  · exact am_LN.put hl h1 h2
  · match i, hi with
    | 0, _ => exact am_LN.put hl h1 h2
    | 1, _ => exact am_LN.put hl h1 h2
    | 2, _ => exact am_LN.put hl h1 h2
    | 3, _ => exact am_LN.put hl h1 h2
    | 4, _ => exact am_LN.put hl h1 h2
    | 5, _ => exact am_LN.put hl h1 h2
    | 6, _ => exact am_LN.put hl h1 h2
    | 7, _ => exact am_LN.put hl h1 h2
    | 8, _ => exact am_LN.put hl h1 h2
    | 9, _ => exact am_LN.put hl h1 h2
    | 10, _ => exact am_LN.put hl h1 h2
    | 11, _ => exact am_LN.put hl h1 h2
    | 12, _ => exact am_LN.put hl h1 h2
    | 13, _ => exact am_LN.put hl h1 h2
    | 14, _ => exact am_LN.put hl h1 h2
    | 15, _ => exact am_LN.put hl h1 h2
    | 16, _ => exact am_LN.put hl h1 h2
    | 17, _ => exact am_LN.put hl h1 h2
    | 18, _ => exact am_LN.put hl h1 h2
    | 19, _ => exact am_LN.put hl h1 h2
    | 20, _ => exact am_LN.put hl h1 h2
    | 21, _ => exact am_LN.put hl h1 h2
    | 22, _ => exact am_LN.put hl h1 h2
    | 23, _ => exact am_LN.put hl h1 h2
    | 24, _ => exact am_LN.put hl h1 h2
    | 25, _ => exact am_LN.put hl h1 h2
    | n + 26, h => exact absurd h (by omega)
theorem am_IaM2 (hc : am_isM c) (hI : am_IV p g h f a) (hl : am_LN (c + 2) l) : am_IV p g h f (am_ud a (c + 2) l) := by
  rcases hc with rfl | ⟨i, hi, rfl⟩
  · exact ⟨am_Ja (by decide) hI.1 hl, hI.2⟩
  · match i, hi with
    | 0, _ => exact ⟨am_Ja (by decide) hI.1 hl, hI.2⟩
    | 1, _ => exact ⟨am_Ja (by decide) hI.1 hl, hI.2⟩
    | 2, _ => exact ⟨am_Ja (by decide) hI.1 hl, hI.2⟩
    | 3, _ => exact ⟨am_Ja (by decide) hI.1 hl, hI.2⟩
    | 4, _ => exact ⟨am_Ja (by decide) hI.1 hl, hI.2⟩
    | 5, _ => exact ⟨am_Ja (by decide) hI.1 hl, hI.2⟩
    | 6, _ => exact ⟨am_Ja (by decide) hI.1 hl, hI.2⟩
    | 7, _ => exact ⟨am_Ja (by decide) hI.1 hl, hI.2⟩
    | 8, _ => exact ⟨am_Ja (by decide) hI.1 hl, hI.2⟩
    | 9, _ => exact ⟨am_Ja (by decide) hI.1 hl, hI.2⟩
    | 10, _ => exact ⟨am_Ja (by decide) hI.1 hl, hI.2⟩
    | 11, _ => exact ⟨am_Ja (by decide) hI.1 hl, hI.2⟩
    | 12, _ => exact ⟨am_Ja (by decide) hI.1 hl, hI.2⟩
    | 13, _ => exact ⟨am_Ja (by decide) hI.1 hl, hI.2⟩
    | 14, _ => exact ⟨am_Ja (by decide) hI.1 hl, hI.2⟩
    | 15, _ => exact ⟨am_Ja (by decide) hI.1 hl, hI.2⟩
    | 16, _ => exact ⟨am_Ja (by decide) hI.1 hl, hI.2⟩
    | 17, _ => exact ⟨am_Ja (by decide) hI.1 hl, hI.2⟩
    | 18, _ => exact ⟨am_Ja (by decide) hI.1 hl, hI.2⟩
    | 19, _ => exact ⟨am_Ja (by decide) hI.1 hl, hI.2⟩
    | 20, _ => exact ⟨am_Ja (by decide) hI.1 hl, hI.2⟩
    | 21, _ => exact ⟨am_Ja (by decide) hI.1 hl, hI.2⟩
    | 22, _ => exact ⟨am_Ja (by decide) hI.1 hl, hI.2⟩
    | 23, _ => exact ⟨am_Ja (by decide) hI.1 hl, hI.2⟩
    | 24, _ => exact ⟨am_Ja (by decide) hI.1 hl, hI.2⟩
    | 25, _ => exact ⟨am_Ja (by decide) hI.1 hl, hI.2⟩
    | n + 26, h => exact absurd h (by omega)
end AmInv
