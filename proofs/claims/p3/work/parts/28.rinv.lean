/-! THE INVARIANT OF THE REFERENCE (by program: wip/p2/rinv.py) -/
def am_rl (k : Nat) : Int := bif Nat.beq k 11701 then 0 else bif Nat.beq k 11702 then 0 else bif Nat.beq k 11703 then 0 else bif Nat.beq k 11709 then 0 else bif Nat.beq k 11713 then 0 else bif Nat.beq k 11718 then 0 else bif Nat.beq k 11723 then 0 else bif Nat.beq k 11724 then 0 else bif Nat.beq k 11740 then 0 else bif Nat.beq k 11741 then 0 else bif Nat.beq k 11750 then 0 else bif Nat.beq k 11753 then 0 else bif Nat.beq k 11755 then 0 else bif Nat.beq k 11757 then 0 else bif Nat.beq k 11763 then 0 else -2147483648
def am_rh (k : Nat) : Int := bif Nat.beq k 11701 then 3 else bif Nat.beq k 11702 then 2000 else bif Nat.beq k 11703 then 2361 else bif Nat.beq k 11709 then 722 else bif Nat.beq k 11713 then 16 else bif Nat.beq k 11718 then 16 else bif Nat.beq k 11723 then 1 else bif Nat.beq k 11724 then 25 else bif Nat.beq k 11740 then 1 else bif Nat.beq k 11741 then 60 else bif Nat.beq k 11750 then 199 else bif Nat.beq k 11753 then 2800 else bif Nat.beq k 11755 then 2600 else bif Nat.beq k 11757 then 200 else bif Nat.beq k 11763 then 2000 else 2147483647
def am_ar (k : Nat) : Nat := bif Nat.beq k 119 then 360 else bif Nat.beq k 120 then 1200 else bif Nat.beq k 121 then 26 else bif Nat.beq k 122 then 26 else bif Nat.beq k 123 then 26 else bif Nat.beq k 124 then 20 else bif Nat.beq k 125 then 20 else bif Nat.beq k 126 then 20 else bif Nat.beq k 127 then 20 else bif Nat.beq k 128 then 20 else bif Nat.beq k 129 then 20 else bif Nat.beq k 130 then 20 else bif Nat.beq k 131 then 20 else bif Nat.beq k 132 then 26 else bif Nat.beq k 133 then 26 else bif Nat.beq k 134 then 810 else bif Nat.beq k 135 then 810 else bif Nat.beq k 136 then 27 else bif Nat.beq k 137 then 27 else bif Nat.beq k 138 then 27 else bif Nat.beq k 139 then 27 else bif Nat.beq k 140 then 9 else bif Nat.beq k 141 then 9 else bif Nat.beq k 142 then 9 else bif Nat.beq k 143 then 9 else bif Nat.beq k 144 then 9 else bif Nat.beq k 145 then 64 else bif Nat.beq k 146 then 64 else bif Nat.beq k 147 then 64 else bif Nat.beq k 148 then 64 else bif Nat.beq k 149 then 64 else bif Nat.beq k 150 then 64 else bif Nat.beq k 151 then 64 else bif Nat.beq k 152 then 64 else bif Nat.beq k 153 then 200 else bif Nat.beq k 154 then 200 else bif Nat.beq k 155 then 3200 else bif Nat.beq k 156 then 2600 else bif Nat.beq k 157 then 200 else bif Nat.beq k 158 then 200 else bif Nat.beq k 159 then 200 else bif Nat.beq k 160 then 200 else bif Nat.beq k 161 then 200 else bif Nat.beq k 162 then 2000 else 0
def am_sl_ (k : Nat) : Int := bif Nat.beq k 119 then 0 else bif Nat.beq k 121 then (-1) else bif Nat.beq k 122 then 0 else bif Nat.beq k 123 then 0 else bif Nat.beq k 124 then 0 else bif Nat.beq k 125 then 0 else bif Nat.beq k 126 then 0 else bif Nat.beq k 128 then 0 else bif Nat.beq k 131 then 0 else bif Nat.beq k 136 then 0 else bif Nat.beq k 139 then 0 else bif Nat.beq k 143 then 0 else bif Nat.beq k 144 then 0 else bif Nat.beq k 146 then 0 else bif Nat.beq k 149 then 0 else bif Nat.beq k 150 then 0 else bif Nat.beq k 151 then 0 else bif Nat.beq k 152 then 0 else bif Nat.beq k 153 then 0 else bif Nat.beq k 154 then 0 else bif Nat.beq k 159 then 0 else bif Nat.beq k 160 then 0 else -2147483648
def am_sh_ (k : Nat) : Int := bif Nat.beq k 119 then 255 else bif Nat.beq k 121 then 722 else bif Nat.beq k 122 then 360 else bif Nat.beq k 123 then 1 else bif Nat.beq k 124 then 722 else bif Nat.beq k 125 then 722 else bif Nat.beq k 126 then 25 else bif Nat.beq k 128 then 25 else bif Nat.beq k 131 then 1 else bif Nat.beq k 136 then 30 else bif Nat.beq k 139 then 1 else bif Nat.beq k 143 then 1 else bif Nat.beq k 144 then 1 else bif Nat.beq k 146 then 25 else bif Nat.beq k 149 then 2800 else bif Nat.beq k 150 then 2600 else bif Nat.beq k 151 then 200 else bif Nat.beq k 152 then 200 else bif Nat.beq k 153 then 2800 else bif Nat.beq k 154 then 400 else bif Nat.beq k 159 then 2000 else bif Nat.beq k 160 then 2000 else 2147483647
def am_LR (k : Nat) (l : List Int) : Prop := l.length = am_ar k ∧ ∀ x ∈ l, am_sl_ k ≤ x ∧ x ≤ am_sh_ k
/-- what is left of the texts that are being read -/
def am_lf (p e : List Int) : Nat → Int
  | 0 => 0
  | n + 1 => am_lf p e n + (am_at e ((n : Int) + 1) - am_at p ((n : Int) + 1))
/-- what was read, the texts' cost put down ahead -/
def am_ph (f : aF) (a : aA) : Int := am_at (a 124) 0 + f 11703 - am_lf (a 124) (a 125) (f 11713).toNat
def am_JR (g : aF) (h : aA) (f : aF) (a : aA) : Prop :=
  (∀ k, 11701 ≤ k → k < 11764 → k ≠ 11707 → am_rl k ≤ f k ∧ f k ≤ am_rh k) ∧ (∀ k, 119 ≤ k → k < 163 → am_LR k (a k)) ∧
  (∀ k, (k < 11701 ∨ k = 11707 ∨ 11764 ≤ k) → f k = g k) ∧ (∀ k, (k < 120 ∨ 163 ≤ k) → a k = h k)
def am_PV (g : aF) (h : aA) (f : aF) (a : aA) : Prop :=
  am_JR g h f a ∧ am_R3 64 3200 (a 149) (a 150) ∧ am_R3 (f 11757) (f 11763) (a 159) (a 160)
def am_q2 (n u : Int) (p e : List Int) : Prop := ∀ j : Int, 0 ≤ j → j ≤ n → am_at p j ≤ am_at e j ∧ am_at e j ≤ u
def am_q11 (u : Int) (s l : List Int) : Prop := ∀ i : Int, 0 ≤ i → i < 26 → 0 ≤ am_at s i → am_at s i + am_at l i ≤ u
def am_RQ (f : aF) (a : aA) : Prop :=
  f 11718 + f 11713 ≤ 16 ∧ am_q2 (f 11713) (f 11709) (a 124) (a 125) ∧ f 11753 ≤ am_ph f a ∧
  (f 11701 = 0 → ∀ i : Int, 0 ≤ i → i < f 11709 → 0 ≤ am_at (a 120) i) ∧ (f 11701 = 0 → f 11703 ≤ f 11702) ∧
  (f 11701 = 0 → f 11709 ≤ am_at (a 125) 0 + am_at (a 124) 0) ∧ (f 11701 = 0 → 6 * f 11741 ≤ am_at (a 124) 0) ∧
  (f 11701 = 0 → 2 * f 11750 ≤ am_at (a 124) 0) ∧ am_q11 (f 11709) (a 121) (a 122) ∧ am_at (a 125) 0 ≤ 360
def am_RV (g : aF) (h : aA) (f : aF) (a : aA) : Prop := am_PV g h f a ∧ am_RQ f a
/-- what peek shows -/
def am_pk (f : aF) (a : aA) : Int := if f 11701 ≠ 0 ∨ am_at (a 124) (f 11713) = am_at (a 125) (f 11713) then -1 else am_at (a 120) (am_at (a 124) (f 11713))
def am_PK (b : Int) (f : aF) (a : aA) : Prop := (b < 0 → f 11701 ≠ 0 ∨ am_at (a 124) (f 11713) = am_at (a 125) (f 11713)) ∧ (0 ≤ b → f 11701 = 0 ∧ am_at (a 124) (f 11713) < am_at (a 125) (f 11713))
theorem am_PK.ok {b : Int} {f : aF} {a : aA} (h : am_PK b f a) (hb : 0 ≤ b) : f 11701 = 0 ∧ am_at (a 124) (f 11713) < am_at (a 125) (f 11713) := h.2 hb
theorem am_PK.no {b : Int} {f : aF} {a : aA} (h : am_PK b f a) (hb : b < 0) (hs : f 11701 = 0) : am_at (a 124) (f 11713) = am_at (a 125) (f 11713) := (h.1 hb).resolve_left (fun z => z hs)
/-- it goes on: a halt stays, what was read grows -/
def am_mn (f : aF) (a : aA) (f1 : aF) (a1 : aA) : Prop :=
  f 11701 ≤ f1 11701 ∧ am_ph f a ≤ am_ph f1 a1 ∧ am_at (a 124) 0 ≤ am_at (a1 124) 0 ∧ am_at (a1 125) 0 = am_at (a 125) 0
/-- what reading leaves -/
def am_fr (f : aF) (a : aA) (f1 : aF) (a1 : aA) : Prop :=
  (∀ k, (Nat.beq k 11701 || Nat.beq k 11703 || Nat.beq k 11713) = false → f1 k = f k) ∧
  (∀ k, (Nat.ble 123 k && Nat.ble k 127) = false → a1 k = a k)
def am_mo (f : aF) (a : aA) (f1 : aF) (a1 : aA) : Prop := am_mn f a f1 a1 ∧ am_fr f a f1 a1
section AmRInv
variable {g : aF} {h : aA} {f f1 f2 : aF} {a a1 a2 : aA} {k c : Nat} {v x i : Int} {l p e p1 e1 : List Int}
theorem am_mn.refl (f : aF) (a : aA) : am_mn f a f a := ⟨Int.le_refl _, Int.le_refl _, Int.le_refl _, rfl⟩
theorem am_mn.trans (h1 : am_mn f a f1 a1) (h2 : am_mn f1 a1 f2 a2) : am_mn f a f2 a2 := ⟨Int.le_trans h1.1 h2.1, Int.le_trans h1.2.1 h2.2.1, Int.le_trans h1.2.2.1 h2.2.2.1, h2.2.2.2.trans h1.2.2.2⟩
theorem am_at_self (hi : am_ib l x) : am_at (l.set x.toNat v) x = v := by rw [am_at_set hi, if_pos rfl]
theorem am_mn_a (h4 : Nat.beq 124 k = false) (h5 : Nat.beq 125 k = false) (hm : am_mn f a f1 a1) : am_mn f a f1 (am_ud a1 k l) := by
  have e4 : am_ud a1 k l 124 = a1 124 := by unfold am_ud; rw [h4]; rfl
  have e5 : am_ud a1 k l 125 = a1 125 := by unfold am_ud; rw [h5]; rfl
  unfold am_mn am_ph
  rw [e4, e5]
  exact hm
theorem am_mn_f (h1 : Nat.beq 11701 k = false) (h3 : Nat.beq 11703 k = false) (h4 : Nat.beq 11713 k = false) (hm : am_mn f a f1 a1) : am_mn f a (am_ud f1 k v) a1 := by
  have e1 : am_ud f1 k v 11701 = f1 11701 := by unfold am_ud; rw [h1]; rfl
  have e3 : am_ud f1 k v 11703 = f1 11703 := by unfold am_ud; rw [h3]; rfl
  have e4 : am_ud f1 k v 11713 = f1 11713 := by unfold am_ud; rw [h4]; rfl
  unfold am_mn am_ph
  rw [e1, e3, e4]
  exact hm
theorem am_fr.refl (f : aF) (a : aA) : am_fr f a f a := ⟨fun _ _ => rfl, fun _ _ => rfl⟩
theorem am_fr.trans (h1 : am_fr f a f1 a1) (h2 : am_fr f1 a1 f2 a2) : am_fr f a f2 a2 := ⟨fun k q => (h2.1 k q).trans (h1.1 k q), fun k q => (h2.2 k q).trans (h1.2 k q)⟩
theorem am_mo.refl (f : aF) (a : aA) : am_mo f a f a := ⟨am_mn.refl f a, am_fr.refl f a⟩
theorem am_mo.trans (h1 : am_mo f a f1 a1) (h2 : am_mo f1 a1 f2 a2) : am_mo f a f2 a2 := ⟨h1.1.trans h2.1, h1.2.trans h2.2⟩
theorem am_fr_f (h1 : am_fr f a f1 a1) (hk : (Nat.beq k 11701 || Nat.beq k 11703 || Nat.beq k 11713) = true) : am_fr f a (am_ud f1 k v) a1 := by
  refine ⟨fun j hj => ?_, h1.2⟩
  rw [am_ud_ne _ _ (by intro q; subst q; rw [hk] at hj; exact absurd hj (by decide))]
  exact h1.1 j hj
theorem am_fr_a (h1 : am_fr f a f1 a1) (hk : (Nat.ble 123 k && Nat.ble k 127) = true) : am_fr f a f1 (am_ud a1 k l) := by
  refine ⟨h1.1, fun j hj => ?_⟩
  rw [am_ud_ne _ _ (by intro q; subst q; rw [hk] at hj; exact absurd hj (by decide))]
  exact h1.2 j hj
theorem am_lf_same {m : Nat} (hs : ∀ j : Int, 1 ≤ j → j ≤ m → am_at p1 j = am_at p j ∧ am_at e1 j = am_at e j) : am_lf p1 e1 m = am_lf p e m := by
  induction m with
  | zero => rfl
  | succ m ih =>
    unfold am_lf
    have := hs ((m : Int) + 1) (by omega) (by omega)
    rw [ih (fun j h1 h2 => hs j h1 (by omega)), this.1, this.2]
theorem am_lf_nn {m : Nat} (hs : ∀ j : Int, 1 ≤ j → j ≤ m → am_at p j ≤ am_at e j) : 0 ≤ am_lf p e m := by
  induction m with
  | zero => exact Int.le_refl 0
  | succ m ih =>
    unfold am_lf
    have := hs ((m : Int) + 1) (by omega) (by omega)
    have := ih (fun j h1 h2 => hs j h1 (by omega))
    omega
theorem am_lf_last (hx : 1 ≤ x) : am_lf p e x.toNat = am_lf p e (x - 1).toNat + (am_at e x - am_at p x) := by
  obtain ⟨m, rfl⟩ : ∃ m : Nat, x = (m : Int) + 1 := ⟨(x - 1).toNat, by omega⟩
  rw [show ((m : Int) + 1).toNat = m + 1 by omega, show ((m : Int) + 1 - 1).toNat = m by omega]
  rfl
theorem am_JRf (hk : 11701 ≤ k ∧ k < 11764 ∧ k ≠ 11707) (hJ : am_JR g h f a) (h1 : am_rl k ≤ v) (h2 : v ≤ am_rh k) : am_JR g h (am_ud f k v) a := by
  refine ⟨fun j hj1 hj2 hj3 => ?_, hJ.2.1, fun j hj => ?_, hJ.2.2.2⟩
  · by_cases he : j = k
    · subst he; rw [am_ud_eq]; exact ⟨h1, h2⟩
    · rw [am_ud_ne _ _ he]; exact hJ.1 j hj1 hj2 hj3
  · rw [am_ud_ne _ _ (by omega)]; exact hJ.2.2.1 j hj
theorem am_JRa (hk : 120 ≤ k ∧ k < 163) (hJ : am_JR g h f a) (hl : am_LR k l) : am_JR g h f (am_ud a k l) := by
  refine ⟨hJ.1, fun j hj1 hj2 => ?_, hJ.2.2.1, fun j hj => ?_⟩
  · by_cases he : j = k
    · subst he; rw [am_ud_eq]; exact hl
    · rw [am_ud_ne _ _ he]; exact hJ.2.1 j hj1 hj2
  · rw [am_ud_ne _ _ (by omega)]; exact hJ.2.2.2 j hj
theorem am_LR.at (hl : am_LR k l) (hi : am_ib l x) : am_sl_ k ≤ am_at l x ∧ am_at l x ≤ am_sh_ k := by
  refine hl.2 _ ?_
  unfold am_at
  have h1 := hi.2.1
  have h0 := hi.1
  have h2 : x.toNat < l.length := by omega
  rw [List.getD_eq_getElem?_getD, List.getElem?_eq_getElem h2]
  exact List.getElem_mem h2
theorem am_LR.put (hl : am_LR k l) {j : Nat} (h1 : am_sl_ k ≤ v) (h2 : v ≤ am_sh_ k) : am_LR k (l.set j v) := by
  refine ⟨by rw [List.length_set]; exact hl.1, fun x hx => ?_⟩
  rcases List.mem_or_eq_of_mem_set hx with h | h
  · exact hl.2 x h
  · rw [h]; exact ⟨h1, h2⟩
theorem am_RL (k : Nat) (hk : (Nat.ble 119 k && Nat.blt k 163) = true) (hI : am_JR g h f a) : am_LR k (a k) := by
  rw [Bool.and_eq_true] at hk
  exact hI.2.1 k (Nat.le_of_ble_eq_true hk.1) (Nat.le_of_ble_eq_true hk.2)

theorem am_Rg11701 (hI : am_JR g h f a) : 0 ≤ f 11701 ∧ f 11701 ≤ 3 := hI.1 11701 (by decide) (by decide) (by decide)
theorem am_Kf11701 (hI : am_JR g h f a) (h1 : 0 ≤ v) (h2 : v ≤ 3) : am_JR g h (am_ud f 11701 v) a := am_JRf (by decide) hI h1 h2
theorem am_Rg11702 (hI : am_JR g h f a) : 0 ≤ f 11702 ∧ f 11702 ≤ 2000 := hI.1 11702 (by decide) (by decide) (by decide)
theorem am_Kf11702 (hI : am_JR g h f a) (h1 : 0 ≤ v) (h2 : v ≤ 2000) : am_JR g h (am_ud f 11702 v) a := am_JRf (by decide) hI h1 h2
theorem am_Rg11703 (hI : am_JR g h f a) : 0 ≤ f 11703 ∧ f 11703 ≤ 2361 := hI.1 11703 (by decide) (by decide) (by decide)
theorem am_Kf11703 (hI : am_JR g h f a) (h1 : 0 ≤ v) (h2 : v ≤ 2361) : am_JR g h (am_ud f 11703 v) a := am_JRf (by decide) hI h1 h2
theorem am_Rg11704 (hI : am_JR g h f a) : (-2147483648) ≤ f 11704 ∧ f 11704 ≤ 2147483647 := hI.1 11704 (by decide) (by decide) (by decide)
theorem am_Rf11704 (hI : am_RV g h f a) (h1 : (-2147483648) ≤ v) (h2 : v ≤ 2147483647) : am_RV g h (am_ud f 11704 v) a := ⟨⟨am_JRf (by decide) hI.1.1 h1 h2, hI.1.2⟩, hI.2⟩
theorem am_Kf11704 (hI : am_JR g h f a) (h1 : (-2147483648) ≤ v) (h2 : v ≤ 2147483647) : am_JR g h (am_ud f 11704 v) a := am_JRf (by decide) hI h1 h2
theorem am_Rg11709 (hI : am_JR g h f a) : 0 ≤ f 11709 ∧ f 11709 ≤ 722 := hI.1 11709 (by decide) (by decide) (by decide)
theorem am_Kf11709 (hI : am_JR g h f a) (h1 : 0 ≤ v) (h2 : v ≤ 722) : am_JR g h (am_ud f 11709 v) a := am_JRf (by decide) hI h1 h2
theorem am_Rg11713 (hI : am_JR g h f a) : 0 ≤ f 11713 ∧ f 11713 ≤ 16 := hI.1 11713 (by decide) (by decide) (by decide)
theorem am_Kf11713 (hI : am_JR g h f a) (h1 : 0 ≤ v) (h2 : v ≤ 16) : am_JR g h (am_ud f 11713 v) a := am_JRf (by decide) hI h1 h2
theorem am_Rg11718 (hI : am_JR g h f a) : 0 ≤ f 11718 ∧ f 11718 ≤ 16 := hI.1 11718 (by decide) (by decide) (by decide)
theorem am_Kf11718 (hI : am_JR g h f a) (h1 : 0 ≤ v) (h2 : v ≤ 16) : am_JR g h (am_ud f 11718 v) a := am_JRf (by decide) hI h1 h2
theorem am_Rg11723 (hI : am_JR g h f a) : 0 ≤ f 11723 ∧ f 11723 ≤ 1 := hI.1 11723 (by decide) (by decide) (by decide)
theorem am_Rf11723 (hI : am_RV g h f a) (h1 : 0 ≤ v) (h2 : v ≤ 1) : am_RV g h (am_ud f 11723 v) a := ⟨⟨am_JRf (by decide) hI.1.1 h1 h2, hI.1.2⟩, hI.2⟩
theorem am_Kf11723 (hI : am_JR g h f a) (h1 : 0 ≤ v) (h2 : v ≤ 1) : am_JR g h (am_ud f 11723 v) a := am_JRf (by decide) hI h1 h2
theorem am_Rg11724 (hI : am_JR g h f a) : 0 ≤ f 11724 ∧ f 11724 ≤ 25 := hI.1 11724 (by decide) (by decide) (by decide)
theorem am_Rf11724 (hI : am_RV g h f a) (h1 : 0 ≤ v) (h2 : v ≤ 25) : am_RV g h (am_ud f 11724 v) a := ⟨⟨am_JRf (by decide) hI.1.1 h1 h2, hI.1.2⟩, hI.2⟩
theorem am_Kf11724 (hI : am_JR g h f a) (h1 : 0 ≤ v) (h2 : v ≤ 25) : am_JR g h (am_ud f 11724 v) a := am_JRf (by decide) hI h1 h2
theorem am_Rg11738 (hI : am_JR g h f a) : (-2147483648) ≤ f 11738 ∧ f 11738 ≤ 2147483647 := hI.1 11738 (by decide) (by decide) (by decide)
theorem am_Rf11738 (hI : am_RV g h f a) (h1 : (-2147483648) ≤ v) (h2 : v ≤ 2147483647) : am_RV g h (am_ud f 11738 v) a := ⟨⟨am_JRf (by decide) hI.1.1 h1 h2, hI.1.2⟩, hI.2⟩
theorem am_Kf11738 (hI : am_JR g h f a) (h1 : (-2147483648) ≤ v) (h2 : v ≤ 2147483647) : am_JR g h (am_ud f 11738 v) a := am_JRf (by decide) hI h1 h2
theorem am_Rg11739 (hI : am_JR g h f a) : (-2147483648) ≤ f 11739 ∧ f 11739 ≤ 2147483647 := hI.1 11739 (by decide) (by decide) (by decide)
theorem am_Rf11739 (hI : am_RV g h f a) (h1 : (-2147483648) ≤ v) (h2 : v ≤ 2147483647) : am_RV g h (am_ud f 11739 v) a := ⟨⟨am_JRf (by decide) hI.1.1 h1 h2, hI.1.2⟩, hI.2⟩
theorem am_Kf11739 (hI : am_JR g h f a) (h1 : (-2147483648) ≤ v) (h2 : v ≤ 2147483647) : am_JR g h (am_ud f 11739 v) a := am_JRf (by decide) hI h1 h2
theorem am_Rg11740 (hI : am_JR g h f a) : 0 ≤ f 11740 ∧ f 11740 ≤ 1 := hI.1 11740 (by decide) (by decide) (by decide)
theorem am_Rf11740 (hI : am_RV g h f a) (h1 : 0 ≤ v) (h2 : v ≤ 1) : am_RV g h (am_ud f 11740 v) a := ⟨⟨am_JRf (by decide) hI.1.1 h1 h2, hI.1.2⟩, hI.2⟩
theorem am_Kf11740 (hI : am_JR g h f a) (h1 : 0 ≤ v) (h2 : v ≤ 1) : am_JR g h (am_ud f 11740 v) a := am_JRf (by decide) hI h1 h2
theorem am_Rg11741 (hI : am_JR g h f a) : 0 ≤ f 11741 ∧ f 11741 ≤ 60 := hI.1 11741 (by decide) (by decide) (by decide)
theorem am_Kf11741 (hI : am_JR g h f a) (h1 : 0 ≤ v) (h2 : v ≤ 60) : am_JR g h (am_ud f 11741 v) a := am_JRf (by decide) hI h1 h2
theorem am_Rg11750 (hI : am_JR g h f a) : 0 ≤ f 11750 ∧ f 11750 ≤ 199 := hI.1 11750 (by decide) (by decide) (by decide)
theorem am_Kf11750 (hI : am_JR g h f a) (h1 : 0 ≤ v) (h2 : v ≤ 199) : am_JR g h (am_ud f 11750 v) a := am_JRf (by decide) hI h1 h2
theorem am_Rg11753 (hI : am_JR g h f a) : 0 ≤ f 11753 ∧ f 11753 ≤ 2800 := hI.1 11753 (by decide) (by decide) (by decide)
theorem am_Kf11753 (hI : am_JR g h f a) (h1 : 0 ≤ v) (h2 : v ≤ 2800) : am_JR g h (am_ud f 11753 v) a := am_JRf (by decide) hI h1 h2
theorem am_Rg11755 (hI : am_JR g h f a) : 0 ≤ f 11755 ∧ f 11755 ≤ 2600 := hI.1 11755 (by decide) (by decide) (by decide)
theorem am_Rf11755 (hI : am_RV g h f a) (h1 : 0 ≤ v) (h2 : v ≤ 2600) : am_RV g h (am_ud f 11755 v) a := ⟨⟨am_JRf (by decide) hI.1.1 h1 h2, hI.1.2⟩, hI.2⟩
theorem am_Kf11755 (hI : am_JR g h f a) (h1 : 0 ≤ v) (h2 : v ≤ 2600) : am_JR g h (am_ud f 11755 v) a := am_JRf (by decide) hI h1 h2
theorem am_Rg11757 (hI : am_JR g h f a) : 0 ≤ f 11757 ∧ f 11757 ≤ 200 := hI.1 11757 (by decide) (by decide) (by decide)
theorem am_Kf11757 (hI : am_JR g h f a) (h1 : 0 ≤ v) (h2 : v ≤ 200) : am_JR g h (am_ud f 11757 v) a := am_JRf (by decide) hI h1 h2
theorem am_Rg11763 (hI : am_JR g h f a) : 0 ≤ f 11763 ∧ f 11763 ≤ 2000 := hI.1 11763 (by decide) (by decide) (by decide)
theorem am_Kf11763 (hI : am_JR g h f a) (h1 : 0 ≤ v) (h2 : v ≤ 2000) : am_JR g h (am_ud f 11763 v) a := am_JRf (by decide) hI h1 h2
theorem am_Rb119 (hl : am_LR 119 l) (hi : am_ib l x) : 0 ≤ am_at l x ∧ am_at l x ≤ 255 := am_LR.at hl hi
theorem am_Rl119 (hl : am_LR 119 l) : l.length = 360 := hl.1
theorem am_RS119 {j : Nat} (hl : am_LR 119 l) (h1 : 0 ≤ v) (h2 : v ≤ 255) : am_LR 119 (l.set j v) := am_LR.put hl h1 h2
theorem am_Rb120 (hl : am_LR 120 l) (hi : am_ib l x) : (-2147483648) ≤ am_at l x ∧ am_at l x ≤ 2147483647 := am_LR.at hl hi
theorem am_Rl120 (hl : am_LR 120 l) : l.length = 1200 := hl.1
theorem am_RS120 {j : Nat} (hl : am_LR 120 l) (h1 : (-2147483648) ≤ v) (h2 : v ≤ 2147483647) : am_LR 120 (l.set j v) := am_LR.put hl h1 h2
theorem am_Ka120 (hI : am_JR g h f a) (hl : am_LR 120 l) : am_JR g h f (am_ud a 120 l) := am_JRa (by decide) hI hl
theorem am_Rb121 (hl : am_LR 121 l) (hi : am_ib l x) : (-1) ≤ am_at l x ∧ am_at l x ≤ 722 := am_LR.at hl hi
theorem am_Rl121 (hl : am_LR 121 l) : l.length = 26 := hl.1
theorem am_RS121 {j : Nat} (hl : am_LR 121 l) (h1 : (-1) ≤ v) (h2 : v ≤ 722) : am_LR 121 (l.set j v) := am_LR.put hl h1 h2
theorem am_Ka121 (hI : am_JR g h f a) (hl : am_LR 121 l) : am_JR g h f (am_ud a 121 l) := am_JRa (by decide) hI hl
theorem am_Rb122 (hl : am_LR 122 l) (hi : am_ib l x) : 0 ≤ am_at l x ∧ am_at l x ≤ 360 := am_LR.at hl hi
theorem am_Rl122 (hl : am_LR 122 l) : l.length = 26 := hl.1
theorem am_RS122 {j : Nat} (hl : am_LR 122 l) (h1 : 0 ≤ v) (h2 : v ≤ 360) : am_LR 122 (l.set j v) := am_LR.put hl h1 h2
theorem am_Ka122 (hI : am_JR g h f a) (hl : am_LR 122 l) : am_JR g h f (am_ud a 122 l) := am_JRa (by decide) hI hl
theorem am_Rb123 (hl : am_LR 123 l) (hi : am_ib l x) : 0 ≤ am_at l x ∧ am_at l x ≤ 1 := am_LR.at hl hi
theorem am_Rl123 (hl : am_LR 123 l) : l.length = 26 := hl.1
theorem am_RS123 {j : Nat} (hl : am_LR 123 l) (h1 : 0 ≤ v) (h2 : v ≤ 1) : am_LR 123 (l.set j v) := am_LR.put hl h1 h2
theorem am_Ra123 (hI : am_RV g h f a) (hl : am_LR 123 l) : am_RV g h f (am_ud a 123 l) := ⟨⟨am_JRa (by decide) hI.1.1 hl, hI.1.2⟩, hI.2⟩
theorem am_Ka123 (hI : am_JR g h f a) (hl : am_LR 123 l) : am_JR g h f (am_ud a 123 l) := am_JRa (by decide) hI hl
theorem am_Rb124 (hl : am_LR 124 l) (hi : am_ib l x) : 0 ≤ am_at l x ∧ am_at l x ≤ 722 := am_LR.at hl hi
theorem am_Rl124 (hl : am_LR 124 l) : l.length = 20 := hl.1
theorem am_RS124 {j : Nat} (hl : am_LR 124 l) (h1 : 0 ≤ v) (h2 : v ≤ 722) : am_LR 124 (l.set j v) := am_LR.put hl h1 h2
theorem am_Ka124 (hI : am_JR g h f a) (hl : am_LR 124 l) : am_JR g h f (am_ud a 124 l) := am_JRa (by decide) hI hl
theorem am_Rb125 (hl : am_LR 125 l) (hi : am_ib l x) : 0 ≤ am_at l x ∧ am_at l x ≤ 722 := am_LR.at hl hi
theorem am_Rl125 (hl : am_LR 125 l) : l.length = 20 := hl.1
theorem am_RS125 {j : Nat} (hl : am_LR 125 l) (h1 : 0 ≤ v) (h2 : v ≤ 722) : am_LR 125 (l.set j v) := am_LR.put hl h1 h2
theorem am_Ka125 (hI : am_JR g h f a) (hl : am_LR 125 l) : am_JR g h f (am_ud a 125 l) := am_JRa (by decide) hI hl
theorem am_Rb126 (hl : am_LR 126 l) (hi : am_ib l x) : 0 ≤ am_at l x ∧ am_at l x ≤ 25 := am_LR.at hl hi
theorem am_Rl126 (hl : am_LR 126 l) : l.length = 20 := hl.1
theorem am_RS126 {j : Nat} (hl : am_LR 126 l) (h1 : 0 ≤ v) (h2 : v ≤ 25) : am_LR 126 (l.set j v) := am_LR.put hl h1 h2
theorem am_Ra126 (hI : am_RV g h f a) (hl : am_LR 126 l) : am_RV g h f (am_ud a 126 l) := ⟨⟨am_JRa (by decide) hI.1.1 hl, hI.1.2⟩, hI.2⟩
theorem am_Ka126 (hI : am_JR g h f a) (hl : am_LR 126 l) : am_JR g h f (am_ud a 126 l) := am_JRa (by decide) hI hl
theorem am_Rb127 (hl : am_LR 127 l) (hi : am_ib l x) : (-2147483648) ≤ am_at l x ∧ am_at l x ≤ 2147483647 := am_LR.at hl hi
theorem am_Rl127 (hl : am_LR 127 l) : l.length = 20 := hl.1
theorem am_RS127 {j : Nat} (hl : am_LR 127 l) (h1 : (-2147483648) ≤ v) (h2 : v ≤ 2147483647) : am_LR 127 (l.set j v) := am_LR.put hl h1 h2
theorem am_Ra127 (hI : am_RV g h f a) (hl : am_LR 127 l) : am_RV g h f (am_ud a 127 l) := ⟨⟨am_JRa (by decide) hI.1.1 hl, hI.1.2⟩, hI.2⟩
theorem am_Ka127 (hI : am_JR g h f a) (hl : am_LR 127 l) : am_JR g h f (am_ud a 127 l) := am_JRa (by decide) hI hl
theorem am_Rb128 (hl : am_LR 128 l) (hi : am_ib l x) : 0 ≤ am_at l x ∧ am_at l x ≤ 25 := am_LR.at hl hi
theorem am_Rl128 (hl : am_LR 128 l) : l.length = 20 := hl.1
theorem am_RS128 {j : Nat} (hl : am_LR 128 l) (h1 : 0 ≤ v) (h2 : v ≤ 25) : am_LR 128 (l.set j v) := am_LR.put hl h1 h2
theorem am_Ra128 (hI : am_RV g h f a) (hl : am_LR 128 l) : am_RV g h f (am_ud a 128 l) := ⟨⟨am_JRa (by decide) hI.1.1 hl, hI.1.2⟩, hI.2⟩
theorem am_Ka128 (hI : am_JR g h f a) (hl : am_LR 128 l) : am_JR g h f (am_ud a 128 l) := am_JRa (by decide) hI hl
theorem am_Rb129 (hl : am_LR 129 l) (hi : am_ib l x) : (-2147483648) ≤ am_at l x ∧ am_at l x ≤ 2147483647 := am_LR.at hl hi
theorem am_Rl129 (hl : am_LR 129 l) : l.length = 20 := hl.1
theorem am_RS129 {j : Nat} (hl : am_LR 129 l) (h1 : (-2147483648) ≤ v) (h2 : v ≤ 2147483647) : am_LR 129 (l.set j v) := am_LR.put hl h1 h2
theorem am_Ra129 (hI : am_RV g h f a) (hl : am_LR 129 l) : am_RV g h f (am_ud a 129 l) := ⟨⟨am_JRa (by decide) hI.1.1 hl, hI.1.2⟩, hI.2⟩
theorem am_Ka129 (hI : am_JR g h f a) (hl : am_LR 129 l) : am_JR g h f (am_ud a 129 l) := am_JRa (by decide) hI hl
theorem am_Rb130 (hl : am_LR 130 l) (hi : am_ib l x) : (-2147483648) ≤ am_at l x ∧ am_at l x ≤ 2147483647 := am_LR.at hl hi
theorem am_Rl130 (hl : am_LR 130 l) : l.length = 20 := hl.1
theorem am_RS130 {j : Nat} (hl : am_LR 130 l) (h1 : (-2147483648) ≤ v) (h2 : v ≤ 2147483647) : am_LR 130 (l.set j v) := am_LR.put hl h1 h2
theorem am_Ra130 (hI : am_RV g h f a) (hl : am_LR 130 l) : am_RV g h f (am_ud a 130 l) := ⟨⟨am_JRa (by decide) hI.1.1 hl, hI.1.2⟩, hI.2⟩
theorem am_Ka130 (hI : am_JR g h f a) (hl : am_LR 130 l) : am_JR g h f (am_ud a 130 l) := am_JRa (by decide) hI hl
theorem am_Rb131 (hl : am_LR 131 l) (hi : am_ib l x) : 0 ≤ am_at l x ∧ am_at l x ≤ 1 := am_LR.at hl hi
theorem am_Rl131 (hl : am_LR 131 l) : l.length = 20 := hl.1
theorem am_RS131 {j : Nat} (hl : am_LR 131 l) (h1 : 0 ≤ v) (h2 : v ≤ 1) : am_LR 131 (l.set j v) := am_LR.put hl h1 h2
theorem am_Ra131 (hI : am_RV g h f a) (hl : am_LR 131 l) : am_RV g h f (am_ud a 131 l) := ⟨⟨am_JRa (by decide) hI.1.1 hl, hI.1.2⟩, hI.2⟩
theorem am_Ka131 (hI : am_JR g h f a) (hl : am_LR 131 l) : am_JR g h f (am_ud a 131 l) := am_JRa (by decide) hI hl
theorem am_Rb132 (hl : am_LR 132 l) (hi : am_ib l x) : (-2147483648) ≤ am_at l x ∧ am_at l x ≤ 2147483647 := am_LR.at hl hi
theorem am_Rl132 (hl : am_LR 132 l) : l.length = 26 := hl.1
theorem am_RS132 {j : Nat} (hl : am_LR 132 l) (h1 : (-2147483648) ≤ v) (h2 : v ≤ 2147483647) : am_LR 132 (l.set j v) := am_LR.put hl h1 h2
theorem am_Ra132 (hI : am_RV g h f a) (hl : am_LR 132 l) : am_RV g h f (am_ud a 132 l) := ⟨⟨am_JRa (by decide) hI.1.1 hl, hI.1.2⟩, hI.2⟩
theorem am_Ka132 (hI : am_JR g h f a) (hl : am_LR 132 l) : am_JR g h f (am_ud a 132 l) := am_JRa (by decide) hI hl
theorem am_Rb133 (hl : am_LR 133 l) (hi : am_ib l x) : (-2147483648) ≤ am_at l x ∧ am_at l x ≤ 2147483647 := am_LR.at hl hi
theorem am_Rl133 (hl : am_LR 133 l) : l.length = 26 := hl.1
theorem am_RS133 {j : Nat} (hl : am_LR 133 l) (h1 : (-2147483648) ≤ v) (h2 : v ≤ 2147483647) : am_LR 133 (l.set j v) := am_LR.put hl h1 h2
theorem am_Ra133 (hI : am_RV g h f a) (hl : am_LR 133 l) : am_RV g h f (am_ud a 133 l) := ⟨⟨am_JRa (by decide) hI.1.1 hl, hI.1.2⟩, hI.2⟩
theorem am_Ka133 (hI : am_JR g h f a) (hl : am_LR 133 l) : am_JR g h f (am_ud a 133 l) := am_JRa (by decide) hI hl
theorem am_Rb134 (hl : am_LR 134 l) (hi : am_ib l x) : (-2147483648) ≤ am_at l x ∧ am_at l x ≤ 2147483647 := am_LR.at hl hi
theorem am_Rl134 (hl : am_LR 134 l) : l.length = 810 := hl.1
theorem am_RS134 {j : Nat} (hl : am_LR 134 l) (h1 : (-2147483648) ≤ v) (h2 : v ≤ 2147483647) : am_LR 134 (l.set j v) := am_LR.put hl h1 h2
theorem am_Ra134 (hI : am_RV g h f a) (hl : am_LR 134 l) : am_RV g h f (am_ud a 134 l) := ⟨⟨am_JRa (by decide) hI.1.1 hl, hI.1.2⟩, hI.2⟩
theorem am_Ka134 (hI : am_JR g h f a) (hl : am_LR 134 l) : am_JR g h f (am_ud a 134 l) := am_JRa (by decide) hI hl
theorem am_Rb135 (hl : am_LR 135 l) (hi : am_ib l x) : (-2147483648) ≤ am_at l x ∧ am_at l x ≤ 2147483647 := am_LR.at hl hi
theorem am_Rl135 (hl : am_LR 135 l) : l.length = 810 := hl.1
theorem am_RS135 {j : Nat} (hl : am_LR 135 l) (h1 : (-2147483648) ≤ v) (h2 : v ≤ 2147483647) : am_LR 135 (l.set j v) := am_LR.put hl h1 h2
theorem am_Ra135 (hI : am_RV g h f a) (hl : am_LR 135 l) : am_RV g h f (am_ud a 135 l) := ⟨⟨am_JRa (by decide) hI.1.1 hl, hI.1.2⟩, hI.2⟩
theorem am_Ka135 (hI : am_JR g h f a) (hl : am_LR 135 l) : am_JR g h f (am_ud a 135 l) := am_JRa (by decide) hI hl
theorem am_Rb136 (hl : am_LR 136 l) (hi : am_ib l x) : 0 ≤ am_at l x ∧ am_at l x ≤ 30 := am_LR.at hl hi
theorem am_Rl136 (hl : am_LR 136 l) : l.length = 27 := hl.1
theorem am_RS136 {j : Nat} (hl : am_LR 136 l) (h1 : 0 ≤ v) (h2 : v ≤ 30) : am_LR 136 (l.set j v) := am_LR.put hl h1 h2
theorem am_Ra136 (hI : am_RV g h f a) (hl : am_LR 136 l) : am_RV g h f (am_ud a 136 l) := ⟨⟨am_JRa (by decide) hI.1.1 hl, hI.1.2⟩, hI.2⟩
theorem am_Ka136 (hI : am_JR g h f a) (hl : am_LR 136 l) : am_JR g h f (am_ud a 136 l) := am_JRa (by decide) hI hl
theorem am_Rb137 (hl : am_LR 137 l) (hi : am_ib l x) : (-2147483648) ≤ am_at l x ∧ am_at l x ≤ 2147483647 := am_LR.at hl hi
theorem am_Rl137 (hl : am_LR 137 l) : l.length = 27 := hl.1
theorem am_RS137 {j : Nat} (hl : am_LR 137 l) (h1 : (-2147483648) ≤ v) (h2 : v ≤ 2147483647) : am_LR 137 (l.set j v) := am_LR.put hl h1 h2
theorem am_Ra137 (hI : am_RV g h f a) (hl : am_LR 137 l) : am_RV g h f (am_ud a 137 l) := ⟨⟨am_JRa (by decide) hI.1.1 hl, hI.1.2⟩, hI.2⟩
theorem am_Ka137 (hI : am_JR g h f a) (hl : am_LR 137 l) : am_JR g h f (am_ud a 137 l) := am_JRa (by decide) hI hl
theorem am_Rb138 (hl : am_LR 138 l) (hi : am_ib l x) : (-2147483648) ≤ am_at l x ∧ am_at l x ≤ 2147483647 := am_LR.at hl hi
theorem am_Rl138 (hl : am_LR 138 l) : l.length = 27 := hl.1
theorem am_RS138 {j : Nat} (hl : am_LR 138 l) (h1 : (-2147483648) ≤ v) (h2 : v ≤ 2147483647) : am_LR 138 (l.set j v) := am_LR.put hl h1 h2
theorem am_Ra138 (hI : am_RV g h f a) (hl : am_LR 138 l) : am_RV g h f (am_ud a 138 l) := ⟨⟨am_JRa (by decide) hI.1.1 hl, hI.1.2⟩, hI.2⟩
theorem am_Ka138 (hI : am_JR g h f a) (hl : am_LR 138 l) : am_JR g h f (am_ud a 138 l) := am_JRa (by decide) hI hl
theorem am_Rb139 (hl : am_LR 139 l) (hi : am_ib l x) : 0 ≤ am_at l x ∧ am_at l x ≤ 1 := am_LR.at hl hi
theorem am_Rl139 (hl : am_LR 139 l) : l.length = 27 := hl.1
theorem am_RS139 {j : Nat} (hl : am_LR 139 l) (h1 : 0 ≤ v) (h2 : v ≤ 1) : am_LR 139 (l.set j v) := am_LR.put hl h1 h2
theorem am_Ra139 (hI : am_RV g h f a) (hl : am_LR 139 l) : am_RV g h f (am_ud a 139 l) := ⟨⟨am_JRa (by decide) hI.1.1 hl, hI.1.2⟩, hI.2⟩
theorem am_Ka139 (hI : am_JR g h f a) (hl : am_LR 139 l) : am_JR g h f (am_ud a 139 l) := am_JRa (by decide) hI hl
theorem am_Rb140 (hl : am_LR 140 l) (hi : am_ib l x) : (-2147483648) ≤ am_at l x ∧ am_at l x ≤ 2147483647 := am_LR.at hl hi
theorem am_Rl140 (hl : am_LR 140 l) : l.length = 9 := hl.1
theorem am_RS140 {j : Nat} (hl : am_LR 140 l) (h1 : (-2147483648) ≤ v) (h2 : v ≤ 2147483647) : am_LR 140 (l.set j v) := am_LR.put hl h1 h2
theorem am_Ra140 (hI : am_RV g h f a) (hl : am_LR 140 l) : am_RV g h f (am_ud a 140 l) := ⟨⟨am_JRa (by decide) hI.1.1 hl, hI.1.2⟩, hI.2⟩
theorem am_Ka140 (hI : am_JR g h f a) (hl : am_LR 140 l) : am_JR g h f (am_ud a 140 l) := am_JRa (by decide) hI hl
theorem am_Rb141 (hl : am_LR 141 l) (hi : am_ib l x) : (-2147483648) ≤ am_at l x ∧ am_at l x ≤ 2147483647 := am_LR.at hl hi
theorem am_Rl141 (hl : am_LR 141 l) : l.length = 9 := hl.1
theorem am_RS141 {j : Nat} (hl : am_LR 141 l) (h1 : (-2147483648) ≤ v) (h2 : v ≤ 2147483647) : am_LR 141 (l.set j v) := am_LR.put hl h1 h2
theorem am_Ra141 (hI : am_RV g h f a) (hl : am_LR 141 l) : am_RV g h f (am_ud a 141 l) := ⟨⟨am_JRa (by decide) hI.1.1 hl, hI.1.2⟩, hI.2⟩
theorem am_Ka141 (hI : am_JR g h f a) (hl : am_LR 141 l) : am_JR g h f (am_ud a 141 l) := am_JRa (by decide) hI hl
theorem am_Rb142 (hl : am_LR 142 l) (hi : am_ib l x) : (-2147483648) ≤ am_at l x ∧ am_at l x ≤ 2147483647 := am_LR.at hl hi
theorem am_Rl142 (hl : am_LR 142 l) : l.length = 9 := hl.1
theorem am_RS142 {j : Nat} (hl : am_LR 142 l) (h1 : (-2147483648) ≤ v) (h2 : v ≤ 2147483647) : am_LR 142 (l.set j v) := am_LR.put hl h1 h2
theorem am_Ra142 (hI : am_RV g h f a) (hl : am_LR 142 l) : am_RV g h f (am_ud a 142 l) := ⟨⟨am_JRa (by decide) hI.1.1 hl, hI.1.2⟩, hI.2⟩
theorem am_Ka142 (hI : am_JR g h f a) (hl : am_LR 142 l) : am_JR g h f (am_ud a 142 l) := am_JRa (by decide) hI hl
theorem am_Rb143 (hl : am_LR 143 l) (hi : am_ib l x) : 0 ≤ am_at l x ∧ am_at l x ≤ 1 := am_LR.at hl hi
theorem am_Rl143 (hl : am_LR 143 l) : l.length = 9 := hl.1
theorem am_RS143 {j : Nat} (hl : am_LR 143 l) (h1 : 0 ≤ v) (h2 : v ≤ 1) : am_LR 143 (l.set j v) := am_LR.put hl h1 h2
theorem am_Ra143 (hI : am_RV g h f a) (hl : am_LR 143 l) : am_RV g h f (am_ud a 143 l) := ⟨⟨am_JRa (by decide) hI.1.1 hl, hI.1.2⟩, hI.2⟩
theorem am_Ka143 (hI : am_JR g h f a) (hl : am_LR 143 l) : am_JR g h f (am_ud a 143 l) := am_JRa (by decide) hI hl
theorem am_Rb144 (hl : am_LR 144 l) (hi : am_ib l x) : 0 ≤ am_at l x ∧ am_at l x ≤ 1 := am_LR.at hl hi
theorem am_Rl144 (hl : am_LR 144 l) : l.length = 9 := hl.1
theorem am_RS144 {j : Nat} (hl : am_LR 144 l) (h1 : 0 ≤ v) (h2 : v ≤ 1) : am_LR 144 (l.set j v) := am_LR.put hl h1 h2
theorem am_Ra144 (hI : am_RV g h f a) (hl : am_LR 144 l) : am_RV g h f (am_ud a 144 l) := ⟨⟨am_JRa (by decide) hI.1.1 hl, hI.1.2⟩, hI.2⟩
theorem am_Ka144 (hI : am_JR g h f a) (hl : am_LR 144 l) : am_JR g h f (am_ud a 144 l) := am_JRa (by decide) hI hl
theorem am_Rb145 (hl : am_LR 145 l) (hi : am_ib l x) : (-2147483648) ≤ am_at l x ∧ am_at l x ≤ 2147483647 := am_LR.at hl hi
theorem am_Rl145 (hl : am_LR 145 l) : l.length = 64 := hl.1
theorem am_RS145 {j : Nat} (hl : am_LR 145 l) (h1 : (-2147483648) ≤ v) (h2 : v ≤ 2147483647) : am_LR 145 (l.set j v) := am_LR.put hl h1 h2
theorem am_Ra145 (hI : am_RV g h f a) (hl : am_LR 145 l) : am_RV g h f (am_ud a 145 l) := ⟨⟨am_JRa (by decide) hI.1.1 hl, hI.1.2⟩, hI.2⟩
theorem am_Ka145 (hI : am_JR g h f a) (hl : am_LR 145 l) : am_JR g h f (am_ud a 145 l) := am_JRa (by decide) hI hl
theorem am_Rb146 (hl : am_LR 146 l) (hi : am_ib l x) : 0 ≤ am_at l x ∧ am_at l x ≤ 25 := am_LR.at hl hi
theorem am_Rl146 (hl : am_LR 146 l) : l.length = 64 := hl.1
theorem am_RS146 {j : Nat} (hl : am_LR 146 l) (h1 : 0 ≤ v) (h2 : v ≤ 25) : am_LR 146 (l.set j v) := am_LR.put hl h1 h2
theorem am_Ra146 (hI : am_RV g h f a) (hl : am_LR 146 l) : am_RV g h f (am_ud a 146 l) := ⟨⟨am_JRa (by decide) hI.1.1 hl, hI.1.2⟩, hI.2⟩
theorem am_Ka146 (hI : am_JR g h f a) (hl : am_LR 146 l) : am_JR g h f (am_ud a 146 l) := am_JRa (by decide) hI hl
theorem am_Rb147 (hl : am_LR 147 l) (hi : am_ib l x) : (-2147483648) ≤ am_at l x ∧ am_at l x ≤ 2147483647 := am_LR.at hl hi
theorem am_Rl147 (hl : am_LR 147 l) : l.length = 64 := hl.1
theorem am_RS147 {j : Nat} (hl : am_LR 147 l) (h1 : (-2147483648) ≤ v) (h2 : v ≤ 2147483647) : am_LR 147 (l.set j v) := am_LR.put hl h1 h2
theorem am_Ra147 (hI : am_RV g h f a) (hl : am_LR 147 l) : am_RV g h f (am_ud a 147 l) := ⟨⟨am_JRa (by decide) hI.1.1 hl, hI.1.2⟩, hI.2⟩
theorem am_Ka147 (hI : am_JR g h f a) (hl : am_LR 147 l) : am_JR g h f (am_ud a 147 l) := am_JRa (by decide) hI hl
theorem am_Rb148 (hl : am_LR 148 l) (hi : am_ib l x) : (-2147483648) ≤ am_at l x ∧ am_at l x ≤ 2147483647 := am_LR.at hl hi
theorem am_Rl148 (hl : am_LR 148 l) : l.length = 64 := hl.1
theorem am_RS148 {j : Nat} (hl : am_LR 148 l) (h1 : (-2147483648) ≤ v) (h2 : v ≤ 2147483647) : am_LR 148 (l.set j v) := am_LR.put hl h1 h2
theorem am_Ra148 (hI : am_RV g h f a) (hl : am_LR 148 l) : am_RV g h f (am_ud a 148 l) := ⟨⟨am_JRa (by decide) hI.1.1 hl, hI.1.2⟩, hI.2⟩
theorem am_Ka148 (hI : am_JR g h f a) (hl : am_LR 148 l) : am_JR g h f (am_ud a 148 l) := am_JRa (by decide) hI hl
theorem am_Rb149 (hl : am_LR 149 l) (hi : am_ib l x) : 0 ≤ am_at l x ∧ am_at l x ≤ 2800 := am_LR.at hl hi
theorem am_Rl149 (hl : am_LR 149 l) : l.length = 64 := hl.1
theorem am_RS149 {j : Nat} (hl : am_LR 149 l) (h1 : 0 ≤ v) (h2 : v ≤ 2800) : am_LR 149 (l.set j v) := am_LR.put hl h1 h2
theorem am_Ka149 (hI : am_JR g h f a) (hl : am_LR 149 l) : am_JR g h f (am_ud a 149 l) := am_JRa (by decide) hI hl
theorem am_Rb150 (hl : am_LR 150 l) (hi : am_ib l x) : 0 ≤ am_at l x ∧ am_at l x ≤ 2600 := am_LR.at hl hi
theorem am_Rl150 (hl : am_LR 150 l) : l.length = 64 := hl.1
theorem am_RS150 {j : Nat} (hl : am_LR 150 l) (h1 : 0 ≤ v) (h2 : v ≤ 2600) : am_LR 150 (l.set j v) := am_LR.put hl h1 h2
theorem am_Ka150 (hI : am_JR g h f a) (hl : am_LR 150 l) : am_JR g h f (am_ud a 150 l) := am_JRa (by decide) hI hl
theorem am_Rb151 (hl : am_LR 151 l) (hi : am_ib l x) : 0 ≤ am_at l x ∧ am_at l x ≤ 200 := am_LR.at hl hi
theorem am_Rl151 (hl : am_LR 151 l) : l.length = 64 := hl.1
theorem am_RS151 {j : Nat} (hl : am_LR 151 l) (h1 : 0 ≤ v) (h2 : v ≤ 200) : am_LR 151 (l.set j v) := am_LR.put hl h1 h2
theorem am_Ra151 (hI : am_RV g h f a) (hl : am_LR 151 l) : am_RV g h f (am_ud a 151 l) := ⟨⟨am_JRa (by decide) hI.1.1 hl, hI.1.2⟩, hI.2⟩
theorem am_Ka151 (hI : am_JR g h f a) (hl : am_LR 151 l) : am_JR g h f (am_ud a 151 l) := am_JRa (by decide) hI hl
theorem am_Rb152 (hl : am_LR 152 l) (hi : am_ib l x) : 0 ≤ am_at l x ∧ am_at l x ≤ 200 := am_LR.at hl hi
theorem am_Rl152 (hl : am_LR 152 l) : l.length = 64 := hl.1
theorem am_RS152 {j : Nat} (hl : am_LR 152 l) (h1 : 0 ≤ v) (h2 : v ≤ 200) : am_LR 152 (l.set j v) := am_LR.put hl h1 h2
theorem am_Ra152 (hI : am_RV g h f a) (hl : am_LR 152 l) : am_RV g h f (am_ud a 152 l) := ⟨⟨am_JRa (by decide) hI.1.1 hl, hI.1.2⟩, hI.2⟩
theorem am_Ka152 (hI : am_JR g h f a) (hl : am_LR 152 l) : am_JR g h f (am_ud a 152 l) := am_JRa (by decide) hI hl
theorem am_Rb153 (hl : am_LR 153 l) (hi : am_ib l x) : 0 ≤ am_at l x ∧ am_at l x ≤ 2800 := am_LR.at hl hi
theorem am_Rl153 (hl : am_LR 153 l) : l.length = 200 := hl.1
theorem am_RS153 {j : Nat} (hl : am_LR 153 l) (h1 : 0 ≤ v) (h2 : v ≤ 2800) : am_LR 153 (l.set j v) := am_LR.put hl h1 h2
theorem am_Ra153 (hI : am_RV g h f a) (hl : am_LR 153 l) : am_RV g h f (am_ud a 153 l) := ⟨⟨am_JRa (by decide) hI.1.1 hl, hI.1.2⟩, hI.2⟩
theorem am_Ka153 (hI : am_JR g h f a) (hl : am_LR 153 l) : am_JR g h f (am_ud a 153 l) := am_JRa (by decide) hI hl
theorem am_Rb154 (hl : am_LR 154 l) (hi : am_ib l x) : 0 ≤ am_at l x ∧ am_at l x ≤ 400 := am_LR.at hl hi
theorem am_Rl154 (hl : am_LR 154 l) : l.length = 200 := hl.1
theorem am_RS154 {j : Nat} (hl : am_LR 154 l) (h1 : 0 ≤ v) (h2 : v ≤ 400) : am_LR 154 (l.set j v) := am_LR.put hl h1 h2
theorem am_Ra154 (hI : am_RV g h f a) (hl : am_LR 154 l) : am_RV g h f (am_ud a 154 l) := ⟨⟨am_JRa (by decide) hI.1.1 hl, hI.1.2⟩, hI.2⟩
theorem am_Ka154 (hI : am_JR g h f a) (hl : am_LR 154 l) : am_JR g h f (am_ud a 154 l) := am_JRa (by decide) hI hl
theorem am_Rb155 (hl : am_LR 155 l) (hi : am_ib l x) : (-2147483648) ≤ am_at l x ∧ am_at l x ≤ 2147483647 := am_LR.at hl hi
theorem am_Rl155 (hl : am_LR 155 l) : l.length = 3200 := hl.1
theorem am_RS155 {j : Nat} (hl : am_LR 155 l) (h1 : (-2147483648) ≤ v) (h2 : v ≤ 2147483647) : am_LR 155 (l.set j v) := am_LR.put hl h1 h2
theorem am_Ra155 (hI : am_RV g h f a) (hl : am_LR 155 l) : am_RV g h f (am_ud a 155 l) := ⟨⟨am_JRa (by decide) hI.1.1 hl, hI.1.2⟩, hI.2⟩
theorem am_Ka155 (hI : am_JR g h f a) (hl : am_LR 155 l) : am_JR g h f (am_ud a 155 l) := am_JRa (by decide) hI hl
theorem am_Rb156 (hl : am_LR 156 l) (hi : am_ib l x) : (-2147483648) ≤ am_at l x ∧ am_at l x ≤ 2147483647 := am_LR.at hl hi
theorem am_Rl156 (hl : am_LR 156 l) : l.length = 2600 := hl.1
theorem am_RS156 {j : Nat} (hl : am_LR 156 l) (h1 : (-2147483648) ≤ v) (h2 : v ≤ 2147483647) : am_LR 156 (l.set j v) := am_LR.put hl h1 h2
theorem am_Ra156 (hI : am_RV g h f a) (hl : am_LR 156 l) : am_RV g h f (am_ud a 156 l) := ⟨⟨am_JRa (by decide) hI.1.1 hl, hI.1.2⟩, hI.2⟩
theorem am_Ka156 (hI : am_JR g h f a) (hl : am_LR 156 l) : am_JR g h f (am_ud a 156 l) := am_JRa (by decide) hI hl
theorem am_Rb157 (hl : am_LR 157 l) (hi : am_ib l x) : (-2147483648) ≤ am_at l x ∧ am_at l x ≤ 2147483647 := am_LR.at hl hi
theorem am_Rl157 (hl : am_LR 157 l) : l.length = 200 := hl.1
theorem am_RS157 {j : Nat} (hl : am_LR 157 l) (h1 : (-2147483648) ≤ v) (h2 : v ≤ 2147483647) : am_LR 157 (l.set j v) := am_LR.put hl h1 h2
theorem am_Ra157 (hI : am_RV g h f a) (hl : am_LR 157 l) : am_RV g h f (am_ud a 157 l) := ⟨⟨am_JRa (by decide) hI.1.1 hl, hI.1.2⟩, hI.2⟩
theorem am_Ka157 (hI : am_JR g h f a) (hl : am_LR 157 l) : am_JR g h f (am_ud a 157 l) := am_JRa (by decide) hI hl
theorem am_Rb158 (hl : am_LR 158 l) (hi : am_ib l x) : (-2147483648) ≤ am_at l x ∧ am_at l x ≤ 2147483647 := am_LR.at hl hi
theorem am_Rl158 (hl : am_LR 158 l) : l.length = 200 := hl.1
theorem am_RS158 {j : Nat} (hl : am_LR 158 l) (h1 : (-2147483648) ≤ v) (h2 : v ≤ 2147483647) : am_LR 158 (l.set j v) := am_LR.put hl h1 h2
theorem am_Ra158 (hI : am_RV g h f a) (hl : am_LR 158 l) : am_RV g h f (am_ud a 158 l) := ⟨⟨am_JRa (by decide) hI.1.1 hl, hI.1.2⟩, hI.2⟩
theorem am_Ka158 (hI : am_JR g h f a) (hl : am_LR 158 l) : am_JR g h f (am_ud a 158 l) := am_JRa (by decide) hI hl
theorem am_Rb159 (hl : am_LR 159 l) (hi : am_ib l x) : 0 ≤ am_at l x ∧ am_at l x ≤ 2000 := am_LR.at hl hi
theorem am_Rl159 (hl : am_LR 159 l) : l.length = 200 := hl.1
theorem am_RS159 {j : Nat} (hl : am_LR 159 l) (h1 : 0 ≤ v) (h2 : v ≤ 2000) : am_LR 159 (l.set j v) := am_LR.put hl h1 h2
theorem am_Ka159 (hI : am_JR g h f a) (hl : am_LR 159 l) : am_JR g h f (am_ud a 159 l) := am_JRa (by decide) hI hl
theorem am_Rb160 (hl : am_LR 160 l) (hi : am_ib l x) : 0 ≤ am_at l x ∧ am_at l x ≤ 2000 := am_LR.at hl hi
theorem am_Rl160 (hl : am_LR 160 l) : l.length = 200 := hl.1
theorem am_RS160 {j : Nat} (hl : am_LR 160 l) (h1 : 0 ≤ v) (h2 : v ≤ 2000) : am_LR 160 (l.set j v) := am_LR.put hl h1 h2
theorem am_Ka160 (hI : am_JR g h f a) (hl : am_LR 160 l) : am_JR g h f (am_ud a 160 l) := am_JRa (by decide) hI hl
theorem am_Rb161 (hl : am_LR 161 l) (hi : am_ib l x) : (-2147483648) ≤ am_at l x ∧ am_at l x ≤ 2147483647 := am_LR.at hl hi
theorem am_Rl161 (hl : am_LR 161 l) : l.length = 200 := hl.1
theorem am_RS161 {j : Nat} (hl : am_LR 161 l) (h1 : (-2147483648) ≤ v) (h2 : v ≤ 2147483647) : am_LR 161 (l.set j v) := am_LR.put hl h1 h2
theorem am_Ra161 (hI : am_RV g h f a) (hl : am_LR 161 l) : am_RV g h f (am_ud a 161 l) := ⟨⟨am_JRa (by decide) hI.1.1 hl, hI.1.2⟩, hI.2⟩
theorem am_Ka161 (hI : am_JR g h f a) (hl : am_LR 161 l) : am_JR g h f (am_ud a 161 l) := am_JRa (by decide) hI hl
theorem am_Rb162 (hl : am_LR 162 l) (hi : am_ib l x) : (-2147483648) ≤ am_at l x ∧ am_at l x ≤ 2147483647 := am_LR.at hl hi
theorem am_Rl162 (hl : am_LR 162 l) : l.length = 2000 := hl.1
theorem am_RS162 {j : Nat} (hl : am_LR 162 l) (h1 : (-2147483648) ≤ v) (h2 : v ≤ 2147483647) : am_LR 162 (l.set j v) := am_LR.put hl h1 h2
theorem am_Ra162 (hI : am_RV g h f a) (hl : am_LR 162 l) : am_RV g h f (am_ud a 162 l) := ⟨⟨am_JRa (by decide) hI.1.1 hl, hI.1.2⟩, hI.2⟩
theorem am_Ka162 (hI : am_JR g h f a) (hl : am_LR 162 l) : am_JR g h f (am_ud a 162 l) := am_JRa (by decide) hI hl
theorem am_RV_stop (hI : am_RV g h f a) (h1 : 0 < v) (h2 : v ≤ 3) : am_RV g h (am_ud f 11701 v) a := by
  obtain ⟨⟨hJ, h4, h6⟩, q1, q2, q3, q7, q8, q9, q10, q13, q11, q12⟩ := hI
  have hn : am_ud f 11701 v 11701 = 0 → False := fun hz => absurd (show v = 0 from hz) (by omega)
  exact ⟨⟨am_JRf (by decide) hJ (show 0 ≤ v by omega) h2, h4, h6⟩, q1, q2, q3, fun z => (hn z).elim, fun z => (hn z).elim, fun z => (hn z).elim, fun z => (hn z).elim, fun z => (hn z).elim, q11, q12⟩
theorem am_Rf11701 (hI : am_RV g h f a) (h1 : 1 ≤ v) (h2 : v ≤ 3) : am_RV g h (am_ud f 11701 v) a := am_RV_stop hI (by omega) h2
theorem am_mn.halt (hm : am_mn f a f1 a1) (h1 : f1 11701 ≤ v) : am_mn f a (am_ud f1 11701 v) a1 := ⟨Int.le_trans hm.1 h1, hm.2⟩
theorem am_mo.halt (hm : am_mo f a f1 a1) (h1 : f1 11701 ≤ v) : am_mo f a (am_ud f1 11701 v) a1 := ⟨am_mn.halt hm.1 h1, am_fr_f hm.2 rfl⟩
theorem am_q11_eq' {u u1 : Int} {s l : List Int} (h1 : am_q11 u s l) (h2 : u ≤ u1) : am_q11 u1 s l := fun i h3 h4 h5 => Int.le_trans (h1 i h3 h4 h5) h2
/-- one character on -/
theorem am_ph_skip (hl : (a 124).length = 20) (h0 : 0 ≤ f 11713) (h1 : f 11713 ≤ 16) : am_ph f (am_ud a 124 ((a 124).set (f 11713).toNat (am_at (a 124) (f 11713) + 1))) = am_ph f a + 1 := by
  have hi : am_ib (a 124) (f 11713) := by unfold am_ib; omega
  show am_at ((a 124).set (f 11713).toNat (am_at (a 124) (f 11713) + 1)) 0 + f 11703 - am_lf ((a 124).set (f 11713).toNat (am_at (a 124) (f 11713) + 1)) (a 125) (f 11713).toNat = am_at (a 124) 0 + f 11703 - am_lf (a 124) (a 125) (f 11713).toNat + 1
  by_cases hz : f 11713 = 0
  · rw [am_at_set hi, hz, if_pos rfl]
    show am_at (a 124) 0 + 1 + f 11703 - am_lf _ _ 0 = am_at (a 124) 0 + f 11703 - am_lf _ _ 0 + 1
    unfold am_lf; omega
  · rw [am_at_set hi, if_neg (by omega), am_lf_last (x := f 11713) (by omega), am_lf_last (p := a 124) (x := f 11713) (by omega), am_at_set hi, if_pos rfl, am_lf_same (p := a 124) (e := a 125) (fun j j1 j2 => ⟨by rw [am_at_set hi, if_neg (by omega)], rfl⟩)]
    omega
theorem am_at0_skip (hl : (a 124).length = 20) (h0 : 0 ≤ f 11713) (h1 : f 11713 ≤ 16) : am_at ((a 124).set (f 11713).toNat (am_at (a 124) (f 11713) + 1)) 0 = am_at (a 124) 0 + (if f 11713 = 0 then 1 else 0) := by
  have hi : am_ib (a 124) (f 11713) := by unfold am_ib; omega
  rw [am_at_set hi]
  by_cases hz : f 11713 = 0
  · rw [if_pos (by omega), if_pos hz, hz]
  · rw [if_neg (by omega), if_neg hz]; omega
theorem am_RV_skip (hI : am_RV g h f a) (hp : am_at (a 124) (f 11713) < am_at (a 125) (f 11713)) : am_RV g h f (am_ud a 124 ((a 124).set (f 11713).toNat (am_at (a 124) (f 11713) + 1))) := by
  have k13 := am_Rg11713 hI.1.1
  have k09 := am_Rg11709 hI.1.1
  have hL := am_RL 124 rfl hI.1.1
  have hl : (a 124).length = 20 := am_Rl124 hL
  have hi : am_ib (a 124) (f 11713) := by unfold am_ib; omega
  have e1 := am_ph_skip (a := a) (f := f) hl k13.1 k13.2
  have e2 := am_at0_skip (a := a) (f := f) hl k13.1 k13.2
  obtain ⟨⟨hJ, h4, h6⟩, q1, q2, q3, q7, q8, q9, q10, q13, q11, q12⟩ := hI
  have hb := am_Rb124 hL hi
  have hq := q2 (f 11713) k13.1 (Int.le_refl _)
  have e3 : am_at (a 124) 0 ≤ am_at ((a 124).set (f 11713).toNat (am_at (a 124) (f 11713) + 1)) 0 := by rw [e2]; split <;> omega
  refine ⟨⟨am_JRa (by decide) hJ (am_RS124 hL (by omega) (by omega)), h4, h6⟩, q1, fun j j1 j2 => ?_, ?_, q7, q8, fun z => ?_, fun z => ?_, fun z => ?_, q11, q12⟩
  · show am_at ((a 124).set (f 11713).toNat (am_at (a 124) (f 11713) + 1)) j ≤ am_at (a 125) j ∧ am_at (a 125) j ≤ f 11709
    have := q2 j j1 j2
    rw [am_at_set hi]
    split
    · rw [show j = f 11713 by omega]; omega
    · exact this
  · rw [e1]; omega
  · exact Int.le_trans (q9 z) (Int.add_le_add_left e3 _)
  · exact Int.le_trans (q10 z) e3
  · exact Int.le_trans (q13 z) e3
theorem am_RV_ph (hI : am_RV g h f a) : 0 ≤ am_ph f a ∧ am_ph f a ≤ 2721 ∧ am_ph f a ≤ 2360 + 361 * f 11701 := by
  have k53 := am_Rg11753 hI.1.1
  have k01 := am_Rg11701 hI.1.1
  have k03 := am_Rg11703 hI.1.1
  have k02 := am_Rg11702 hI.1.1
  have k13 := am_Rg11713 hI.1.1
  obtain ⟨_, q1, q2, q3, q7, q8, q9, q10, q13, q11, q12⟩ := hI
  have h0 := q2 0 (Int.le_refl _) k13.1
  have hn : 0 ≤ am_lf (a 124) (a 125) (f 11713).toNat := am_lf_nn (fun j h1 h2 => (q2 j (by omega) (by omega)).1)
  refine ⟨Int.le_trans k53.1 q3, ?_⟩
  unfold am_ph
  refine ⟨by omega, ?_⟩
  by_cases z : f 11701 = 0
  · have := q8 z; omega
  · omega
/-- into a text -/
theorem am_RV_enter {x : Int} (hI : am_RV g h f a) (h0 : 0 ≤ x) (h1 : x < 26) (hs : f 11701 = 0) (he : 0 ≤ am_at (a 121) x) (hc : f 11703 + (am_at (a 122) x + 1) ≤ f 11702) (hd : f 11718 + f 11713 < 16) :
    am_RV g h (am_ud (am_ud f 11703 (f 11703 + (am_at (a 122) x + 1))) 11713 (f 11713 + 1)) (am_ud (am_ud (am_ud (am_ud (am_ud a 124 ((a 124).set (f 11713 + 1).toNat (am_at (a 121) x))) 125 ((a 125).set (f 11713 + 1).toNat (am_at (a 121) x + am_at (a 122) x))) 126 ((a 126).set (f 11713 + 1).toNat x)) 127 ((a 127).set (f 11713 + 1).toNat (f 11718))) 123 ((a 123).set x.toNat 1)) ∧
    am_ph (am_ud (am_ud f 11703 (f 11703 + (am_at (a 122) x + 1))) 11713 (f 11713 + 1)) (am_ud (am_ud (am_ud (am_ud (am_ud a 124 ((a 124).set (f 11713 + 1).toNat (am_at (a 121) x))) 125 ((a 125).set (f 11713 + 1).toNat (am_at (a 121) x + am_at (a 122) x))) 126 ((a 126).set (f 11713 + 1).toNat x)) 127 ((a 127).set (f 11713 + 1).toNat (f 11718))) 123 ((a 123).set x.toNat 1)) = am_ph f a + 1 ∧ am_at ((a 124).set (f 11713 + 1).toNat (am_at (a 121) x)) 0 = am_at (a 124) 0 ∧ am_at ((a 125).set (f 11713 + 1).toNat (am_at (a 121) x + am_at (a 122) x)) 0 = am_at (a 125) 0 := by
  have k13 := am_Rg11713 hI.1.1
  have k18 := am_Rg11718 hI.1.1
  have k03 := am_Rg11703 hI.1.1
  have k02 := am_Rg11702 hI.1.1
  have k09 := am_Rg11709 hI.1.1
  have L4 := am_RL 124 rfl hI.1.1
  have L5 := am_RL 125 rfl hI.1.1
  have l4 : (a 124).length = 20 := am_Rl124 L4
  have l5 : (a 125).length = 20 := am_Rl125 L5
  have i4 : am_ib (a 124) (f 11713 + 1) := by unfold am_ib; omega
  have i5 : am_ib (a 125) (f 11713 + 1) := by unfold am_ib; omega
  have L1 := am_RL 121 rfl hI.1.1
  have L2 := am_RL 122 rfl hI.1.1
  have l1 : (a 121).length = 26 := am_Rl121 L1
  have l2 : (a 122).length = 26 := am_Rl122 L2
  have b1 := am_Rb121 L1 (x := x) (by unfold am_ib; omega)
  have b2 := am_Rb122 L2 (x := x) (by unfold am_ib; omega)
  obtain ⟨⟨hJ, h4, h6⟩, q1, q2, q3, q7, q8, q9, q10, q13, q11, q12⟩ := hI
  have hu := q11 x h0 h1 he
  have e0 : am_at ((a 124).set (f 11713 + 1).toNat (am_at (a 121) x)) 0 = am_at (a 124) 0 := by rw [am_at_set i4, if_neg (by omega)]
  have e5 : am_at ((a 125).set (f 11713 + 1).toNat (am_at (a 121) x + am_at (a 122) x)) 0 = am_at (a 125) 0 := by rw [am_at_set i5, if_neg (by omega)]
  have e1 : am_at ((a 124).set (f 11713 + 1).toNat (am_at (a 121) x)) 0 + (f 11703 + (am_at (a 122) x + 1)) - am_lf ((a 124).set (f 11713 + 1).toNat (am_at (a 121) x)) ((a 125).set (f 11713 + 1).toNat (am_at (a 121) x + am_at (a 122) x)) (f 11713 + 1).toNat = am_at (a 124) 0 + f 11703 - am_lf (a 124) (a 125) (f 11713).toNat + 1 := by
    rw [e0, am_lf_last (x := f 11713 + 1) (by omega), am_at_set i4, if_pos rfl, am_at_set i5, if_pos rfl, show (f 11713 + 1 - 1) = f 11713 by omega, am_lf_same (p := a 124) (e := a 125) (fun j j1 j2 => ⟨by rw [am_at_set i4, if_neg (by omega)], by rw [am_at_set i5, if_neg (by omega)]⟩)]
    omega
  refine ⟨⟨⟨?_, h4, h6⟩, ?_, fun j j1 j2 => ?_, ?_, q7, fun _ => hc, fun z => ?_, fun z => ?_, fun z => ?_, q11, ?_⟩, e1, e0, e5⟩
  · refine am_JRa (by decide) (am_JRa (by decide) (am_JRa (by decide) (am_JRa (by decide) (am_JRa (by decide) (am_JRf (by decide) (am_JRf (by decide) hJ ?_ ?_) ?_ ?_) (am_RS124 L4 (by omega) (by omega))) (am_RS125 L5 (by omega) (by omega))) (am_RS126 (am_RL 126 rfl hJ) h0 (by omega))) (am_RS127 (am_RL 127 rfl hJ) (by omega) (by omega))) (am_RS123 (am_RL 123 rfl hJ) (by omega) (by omega))
    · show 0 ≤ f 11703 + (am_at (a 122) x + 1); omega
    · show f 11703 + (am_at (a 122) x + 1) ≤ 2361; omega
    · show 0 ≤ f 11713 + 1; omega
    · show f 11713 + 1 ≤ 16; omega
  · show f 11718 + (f 11713 + 1) ≤ 16; omega
  · show am_at ((a 124).set (f 11713 + 1).toNat (am_at (a 121) x)) j ≤ am_at ((a 125).set (f 11713 + 1).toNat (am_at (a 121) x + am_at (a 122) x)) j ∧ am_at ((a 125).set (f 11713 + 1).toNat (am_at (a 121) x + am_at (a 122) x)) j ≤ f 11709
    replace j2 : j ≤ f 11713 + 1 := j2
    rw [am_at_set i4, am_at_set i5]
    split
    · omega
    · exact q2 j j1 (by omega)
  · show f 11753 ≤ am_at ((a 124).set (f 11713 + 1).toNat (am_at (a 121) x)) 0 + (f 11703 + (am_at (a 122) x + 1)) - am_lf ((a 124).set (f 11713 + 1).toNat (am_at (a 121) x)) ((a 125).set (f 11713 + 1).toNat (am_at (a 121) x + am_at (a 122) x)) (f 11713 + 1).toNat
    rw [e1]
    have : f 11753 ≤ am_at (a 124) 0 + f 11703 - am_lf (a 124) (a 125) (f 11713).toNat := q3
    omega
  · show f 11709 ≤ am_at ((a 125).set (f 11713 + 1).toNat (am_at (a 121) x + am_at (a 122) x)) 0 + am_at ((a 124).set (f 11713 + 1).toNat (am_at (a 121) x)) 0
    rw [e0, e5]; exact q9 z
  · show 6 * f 11741 ≤ am_at ((a 124).set (f 11713 + 1).toNat (am_at (a 121) x)) 0
    rw [e0]; exact q10 z
  · show 2 * f 11750 ≤ am_at ((a 124).set (f 11713 + 1).toNat (am_at (a 121) x)) 0
    rw [e0]; exact q13 z
  · show am_at ((a 125).set (f 11713 + 1).toNat (am_at (a 121) x + am_at (a 122) x)) 0 ≤ 360
    rw [e5]; exact q12
/-- a cost that is too much, then a halt -/
theorem am_RV_cost (hI : am_RV g h f a) (hv : f 11703 ≤ v) (h2 : v ≤ 2361) (hw : 0 < x) (hw2 : x ≤ 3) : am_RV g h (am_ud (am_ud f 11703 v) 11701 x) a := by
  have k03 := am_Rg11703 hI.1.1
  obtain ⟨⟨hJ, h4, h6⟩, q1, q2, q3, q7, q8, q9, q10, q13, q11, q12⟩ := hI
  have hn : am_ud (am_ud f 11703 v) 11701 x 11701 = 0 → False := fun hz => absurd (show x = 0 from hz) (by omega)
  refine ⟨⟨am_JRf (by decide) (am_JRf (by decide) hJ (show 0 ≤ v by omega) h2) (show 0 ≤ x by omega) hw2, h4, h6⟩, q1, q2, ?_, fun z => (hn z).elim, fun z => (hn z).elim, fun z => (hn z).elim, fun z => (hn z).elim, fun z => (hn z).elim, q11, q12⟩
  show f 11753 ≤ am_at (a 124) 0 + v - am_lf (a 124) (a 125) (f 11713).toNat
  have : f 11753 ≤ am_at (a 124) 0 + f 11703 - am_lf (a 124) (a 125) (f 11713).toNat := q3
  omega
/-- behind a text -/
theorem am_RV_leave {x : Int} (hI : am_RV g h f a) (hd : 1 ≤ f 11713) (hp : am_at (a 124) (f 11713) = am_at (a 125) (f 11713)) :
    am_RV g h (am_ud f 11713 (f 11713 - 1)) (am_ud a 123 ((a 123).set x.toNat 0)) ∧ am_ph (am_ud f 11713 (f 11713 - 1)) (am_ud a 123 ((a 123).set x.toNat 0)) = am_ph f a := by
  have k13 := am_Rg11713 hI.1.1
  have k18 := am_Rg11718 hI.1.1
  obtain ⟨⟨hJ, h4, h6⟩, q1, q2, q3, q7, q8, q9, q10, q13, q11, q12⟩ := hI
  have e1 : am_ph (am_ud f 11713 (f 11713 - 1)) (am_ud a 123 ((a 123).set x.toNat 0)) = am_ph f a := by
    show am_at (a 124) 0 + f 11703 - am_lf (a 124) (a 125) (f 11713 - 1).toNat = am_at (a 124) 0 + f 11703 - am_lf (a 124) (a 125) (f 11713).toNat
    rw [am_lf_last (x := f 11713) hd]; omega
  refine ⟨⟨⟨am_JRa (by decide) (am_JRf (by decide) hJ (show 0 ≤ f 11713 - 1 by omega) (show f 11713 - 1 ≤ 16 by omega)) (am_RS123 (am_RL 123 rfl hJ) (by omega) (by omega)), h4, h6⟩, ?_, fun j j1 j2 => ?_, ?_, q7, q8, q9, q10, q13, q11, q12⟩, e1⟩
  · show f 11718 + (f 11713 - 1) ≤ 16; omega
  · replace j2 : j ≤ f 11713 - 1 := j2
    exact q2 j j1 (by omega)
  · rw [e1]; exact q3
theorem am_RV_p0 (hI : am_RV g h f a) : 0 ≤ am_at (a 124) 0 := by
  have L := am_RL 124 rfl hI.1.1
  have l0 : (a 124).length = 20 := am_Rl124 L
  exact (am_Rb124 L (x := 0) (by unfold am_ib; omega)).1
theorem am_Rf11718 (hI : am_RV g h f a) (h1 : 0 ≤ v) (h2 : v ≤ 16) (h3 : v + f 11713 ≤ 16) : am_RV g h (am_ud f 11718 v) a := ⟨⟨am_JRf (by decide) hI.1.1 h1 h2, hI.1.2⟩, h3, hI.2.2⟩
theorem am_Rf11753 (hI : am_RV g h f a) (h1 : 0 ≤ v) (h2 : v ≤ 2800) (h3 : v ≤ am_ph f a) : am_RV g h (am_ud f 11753 v) a := ⟨⟨am_JRf (by decide) hI.1.1 h1 h2, hI.1.2⟩, hI.2.1, hI.2.2.1, h3, hI.2.2.2.2⟩
theorem am_Rf11741 (hI : am_RV g h f a) (h1 : 0 ≤ v) (h2 : v ≤ 60) (h3 : f 11701 = 0 → 6 * v ≤ am_at (a 124) 0) : am_RV g h (am_ud f 11741 v) a := ⟨⟨am_JRf (by decide) hI.1.1 h1 h2, hI.1.2⟩, hI.2.1, hI.2.2.1, hI.2.2.2.1, hI.2.2.2.2.1, hI.2.2.2.2.2.1, hI.2.2.2.2.2.2.1, h3, hI.2.2.2.2.2.2.2.2⟩
theorem am_Rf11750 (hI : am_RV g h f a) (h1 : 0 ≤ v) (h2 : v ≤ 199) (h3 : f 11701 = 0 → 2 * v ≤ am_at (a 124) 0) : am_RV g h (am_ud f 11750 v) a := ⟨⟨am_JRf (by decide) hI.1.1 h1 h2, hI.1.2⟩, hI.2.1, hI.2.2.1, hI.2.2.2.1, hI.2.2.2.2.1, hI.2.2.2.2.2.1, hI.2.2.2.2.2.2.1, hI.2.2.2.2.2.2.2.1, h3, hI.2.2.2.2.2.2.2.2.2⟩
theorem am_R3_both {n N Q u : Int} {s l : List Int} (hR : am_R3 N Q s l) (h1 : am_ib s n) (h2 : am_ib l n) (h0 : u + v ≤ Q) : am_R3 N Q (s.set n.toNat u) (l.set n.toNat v) := by
  intro j h3 h4
  rw [am_at_set h1, am_at_set h2]
  split
  · omega
  · exact hR j h3 h4
/-- a character behind the others -/
theorem am_RV_app (hI : am_RV g h f a) (h1 : f 11709 ≤ 721) (hx : -2147483648 ≤ x ∧ x ≤ 2147483647) (h2 : f 11701 = 0 → 0 ≤ x) (h3 : f 11701 = 0 → f 11709 + 1 ≤ am_at (a 125) 0 + am_at (a 124) 0) : am_RV g h (am_ud f 11709 (f 11709 + 1)) (am_ud a 120 ((a 120).set (f 11709).toNat x)) := by
  have k09 := am_Rg11709 hI.1.1
  have L := am_RL 120 rfl hI.1.1
  have l0 : (a 120).length = 1200 := am_Rl120 L
  have i0 : am_ib (a 120) (f 11709) := by unfold am_ib; omega
  obtain ⟨⟨hJ, h4, h6⟩, q1, q2, q3, q7, q8, q9, q10, q13, q11, q12⟩ := hI
  refine ⟨⟨am_JRa (by decide) (am_JRf (by decide) hJ (show 0 ≤ f 11709 + 1 by omega) (show f 11709 + 1 ≤ 722 by omega)) (am_RS120 L hx.1 hx.2), h4, h6⟩, q1, fun j j1 j2 => ?_, q3, fun z i i1 i2 => ?_, q8, h3, q10, q13, am_q11_eq' q11 (show f 11709 ≤ f 11709 + 1 by omega), q12⟩
  · have := q2 j j1 j2
    exact ⟨this.1, Int.le_trans this.2 (show f 11709 ≤ f 11709 + 1 by omega)⟩
  · replace i2 : i < f 11709 + 1 := i2
    show 0 ≤ am_at ((a 120).set (f 11709).toNat x) i
    rw [am_at_set i0]
    split
    · exact h2 z
    · exact q7 z i i1 (by omega)
/-- the text is put away -/
theorem am_RV_back (hI : am_RV g h f a) (h0 : 0 ≤ v) (h1 : v ≤ f 11709) (hd : f 11713 = 0) (he : am_at (a 125) 0 ≤ v) (hq : am_q11 v (a 121) (a 122)) : am_RV g h (am_ud f 11709 v) a := by
  have k09 := am_Rg11709 hI.1.1
  obtain ⟨⟨hJ, h4, h6⟩, q1, q2, q3, q7, q8, q9, q10, q13, q11, q12⟩ := hI
  refine ⟨⟨am_JRf (by decide) hJ h0 (show v ≤ 722 by omega), h4, h6⟩, q1, fun j j1 j2 => ?_, q3, fun z i i1 i2 => q7 z i i1 (Int.lt_of_lt_of_le i2 h1), q8, fun z => Int.le_trans h1 (q9 z), q10, q13, hq, q12⟩
  replace j2 : j ≤ f 11713 := j2
  have := q2 j j1 j2
  rw [show j = 0 by omega] at this ⊢
  exact ⟨this.1, he⟩
/-- an entity -/
theorem am_RV_ent {y : Int} (hI : am_RV g h f a) (h0 : 0 ≤ y) (h1 : y < 26) (hx : 0 ≤ x) (hu : x ≤ f 11709) (hl : f 11709 - x ≤ 360) : am_RV g h f (am_ud (am_ud a 121 ((a 121).set y.toNat x)) 122 ((a 122).set y.toNat (f 11709 - x))) := by
  have k09 := am_Rg11709 hI.1.1
  have L1 := am_RL 121 rfl hI.1.1
  have L2 := am_RL 122 rfl hI.1.1
  have l1 : (a 121).length = 26 := am_Rl121 L1
  have l2 : (a 122).length = 26 := am_Rl122 L2
  have i1 : am_ib (a 121) y := by unfold am_ib; omega
  have i2 : am_ib (a 122) y := by unfold am_ib; omega
  obtain ⟨⟨hJ, h4, h6⟩, q1, q2, q3, q7, q8, q9, q10, q13, q11, q12⟩ := hI
  refine ⟨⟨am_JRa (by decide) (am_JRa (by decide) hJ (am_RS121 L1 (by omega) (by omega))) (am_RS122 L2 (by omega) (by omega)), h4, h6⟩, q1, q2, q3, q7, q8, q9, q10, q13, fun j j1 j2 => ?_, q12⟩
  show 0 ≤ am_at ((a 121).set y.toNat x) j → am_at ((a 121).set y.toNat x) j + am_at ((a 122).set y.toNat (f 11709 - x)) j ≤ f 11709
  rw [am_at_set i1, am_at_set i2]
  split
  · intro; omega
  · exact q11 j j1 j2
theorem am_q11_eq {u u1 : Int} {s l : List Int} (h1 : am_q11 u s l) (h2 : u ≤ u1) : am_q11 u1 s l := fun i h3 h4 h5 => Int.le_trans (h1 i h3 h4 h5) h2
theorem am_mn_skip (hI : am_RV g h f a) : am_mn f a f (am_ud a 124 ((a 124).set (f 11713).toNat (am_at (a 124) (f 11713) + 1))) := by
  have k13 := am_Rg11713 hI.1.1
  have hl : (a 124).length = 20 := am_Rl124 (am_RL 124 rfl hI.1.1)
  refine ⟨Int.le_refl _, ?_, ?_, rfl⟩
  · rw [am_ph_skip hl k13.1 k13.2]; omega
  · show am_at (a 124) 0 ≤ am_at ((a 124).set (f 11713).toNat (am_at (a 124) (f 11713) + 1)) 0
    rw [am_at0_skip hl k13.1 k13.2]; split <;> omega
/-- before the document is decoded -/
def am_D0 (g : aF) (h : aA) (f : aF) (a : aA) : Prop := am_PV g h f a ∧ (f 11703 = 0 ∧ f 11718 = 0 ∧ f 11741 = 0 ∧ f 11750 = 0 ∧ f 11753 = 0) ∧ (∀ i : Int, 0 ≤ i → i < 26 → am_at (a 121) i < 0) ∧ (0 ≤ g 11707 ∧ g 11707 ≤ 360)
def am_q7 (f : aF) (a : aA) : Prop := f 11701 = 0 → ∀ i : Int, 0 ≤ i → i < f 11709 → 0 ≤ am_at (a 120) i
def am_DV (g : aF) (h : aA) (f : aF) (a : aA) : Prop := am_PV g h f a ∧ (f 11703 = 0 ∧ f 11718 = 0 ∧ f 11741 = 0 ∧ f 11750 = 0 ∧ f 11753 = 0) ∧ (∀ i : Int, 0 ≤ i → i < 26 → am_at (a 121) i < 0) ∧ (0 ≤ g 11707 ∧ g 11707 ≤ 360) ∧ am_q7 f a
theorem am_DV_stop (hI : am_DV g h f a) (h1 : 0 < v) (h2 : v ≤ 3) : am_DV g h (am_ud f 11701 v) a :=
  ⟨⟨am_JRf (by decide) hI.1.1 (show 0 ≤ v by omega) h2, hI.1.2⟩, hI.2.1, hI.2.2.1, hI.2.2.2.1, fun z => absurd (show v = 0 from z) (by omega)⟩
theorem am_DV_0 (hI : am_D0 g h f a) : am_DV g h (am_ud f 11709 0) a :=
  ⟨⟨am_JRf (by decide) hI.1.1 (show (0 : Int) ≤ 0 by omega) (show (0 : Int) ≤ 722 by omega), hI.1.2⟩, hI.2.1, hI.2.2.1, hI.2.2.2, fun _ i i1 i2 => absurd (show i < 0 from i2) (by omega)⟩
theorem am_DV_app (hI : am_DV g h f a) (h1 : f 11709 ≤ 721) (hx : -2147483648 ≤ x ∧ x ≤ 2147483647) (h2 : f 11701 = 0 → 0 ≤ x) : am_DV g h (am_ud f 11709 (f 11709 + 1)) (am_ud a 120 ((a 120).set (f 11709).toNat x)) := by
  have k09 := am_Rg11709 hI.1.1
  have L := am_RL 120 rfl hI.1.1
  have l0 : (a 120).length = 1200 := am_Rl120 L
  have i0 : am_ib (a 120) (f 11709) := by unfold am_ib; omega
  obtain ⟨⟨hJ, h4, h6⟩, e1, e2, e3, q7⟩ := hI
  refine ⟨⟨am_JRa (by decide) (am_JRf (by decide) hJ (show 0 ≤ f 11709 + 1 by omega) (show f 11709 + 1 ≤ 722 by omega)) (am_RS120 L hx.1 hx.2), h4, h6⟩, e1, e2, e3, fun z i i1 i2 => ?_⟩
  replace i2 : i < f 11709 + 1 := i2
  show 0 ≤ am_at ((a 120).set (f 11709).toNat x) i
  rw [am_at_set i0]
  split
  · exact h2 z
  · exact q7 z i i1 (by omega)
theorem am_DV_done (hI : am_DV g h f a) (h1 : f 11709 ≤ 360) : am_RV g h (am_ud f 11713 0) (am_ud (am_ud a 124 ((a 124).set (0 : Int).toNat 0)) 125 ((a 125).set (0 : Int).toNat (f 11709))) := by
  have k09 := am_Rg11709 hI.1.1
  have k02 := am_Rg11702 hI.1.1
  have L4 := am_RL 124 rfl hI.1.1
  have L5 := am_RL 125 rfl hI.1.1
  have l4 : (a 124).length = 20 := am_Rl124 L4
  have l5 : (a 125).length = 20 := am_Rl125 L5
  have i4 : am_ib (a 124) 0 := by unfold am_ib; omega
  have i5 : am_ib (a 125) 0 := by unfold am_ib; omega
  obtain ⟨⟨hJ, h4, h6⟩, ⟨e3, e8, e41, e50, e53⟩, e2, e4, q7⟩ := hI
  have s4 : am_at ((a 124).set (0 : Int).toNat 0) 0 = 0 := am_at_self i4
  have s5 : am_at ((a 125).set (0 : Int).toNat (f 11709)) 0 = f 11709 := am_at_self i5
  refine ⟨⟨am_JRa (by decide) (am_JRa (by decide) (am_JRf (by decide) hJ (show (0 : Int) ≤ 0 by omega) (show (0 : Int) ≤ 16 by omega)) (am_RS124 L4 (by omega) (by omega))) (am_RS125 L5 (by omega) (by omega)), h4, h6⟩, ?_, fun j j1 j2 => ?_, ?_, q7, fun _ => ?_, fun _ => ?_, fun _ => ?_, fun _ => ?_, fun i i1 i2 i3 => absurd i3 (Int.not_le.mpr (e2 i i1 i2)), ?_⟩
  · show f 11718 + 0 ≤ 16; omega
  · replace j2 : j ≤ 0 := j2
    rw [show j = 0 by omega]
    show am_at ((a 124).set (0 : Int).toNat 0) 0 ≤ am_at ((a 125).set (0 : Int).toNat (f 11709)) 0 ∧ am_at ((a 125).set (0 : Int).toNat (f 11709)) 0 ≤ f 11709
    rw [s4, s5]; omega
  · show f 11753 ≤ am_at ((a 124).set (0 : Int).toNat 0) 0 + f 11703 - 0
    rw [s4]; omega
  · show f 11703 ≤ f 11702; omega
  · show f 11709 ≤ am_at ((a 125).set (0 : Int).toNat (f 11709)) 0 + am_at ((a 124).set (0 : Int).toNat 0) 0
    rw [s4, s5]; omega
  · show 6 * f 11741 ≤ am_at ((a 124).set (0 : Int).toNat 0) 0
    rw [s4]; omega
  · show 2 * f 11750 ≤ am_at ((a 124).set (0 : Int).toNat 0) 0
    rw [s4]; omega
  · show am_at ((a 125).set (0 : Int).toNat (f 11709)) 0 ≤ 360
    rw [s5]; exact h1
end AmRInv

