/-! THE LOGIC'S RULES, one for each instruction -/
abbrev am_iv (v : Int) : Value := .int (Int32.ofInt v)
def am_rg (v : Int) : Prop := -2147483648 ≤ v ∧ v < 2147483648
theorem am_toInt {a : Int} (ha : am_rg a) : (Int32.ofInt a).toInt = a := Int32.toInt_ofInt_of_le (by have := ha.1; omega) (by have := ha.2; omega)
theorem am_iv_lt {a b : Int} (ha : am_rg a) (hb : am_rg b) : Int32.ofInt a < Int32.ofInt b ↔ a < b := by rw [Int32.lt_iff_toInt_lt, am_toInt ha, am_toInt hb]
theorem am_iv_le {a b : Int} (ha : am_rg a) (hb : am_rg b) : Int32.ofInt a ≤ Int32.ofInt b ↔ a ≤ b := by rw [Int32.le_iff_toInt_le, am_toInt ha, am_toInt hb]
theorem am_iv_eq {a b : Int} (ha : am_rg a) (hb : am_rg b) : Int32.ofInt a = Int32.ofInt b ↔ a = b := by rw [← Int32.toInt_inj, am_toInt ha, am_toInt hb]
/-- what is known of the locals behind a store -/
def am_lp (L : aL) (k : Nat) (v : Value) : aL := L.filter (fun q => Nat.blt q.1 k) ++ (k, v) :: L.filter (fun q => Nat.blt k q.1)
def am_lq (L : aL) (k : Nat) : Bool := L.all (fun q => !(Nat.beq (q.1 + 1) k && Nat.beq q.2.category 2))
theorem am_look_put {L : aL} {k j : Nat} {v w : Value} (h : am_look L j = some w) (hj : j ≠ k) (hc : ¬ (j + 1 = k ∧ w.category = 2)) : am_look (am_put L k v) j = some w := by
  unfold am_put
  have e0 : Nat.beq k j = false := by
    cases e : Nat.beq k j with
    | false => rfl
    | true => exact absurd (Nat.eq_of_beq_eq_true e).symm hj
  simp only [am_look, e0]
  induction L with
  | nil => cases h
  | cons a t ih =>
    simp only [am_look] at h
    cases e : Nat.beq a.1 j with
    | true =>
      simp only [e] at h
      cases h
      have ea := Nat.eq_of_beq_eq_true e
      have e1 : (!(a.1 == k) && !(a.1 + 1 == k && a.2.category == 2)) = true := by
        simp only [Bool.and_eq_true, Bool.not_eq_true', Bool.and_eq_false_iff, beq_eq_false_iff_ne]
        refine ⟨by omega, ?_⟩
        by_cases h9 : a.1 + 1 = k
        · exact Or.inr (fun h8 => hc ⟨by omega, h8⟩)
        · exact Or.inl h9
      rw [List.filter_cons_of_pos (p := fun (q : Nat × Value) => !(q.1 == k) && !(q.1 + 1 == k && q.2.category == 2)) e1]
      simp only [am_look, e]
    | false =>
      simp only [e] at h
      cases e1 : (!(a.1 == k) && !(a.1 + 1 == k && a.2.category == 2)) with
      | true =>
        rw [List.filter_cons_of_pos (p := fun (q : Nat × Value) => !(q.1 == k) && !(q.1 + 1 == k && q.2.category == 2)) e1]
        simp only [am_look, e]
        exact ih h
      | false =>
        rw [List.filter_cons_of_neg (p := fun (q : Nat × Value) => !(q.1 == k) && !(q.1 + 1 == k && q.2.category == 2)) (by simp only [e1]; decide)]
        exact ih h
theorem am_lp_ok {L L' : aL} (hL : am_sub L L') {k : Nat} {v : Value} (hq : am_lq L k = true) : am_sub (am_lp L k v) (am_put L' k v) := by
  intro q hm
  have old : ∀ q ∈ L, q.1 ≠ k → am_look (am_put L' k v) q.1 = some q.2 := by
    intro q h1 h2
    refine am_look_put (hL q h1) h2 (fun h9 => ?_)
    have := List.all_eq_true.mp hq q h1
    simp only [h9.1, h9.2, Nat.beq_refl] at this
    cases this
  rcases List.mem_append.mp hm with h1 | h1
  · obtain ⟨h2, h3⟩ := List.mem_filter.mp h1
    exact old q h2 (by have := Nat.le_of_ble_eq_true h3; omega)
  · rcases List.mem_cons.mp h1 with h2 | h2
    · subst h2
      show am_look ((k, v) :: _) k = some v
      simp [am_look]
    · obtain ⟨h3, h4⟩ := List.mem_filter.mp h2
      exact old q h3 (by have := Nat.le_of_ble_eq_true h4; omega)
section AmRules
variable {X : List Value} {d : Nat} {r : aM} {pc pc1 : Nat} {L L1 : aL} {S S1 : List Value} {h h1 : aH} {Q : Option Value → aH → Prop} {E : Nat → aH → Prop} {v w : Value} {k : Nat} {x y z : Int}
theorem am_riload (hq : am_look r.2.2.2.2.2.2.2 pc = some (.iload k, 2)) (hv : am_look L k = some v) (hI : am_isI v = true) (ht : am_T X d r (pc + 2) L (v :: S) h Q E) : am_T X d r pc L S h Q E :=
  am_T1 hq (fun call L' hL => ⟨L', by
    have := hL _ (am_look_mem hv)
    simp [am_step, am_sim, am_br, am_obr, am_pure, am_ld, am_chk, this, hI, am_ilen], hL⟩) rfl ht
theorem am_riload_n {k : Fin 4} (hq : am_look r.2.2.2.2.2.2.2 pc = some (.iload_n k, 1)) (hv : am_look L k.val = some v) (hI : am_isI v = true) (ht : am_T X d r (pc + 1) L (v :: S) h Q E) : am_T X d r pc L S h Q E :=
  am_T1 hq (fun call L' hL => ⟨L', by
    have := hL _ (am_look_mem hv)
    simp [am_step, am_sim, am_br, am_obr, am_pure, am_ld, am_chk, this, hI, am_ilen], hL⟩) rfl ht
theorem am_raload (hq : am_look r.2.2.2.2.2.2.2 pc = some (.aload k, 2)) (hv : am_look L k = some v) (hI : am_isR v = true) (ht : am_T X d r (pc + 2) L (v :: S) h Q E) : am_T X d r pc L S h Q E :=
  am_T1 hq (fun call L' hL => ⟨L', by
    have := hL _ (am_look_mem hv)
    simp [am_step, am_sim, am_br, am_obr, am_pure, am_ld, am_chk, this, hI, am_ilen], hL⟩) rfl ht
theorem am_raload_n {k : Fin 4} (hq : am_look r.2.2.2.2.2.2.2 pc = some (.aload_n k, 1)) (hv : am_look L k.val = some v) (hI : am_isR v = true) (ht : am_T X d r (pc + 1) L (v :: S) h Q E) : am_T X d r pc L S h Q E :=
  am_T1 hq (fun call L' hL => ⟨L', by
    have := hL _ (am_look_mem hv)
    simp [am_step, am_sim, am_br, am_obr, am_pure, am_ld, am_chk, this, hI, am_ilen], hL⟩) rfl ht
theorem am_rlload_n {k : Fin 4} (hq : am_look r.2.2.2.2.2.2.2 pc = some (.lload_n k, 1)) (hv : am_look L k.val = some v) (hI : am_isL v = true) (ht : am_T X d r (pc + 1) L (v :: S) h Q E) : am_T X d r pc L S h Q E :=
  am_T1 hq (fun call L' hL => ⟨L', by
    have := hL _ (am_look_mem hv)
    simp [am_step, am_sim, am_br, am_obr, am_pure, am_ld, am_chk, this, hI, am_ilen], hL⟩) rfl ht
theorem am_ristore (hq : am_look r.2.2.2.2.2.2.2 pc = some (.istore k, 2)) (hI : am_isI v = true) (hk : Nat.blt k r.2.2.1 = true) (hc : am_lq L k = true) (hL1 : am_lp L k v = L1) (ht : am_T X d r (pc + 2) L1 S h Q E) : am_T X d r pc L (v :: S) h Q E :=
  am_T1 hq (fun call L' hL => ⟨am_put L' k v, by
    simp [am_step, am_sim, am_br, am_obr, am_pure, am_ld, am_sto, am_hd, hI, hk, am_ilen], hL1 ▸ am_lp_ok hL hc⟩) rfl ht
theorem am_ristore_n {k : Fin 4} (hq : am_look r.2.2.2.2.2.2.2 pc = some (.istore_n k, 1)) (hI : am_isI v = true) (hk : Nat.blt k.val r.2.2.1 = true) (hc : am_lq L k.val = true) (hL1 : am_lp L k.val v = L1) (ht : am_T X d r (pc + 1) L1 S h Q E) : am_T X d r pc L (v :: S) h Q E :=
  am_T1 hq (fun call L' hL => ⟨am_put L' k.val v, by
    simp [am_step, am_sim, am_br, am_obr, am_pure, am_ld, am_sto, am_hd, hI, hk, am_ilen], hL1 ▸ am_lp_ok hL hc⟩) rfl ht
theorem am_rastore (hq : am_look r.2.2.2.2.2.2.2 pc = some (.astore k, 2)) (hI : am_isR v = true) (hk : Nat.blt k r.2.2.1 = true) (hc : am_lq L k = true) (hL1 : am_lp L k v = L1) (ht : am_T X d r (pc + 2) L1 S h Q E) : am_T X d r pc L (v :: S) h Q E :=
  am_T1 hq (fun call L' hL => ⟨am_put L' k v, by
    simp [am_step, am_sim, am_br, am_obr, am_pure, am_ld, am_sto, am_hd, hI, hk, am_ilen], hL1 ▸ am_lp_ok hL hc⟩) rfl ht
theorem am_rastore_n {k : Fin 4} (hq : am_look r.2.2.2.2.2.2.2 pc = some (.astore_n k, 1)) (hI : am_isR v = true) (hk : Nat.blt k.val r.2.2.1 = true) (hc : am_lq L k.val = true) (hL1 : am_lp L k.val v = L1) (ht : am_T X d r (pc + 1) L1 S h Q E) : am_T X d r pc L (v :: S) h Q E :=
  am_T1 hq (fun call L' hL => ⟨am_put L' k.val v, by
    simp [am_step, am_sim, am_br, am_obr, am_pure, am_ld, am_sto, am_hd, hI, hk, am_ilen], hL1 ▸ am_lp_ok hL hc⟩) rfl ht
theorem am_riinc {n : Int} (hq : am_look r.2.2.2.2.2.2.2 pc = some (.iinc k n, 3)) (hv : am_look L k = some (am_iv x)) (hk : Nat.blt k r.2.2.1 = true) (hc : am_lq L k = true) (hL1 : am_lp L k (am_iv (x + n)) = L1) (ht : am_T X d r (pc + 3) L1 S h Q E) : am_T X d r pc L S h Q E :=
  am_T1 hq (fun call L' hL => ⟨am_put L' k (am_iv (x + n)), by
    have := hL _ (am_look_mem hv)
    simp [am_step, am_sim, am_br, am_obr, am_pure, am_ld, am_sto, am_inc, this, hk, am_ilen, am_iv, Int32.ofInt_add], hL1 ▸ am_lp_ok hL hc⟩) rfl ht
theorem am_rpure {i : Instr} {len : Nat} (hq : am_look r.2.2.2.2.2.2.2 pc = some (i, len)) (hs : ∀ L', am_sim (X, [], []) r i len pc L' S h = some (pc + len, L', S1, h, 0, 0)) (ht : am_T X d r (pc + len) L S1 h Q E) : am_T X d r pc L S h Q E := am_T2 hq hs rfl ht
theorem am_riconst {n : Int} (hq : am_look r.2.2.2.2.2.2.2 pc = some (.iconst n, 1)) (ht : am_T X d r (pc + 1) L (am_iv n :: S) h Q E) : am_T X d r pc L S h Q E := am_rpure hq (fun _ => rfl) ht
theorem am_rbipush {n : Int} (hq : am_look r.2.2.2.2.2.2.2 pc = some (.bipush n, 2)) (hn : (Int8.ofInt n).toInt32 = Int32.ofInt n) (ht : am_T X d r (pc + 2) L (am_iv n :: S) h Q E) : am_T X d r pc L S h Q E := am_rpure hq (fun _ => by simp [am_sim, am_br, am_obr, am_pure, am_ilen, hn]) ht
theorem am_rsipush {n : Int} (hq : am_look r.2.2.2.2.2.2.2 pc = some (.sipush n, 3)) (hn : (Int16.ofInt n).toInt32 = Int32.ofInt n) (ht : am_T X d r (pc + 3) L (am_iv n :: S) h Q E) : am_T X d r pc L S h Q E := am_rpure hq (fun _ => by simp [am_sim, am_br, am_obr, am_pure, am_ilen, hn]) ht
theorem am_riadd (hq : am_look r.2.2.2.2.2.2.2 pc = some (.iadd, 1)) (ht : am_T X d r (pc + 1) L (am_iv (x + y) :: S) h Q E) : am_T X d r pc L (am_iv y :: am_iv x :: S) h Q E := am_rpure hq (fun _ => by simp [am_sim, am_br, am_obr, am_pure, am_ii, am_ilen, Int32.ofInt_add]) ht
theorem am_risub (hq : am_look r.2.2.2.2.2.2.2 pc = some (.isub, 1)) (ht : am_T X d r (pc + 1) L (am_iv (x - y) :: S) h Q E) : am_T X d r pc L (am_iv y :: am_iv x :: S) h Q E := am_rpure hq (fun _ => by simp [am_sim, am_br, am_obr, am_pure, am_ii, am_ilen, Int32.ofInt_sub]) ht
theorem am_rimul (hq : am_look r.2.2.2.2.2.2.2 pc = some (.imul, 1)) (ht : am_T X d r (pc + 1) L (am_iv (x * y) :: S) h Q E) : am_T X d r pc L (am_iv y :: am_iv x :: S) h Q E := am_rpure hq (fun _ => by simp [am_sim, am_br, am_obr, am_pure, am_ii, am_ilen, Int32.ofInt_mul]) ht
theorem am_rineg (hq : am_look r.2.2.2.2.2.2.2 pc = some (.ineg, 1)) (ht : am_T X d r (pc + 1) L (am_iv (-x) :: S) h Q E) : am_T X d r pc L (am_iv x :: S) h Q E := am_rpure hq (fun _ => by simp [am_sim, am_br, am_obr, am_pure, am_neg, am_ilen, Int32.ofInt_neg]) ht
def am_and (x y : Int) : Int := (Int32.ofInt x &&& Int32.ofInt y).toInt
def am_or (x y : Int) : Int := (Int32.ofInt x ||| Int32.ofInt y).toInt
def am_shl (x y : Int) : Int := (Int32.ofInt x <<< (Int32.ofInt y &&& 31)).toInt
def am_shr (x y : Int) : Int := (Int32.ofInt x >>> (Int32.ofInt y &&& 31)).toInt
theorem am_riand (hq : am_look r.2.2.2.2.2.2.2 pc = some (.iand, 1)) (ht : am_T X d r (pc + 1) L (am_iv (am_and x y) :: S) h Q E) : am_T X d r pc L (am_iv y :: am_iv x :: S) h Q E := am_rpure hq (fun _ => by simp [am_sim, am_br, am_obr, am_pure, am_ii, am_ilen, am_and, Int32.ofInt_toInt]) ht
theorem am_rior (hq : am_look r.2.2.2.2.2.2.2 pc = some (.ior, 1)) (ht : am_T X d r (pc + 1) L (am_iv (am_or x y) :: S) h Q E) : am_T X d r pc L (am_iv y :: am_iv x :: S) h Q E := am_rpure hq (fun _ => by simp [am_sim, am_br, am_obr, am_pure, am_ii, am_ilen, am_or, Int32.ofInt_toInt]) ht
theorem am_rishl (hq : am_look r.2.2.2.2.2.2.2 pc = some (.ishl, 1)) (ht : am_T X d r (pc + 1) L (am_iv (am_shl x y) :: S) h Q E) : am_T X d r pc L (am_iv y :: am_iv x :: S) h Q E := am_rpure hq (fun _ => by simp [am_sim, am_br, am_obr, am_pure, am_ii, am_ilen, am_shl, Int32.ofInt_toInt]) ht
theorem am_rishr (hq : am_look r.2.2.2.2.2.2.2 pc = some (.ishr, 1)) (ht : am_T X d r (pc + 1) L (am_iv (am_shr x y) :: S) h Q E) : am_T X d r pc L (am_iv y :: am_iv x :: S) h Q E := am_rpure hq (fun _ => by simp [am_sim, am_br, am_obr, am_pure, am_ii, am_ilen, am_shr, Int32.ofInt_toInt]) ht
theorem am_rdup (hq : am_look r.2.2.2.2.2.2.2 pc = some (.dup, 1)) (hv : v.category = 1) (ht : am_T X d r (pc + 1) L (v :: v :: S) h Q E) : am_T X d r pc L (v :: S) h Q E := am_rpure hq (fun _ => by simp [am_sim, am_br, am_obr, am_pure, am_dup, am_ilen, hv]) ht
theorem am_rpop (hq : am_look r.2.2.2.2.2.2.2 pc = some (.pop, 1)) (hv : v.category = 1) (ht : am_T X d r (pc + 1) L S h Q E) : am_T X d r pc L (v :: S) h Q E := am_rpure hq (fun _ => by simp [am_sim, am_br, am_obr, am_pure, am_pop, am_ilen, hv]) ht
theorem am_rdup2 (hq : am_look r.2.2.2.2.2.2.2 pc = some (.dup2, 1)) (hv : v.category = 1) (hw : w.category = 1) (ht : am_T X d r (pc + 1) L (v :: w :: v :: w :: S) h Q E) : am_T X d r pc L (v :: w :: S) h Q E := am_rpure hq (fun _ => by simp [am_sim, am_br, am_obr, am_pure, am_dup2, am_ilen, hv, hw]) ht
end AmRules
