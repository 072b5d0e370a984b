/-! THE LOGIC'S RULES: branches, heap, calls, ends -/
section AmRules2
variable {X : List Value} {d : Nat} {r : aM} {pc pc1 g : Nat} {L L1 : aL} {S S1 : List Value} {h h1 : aH} {Q : Option Value → aH → Prop} {E : Nat → aH → Prop} {v w : Value} {k : Nat} {x y z : Int} {off : Int} {idx : Nat}
theorem am_rif {c : ClassFile.Cond} {b : Bool} (hq : am_look r.2.2.2.2.2.2.2 pc = some (.ifCond c off, 3)) (hg : am_tgt pc off = some g) (hb : am_cnd c (Int32.ofInt x) 0 = b) (ht : am_T X d r (bif b then g else pc + 3) L S h Q E) : am_T X d r pc L (am_iv x :: S) h Q E :=
  am_T2 hq (fun _ => by simp [am_sim, am_br, am_b1, am_go, hg, hb, am_ilen]) rfl ht
theorem am_rif2 {c : ClassFile.Cond} {b : Bool} (hq : am_look r.2.2.2.2.2.2.2 pc = some (.if_icmp c off, 3)) (hg : am_tgt pc off = some g) (hb : am_cnd c (Int32.ofInt x) (Int32.ofInt y) = b) (ht : am_T X d r (bif b then g else pc + 3) L S h Q E) : am_T X d r pc L (am_iv y :: am_iv x :: S) h Q E :=
  am_T2 hq (fun _ => by simp [am_sim, am_br, am_b2, am_go, hg, hb, am_ilen]) rfl ht
theorem am_rg0 : am_rg 0 := by constructor <;> omega
theorem am_rgoto (hq : am_look r.2.2.2.2.2.2.2 pc = some (.goto off, 3)) (hg : am_tgt pc off = some g) (ht : am_T X d r g L S h Q E) : am_T X d r pc L S h Q E :=
  am_T2 hq (fun _ => by simp [am_sim, am_br, am_go, hg, am_ilen]) rfl ht
theorem am_cnd_eq (hx : am_rg x) (hy : am_rg y) : (am_cnd .eq (Int32.ofInt x) (Int32.ofInt y) = true ↔ x = y) := by
  show decide _ = true ↔ _
  rw [decide_eq_true_iff]
  exact am_iv_eq hx hy
theorem am_ric_eq (hq : am_look r.2.2.2.2.2.2.2 pc = some (.if_icmp .eq off, 3)) (hg : am_tgt pc off = some g) (hx : am_rg x) (hy : am_rg y) (h1 : x = y → am_T X d r g L S h Q E) (h2 : x ≠ y → am_T X d r (pc + 3) L S h Q E) : am_T X d r pc L (am_iv y :: am_iv x :: S) h Q E := by
  cases hb : am_cnd .eq (Int32.ofInt x) (Int32.ofInt y) with
  | true => exact am_rif2 hq hg hb (h1 ((am_cnd_eq hx hy).mp hb))
  | false => exact am_rif2 hq hg hb (h2 (by have := mt (am_cnd_eq hx hy).mpr (by rw [hb]; decide); omega))
theorem am_rif_eq (hq : am_look r.2.2.2.2.2.2.2 pc = some (.ifCond .eq off, 3)) (hg : am_tgt pc off = some g) (hx : am_rg x) (h1 : x = 0 → am_T X d r g L S h Q E) (h2 : x ≠ 0 → am_T X d r (pc + 3) L S h Q E) : am_T X d r pc L (am_iv x :: S) h Q E := by
  cases hb : am_cnd .eq (Int32.ofInt x) 0 with
  | true => exact am_rif hq hg hb (h1 ((am_cnd_eq hx am_rg0).mp hb))
  | false => exact am_rif hq hg hb (h2 (by have := mt (am_cnd_eq hx am_rg0).mpr (by rw [show (Int32.ofInt 0) = 0 from rfl, hb]; decide); omega))
theorem am_cnd_ne (hx : am_rg x) (hy : am_rg y) : (am_cnd .ne (Int32.ofInt x) (Int32.ofInt y) = true ↔ x ≠ y) := by
  show decide _ = true ↔ _
  rw [decide_eq_true_iff]
  exact not_congr (am_iv_eq hx hy)
theorem am_ric_ne (hq : am_look r.2.2.2.2.2.2.2 pc = some (.if_icmp .ne off, 3)) (hg : am_tgt pc off = some g) (hx : am_rg x) (hy : am_rg y) (h1 : x ≠ y → am_T X d r g L S h Q E) (h2 : x = y → am_T X d r (pc + 3) L S h Q E) : am_T X d r pc L (am_iv y :: am_iv x :: S) h Q E := by
  cases hb : am_cnd .ne (Int32.ofInt x) (Int32.ofInt y) with
  | true => exact am_rif2 hq hg hb (h1 ((am_cnd_ne hx hy).mp hb))
  | false => exact am_rif2 hq hg hb (h2 (by have := mt (am_cnd_ne hx hy).mpr (by rw [hb]; decide); omega))
theorem am_rif_ne (hq : am_look r.2.2.2.2.2.2.2 pc = some (.ifCond .ne off, 3)) (hg : am_tgt pc off = some g) (hx : am_rg x) (h1 : x ≠ 0 → am_T X d r g L S h Q E) (h2 : x = 0 → am_T X d r (pc + 3) L S h Q E) : am_T X d r pc L (am_iv x :: S) h Q E := by
  cases hb : am_cnd .ne (Int32.ofInt x) 0 with
  | true => exact am_rif hq hg hb (h1 ((am_cnd_ne hx am_rg0).mp hb))
  | false => exact am_rif hq hg hb (h2 (by have := mt (am_cnd_ne hx am_rg0).mpr (by rw [show (Int32.ofInt 0) = 0 from rfl, hb]; decide); omega))
theorem am_cnd_lt (hx : am_rg x) (hy : am_rg y) : (am_cnd .lt (Int32.ofInt x) (Int32.ofInt y) = true ↔ x < y) := by
  show decide _ = true ↔ _
  rw [decide_eq_true_iff]
  exact am_iv_lt hx hy
theorem am_ric_lt (hq : am_look r.2.2.2.2.2.2.2 pc = some (.if_icmp .lt off, 3)) (hg : am_tgt pc off = some g) (hx : am_rg x) (hy : am_rg y) (h1 : x < y → am_T X d r g L S h Q E) (h2 : y ≤ x → am_T X d r (pc + 3) L S h Q E) : am_T X d r pc L (am_iv y :: am_iv x :: S) h Q E := by
  cases hb : am_cnd .lt (Int32.ofInt x) (Int32.ofInt y) with
  | true => exact am_rif2 hq hg hb (h1 ((am_cnd_lt hx hy).mp hb))
  | false => exact am_rif2 hq hg hb (h2 (by have := mt (am_cnd_lt hx hy).mpr (by rw [hb]; decide); omega))
theorem am_rif_lt (hq : am_look r.2.2.2.2.2.2.2 pc = some (.ifCond .lt off, 3)) (hg : am_tgt pc off = some g) (hx : am_rg x) (h1 : x < 0 → am_T X d r g L S h Q E) (h2 : 0 ≤ x → am_T X d r (pc + 3) L S h Q E) : am_T X d r pc L (am_iv x :: S) h Q E := by
  cases hb : am_cnd .lt (Int32.ofInt x) 0 with
  | true => exact am_rif hq hg hb (h1 ((am_cnd_lt hx am_rg0).mp hb))
  | false => exact am_rif hq hg hb (h2 (by have := mt (am_cnd_lt hx am_rg0).mpr (by rw [show (Int32.ofInt 0) = 0 from rfl, hb]; decide); omega))
theorem am_cnd_ge (hx : am_rg x) (hy : am_rg y) : (am_cnd .ge (Int32.ofInt x) (Int32.ofInt y) = true ↔ y ≤ x) := by
  show decide _ = true ↔ _
  rw [decide_eq_true_iff]
  exact am_iv_le hy hx
theorem am_ric_ge (hq : am_look r.2.2.2.2.2.2.2 pc = some (.if_icmp .ge off, 3)) (hg : am_tgt pc off = some g) (hx : am_rg x) (hy : am_rg y) (h1 : y ≤ x → am_T X d r g L S h Q E) (h2 : x < y → am_T X d r (pc + 3) L S h Q E) : am_T X d r pc L (am_iv y :: am_iv x :: S) h Q E := by
  cases hb : am_cnd .ge (Int32.ofInt x) (Int32.ofInt y) with
  | true => exact am_rif2 hq hg hb (h1 ((am_cnd_ge hx hy).mp hb))
  | false => exact am_rif2 hq hg hb (h2 (by have := mt (am_cnd_ge hx hy).mpr (by rw [hb]; decide); omega))
theorem am_rif_ge (hq : am_look r.2.2.2.2.2.2.2 pc = some (.ifCond .ge off, 3)) (hg : am_tgt pc off = some g) (hx : am_rg x) (h1 : 0 ≤ x → am_T X d r g L S h Q E) (h2 : x < 0 → am_T X d r (pc + 3) L S h Q E) : am_T X d r pc L (am_iv x :: S) h Q E := by
  cases hb : am_cnd .ge (Int32.ofInt x) 0 with
  | true => exact am_rif hq hg hb (h1 ((am_cnd_ge hx am_rg0).mp hb))
  | false => exact am_rif hq hg hb (h2 (by have := mt (am_cnd_ge hx am_rg0).mpr (by rw [show (Int32.ofInt 0) = 0 from rfl, hb]; decide); omega))
theorem am_cnd_gt (hx : am_rg x) (hy : am_rg y) : (am_cnd .gt (Int32.ofInt x) (Int32.ofInt y) = true ↔ y < x) := by
  show decide _ = true ↔ _
  rw [decide_eq_true_iff]
  exact am_iv_lt hy hx
theorem am_ric_gt (hq : am_look r.2.2.2.2.2.2.2 pc = some (.if_icmp .gt off, 3)) (hg : am_tgt pc off = some g) (hx : am_rg x) (hy : am_rg y) (h1 : y < x → am_T X d r g L S h Q E) (h2 : x ≤ y → am_T X d r (pc + 3) L S h Q E) : am_T X d r pc L (am_iv y :: am_iv x :: S) h Q E := by
  cases hb : am_cnd .gt (Int32.ofInt x) (Int32.ofInt y) with
  | true => exact am_rif2 hq hg hb (h1 ((am_cnd_gt hx hy).mp hb))
  | false => exact am_rif2 hq hg hb (h2 (by have := mt (am_cnd_gt hx hy).mpr (by rw [hb]; decide); omega))
theorem am_rif_gt (hq : am_look r.2.2.2.2.2.2.2 pc = some (.ifCond .gt off, 3)) (hg : am_tgt pc off = some g) (hx : am_rg x) (h1 : 0 < x → am_T X d r g L S h Q E) (h2 : x ≤ 0 → am_T X d r (pc + 3) L S h Q E) : am_T X d r pc L (am_iv x :: S) h Q E := by
  cases hb : am_cnd .gt (Int32.ofInt x) 0 with
  | true => exact am_rif hq hg hb (h1 ((am_cnd_gt hx am_rg0).mp hb))
  | false => exact am_rif hq hg hb (h2 (by have := mt (am_cnd_gt hx am_rg0).mpr (by rw [show (Int32.ofInt 0) = 0 from rfl, hb]; decide); omega))
theorem am_cnd_le (hx : am_rg x) (hy : am_rg y) : (am_cnd .le (Int32.ofInt x) (Int32.ofInt y) = true ↔ x ≤ y) := by
  show decide _ = true ↔ _
  rw [decide_eq_true_iff]
  exact am_iv_le hx hy
theorem am_ric_le (hq : am_look r.2.2.2.2.2.2.2 pc = some (.if_icmp .le off, 3)) (hg : am_tgt pc off = some g) (hx : am_rg x) (hy : am_rg y) (h1 : x ≤ y → am_T X d r g L S h Q E) (h2 : y < x → am_T X d r (pc + 3) L S h Q E) : am_T X d r pc L (am_iv y :: am_iv x :: S) h Q E := by
  cases hb : am_cnd .le (Int32.ofInt x) (Int32.ofInt y) with
  | true => exact am_rif2 hq hg hb (h1 ((am_cnd_le hx hy).mp hb))
  | false => exact am_rif2 hq hg hb (h2 (by have := mt (am_cnd_le hx hy).mpr (by rw [hb]; decide); omega))
theorem am_rif_le (hq : am_look r.2.2.2.2.2.2.2 pc = some (.ifCond .le off, 3)) (hg : am_tgt pc off = some g) (hx : am_rg x) (h1 : x ≤ 0 → am_T X d r g L S h Q E) (h2 : 0 < x → am_T X d r (pc + 3) L S h Q E) : am_T X d r pc L (am_iv x :: S) h Q E := by
  cases hb : am_cnd .le (Int32.ofInt x) 0 with
  | true => exact am_rif hq hg hb (h1 ((am_cnd_le hx am_rg0).mp hb))
  | false => exact am_rif hq hg hb (h2 (by have := mt (am_cnd_le hx am_rg0).mpr (by rw [show (Int32.ofInt 0) = 0 from rfl, hb]; decide); omega))
theorem am_rsw {dd lo hi : Int} {offs : Array Int} {len : Nat} (hq : am_look r.2.2.2.2.2.2.2 pc = some (.tableswitch dd lo hi offs, len)) (hx : am_rg x) (hg : am_tgt pc dd = some g) (h0 : (x < lo ∨ hi < x) → am_T X d r g L S h Q E) (h1 : lo ≤ x → x ≤ hi → ∃ o g1, offs[(x - lo).toNat]? = some o ∧ am_tgt pc o = some g1 ∧ am_T X d r g1 L S h Q E) : am_T X d r pc L (am_iv x :: S) h Q E := by
  by_cases hc : x < lo ∨ hi < x
  · refine am_T2 (h1 := h) (pc1 := g) (S1 := S) hq (fun _ => ?_) rfl (h0 hc)
    simp [am_sim, am_br, am_sw, am_go, hg, am_toInt hx, hc, am_isT]
  · obtain ⟨o, g1, a1, a2, a3⟩ := h1 (by omega) (by omega)
    refine am_T2 (h1 := h) (pc1 := g1) (S1 := S) hq (fun _ => ?_) rfl a3
    simp [am_sim, am_br, am_sw, am_go, a1, a2, am_toInt hx, hc, am_isT]
-- the heap
theorem am_rgetf (hq : am_look r.2.2.2.2.2.2.2 pc = some (.getfield idx, 3)) (hf : am_getf r.2.2.2.2.1 idx S h = some S1) (ht : am_T X d r (pc + 3) L S1 h Q E) : am_T X d r pc L S h Q E :=
  am_T2 hq (fun _ => by simp [am_sim, am_br, am_obr, am_pure, am_ld, am_sto, hf, am_ilen]) rfl ht
theorem am_rputf (hq : am_look r.2.2.2.2.2.2.2 pc = some (.putfield idx, 3)) (hf : am_putf r.2.2.2.2.1 (decide (r.1.name = "<init>")) idx S h = some (S1, h1)) (hlen : h1.length = h.length) (ht : am_T X d r (pc + 3) L S1 h1 Q E) : am_T X d r pc L S h Q E :=
  am_T2 hq (fun _ => by simp [am_sim, am_br, am_obr, am_pure, am_ld, am_sto, hf, am_ilen]) hlen ht
def am_ib (l : List Int) (x : Int) : Prop := 0 ≤ x ∧ x < l.length ∧ x < 2147483648
def am_at (l : List Int) (x : Int) : Int := l.getD x.toNat 0
theorem am_ixN (h0 : 0 ≤ x) (h1 : x < 2147483648) : decide (Int32.ofInt x < 0) = false ∧ (Int32.ofInt x).toNatClampNeg = x.toNat := by
  have hr : am_rg x := ⟨by omega, h1⟩
  refine ⟨?_, ?_⟩
  · rw [decide_eq_false_iff_not, show (0 : Int32) = Int32.ofInt 0 from rfl, am_iv_lt hr am_rg0]; omega
  · show (Int32.ofInt x).toInt.toNat = _
    rw [am_toInt hr]
theorem am_ix_at {l : List Int} (hi : am_ib l x) : am_ix (Int32.ofInt x) (l.map am_iv) = some (am_iv (am_at l x)) := by
  obtain ⟨h0, h1, h2⟩ := hi
  obtain ⟨e1, e2⟩ := am_ixN h0 h2
  have hlt : x.toNat < l.length := by omega
  unfold am_ix am_at
  rw [e1, e2, List.getD_eq_getElem?_getD]
  simp [hlt]
theorem am_rald {tk : Nat} {l : List Int} (hg : am_get h k = some (true, tk, l.map am_iv)) (hi : am_ib l x) : am_ald X tk (am_iv x :: .ref k :: S) h = some (am_iv (am_at l x) :: S) := by
  simp only [am_ald, hg, am_ix_at hi]
  simp
theorem am_riaload {l : List Int} (hq : am_look r.2.2.2.2.2.2.2 pc = some (.iaload, 1)) (hg : am_get h k = some (true, 0, l.map am_iv)) (hi : am_ib l x) (ht : am_T X d r (pc + 1) L (am_iv (am_at l x) :: S) h Q E) : am_T X d r pc L (am_iv x :: .ref k :: S) h Q E :=
  am_T2 hq (fun _ => by simp [am_sim, am_br, am_obr, am_pure, am_ld, am_sto, am_rald hg hi, am_ilen]) rfl ht
theorem am_rbaload {l : List Int} (hq : am_look r.2.2.2.2.2.2.2 pc = some (.baload, 1)) (hg : am_get h k = some (true, 1, l.map am_iv)) (hi : am_ib l x) (ht : am_T X d r (pc + 1) L (am_iv (am_at l x) :: S) h Q E) : am_T X d r pc L (am_iv x :: .ref k :: S) h Q E :=
  am_T2 hq (fun _ => by simp [am_sim, am_br, am_obr, am_pure, am_ld, am_sto, am_rald hg hi, am_ilen]) rfl ht
theorem am_raaload (hq : am_look r.2.2.2.2.2.2.2 pc = some (.aaload, 1)) (hf : am_ald X 3 S h = some S1) (ht : am_T X d r (pc + 1) L S1 h Q E) : am_T X d r pc L S h Q E :=
  am_T2 hq (fun _ => by simp [am_sim, am_br, am_obr, am_pure, am_ld, am_sto, hf, am_ilen]) rfl ht
theorem am_set_map (l : List Int) (n : Nat) (v : Int) : (l.map am_iv).set n (am_iv v) = (l.set n v).map am_iv := by rw [List.map_set]
theorem am_riastore {l : List Int} (hq : am_look r.2.2.2.2.2.2.2 pc = some (.iastore, 1)) (hg : am_get h k = some (true, 0, l.map am_iv)) (hi : am_ib l x) (hh : h.set k (some (true, 0, (l.set x.toNat y).map am_iv)) = h1) (ht : am_T X d r (pc + 1) L S h1 Q E) : am_T X d r pc L (am_iv y :: am_iv x :: .ref k :: S) h Q E := by
  obtain ⟨h0, h2, h3⟩ := hi
  obtain ⟨e1, e2⟩ := am_ixN h0 h3
  have hlt : x.toNat < l.length := by omega
  have hf : am_ast 0 (am_iv y :: am_iv x :: .ref k :: S) h = some (S, h1) := by
    simp only [am_ast, hg, e1, e2, List.length_map]
    rw [show (Nat.beq 0 0 && !false && Nat.blt x.toNat l.length) = true by simp [hlt]]
    simp only [am_elt, am_el0, am_isI, am_set_map, hh]
  exact am_T2 hq (fun _ => by simp [am_sim, am_br, am_obr, am_pure, am_ld, am_sto, hf, am_ilen]) (by rw [← hh, List.length_set]) ht
theorem am_rbastore {l : List Int} (hq : am_look r.2.2.2.2.2.2.2 pc = some (.bastore, 1)) (hg : am_get h k = some (true, 1, l.map am_iv)) (hi : am_ib l x) (hy : y = 0 ∨ y = 1) (hh : h.set k (some (true, 1, (l.set x.toNat y).map am_iv)) = h1) (ht : am_T X d r (pc + 1) L S h1 Q E) : am_T X d r pc L (am_iv y :: am_iv x :: .ref k :: S) h Q E := by
  obtain ⟨h0, h2, h3⟩ := hi
  obtain ⟨e1, e2⟩ := am_ixN h0 h3
  have hlt : x.toNat < l.length := by omega
  have ey : Int32.ofInt y &&& 1 = Int32.ofInt y := by rcases hy with rfl | rfl <;> decide
  have hf : am_ast 1 (am_iv y :: am_iv x :: .ref k :: S) h = some (S, h1) := by
    simp only [am_ast, hg, e1, e2, List.length_map]
    rw [show (Nat.beq 1 1 && !false && Nat.blt x.toNat l.length) = true by simp [hlt]]
    simp only [am_elt, am_el1, ey, am_set_map, hh]
  exact am_T2 hq (fun _ => by simp [am_sim, am_br, am_obr, am_pure, am_ld, am_sto, hf, am_ilen]) (by rw [← hh, List.length_set]) ht
theorem am_rlen {tk : Nat} {l : List Value} (hq : am_look r.2.2.2.2.2.2.2 pc = some (.arraylength, 1)) (hg : am_get h k = some (true, tk, l)) (ht : am_T X d r (pc + 1) L (am_iv (l.length : Int) :: S) h Q E) : am_T X d r pc L (.ref k :: S) h Q E :=
  am_T2 hq (fun _ => by simp [am_sim, am_br, am_obr, am_pure, am_ld, am_sto, am_len, hg, am_ilen, Int32.ofInt_eq_ofNat]) rfl ht
-- ends
theorem am_riret (hq : am_look r.2.2.2.2.2.2.2 pc = some (.ireturn, 1)) (hr : am_ri r.2.2.2.1 [v] = some v) (hQ : Q (some v) h) : am_T X d r pc L [v] h Q E :=
  am_T0 (k := 0) (o := .inl (some v)) (h1 := h) hq (fun _ => by simp [am_step, am_sim, am_br, am_obr, am_pure, am_ld, am_sto, am_sym, am_sym1, am_sym2, am_fy, hr, am_ilen]) rfl hQ
theorem am_raret (hq : am_look r.2.2.2.2.2.2.2 pc = some (.areturn, 1)) (hr : am_ra r.2.2.2.1 [v] = some v) (hQ : Q (some v) h) : am_T X d r pc L [v] h Q E :=
  am_T0 (k := 0) (o := .inl (some v)) (h1 := h) hq (fun _ => by simp [am_step, am_sim, am_br, am_obr, am_pure, am_ld, am_sto, am_sym, am_sym1, am_sym2, am_fy, hr, am_ilen]) rfl hQ
theorem am_rret (hq : am_look r.2.2.2.2.2.2.2 pc = some (.return_, 1)) (hr : am_rv r.2.2.2.1 [] = true) (hQ : Q none h) : am_T X d r pc L [] h Q E :=
  am_T0 (k := 0) (o := .inl none) (h1 := h) hq (fun _ => by simp [am_step, am_sim, am_br, am_obr, am_pure, am_ld, am_sto, am_sym, am_sym1, am_sym2, am_fy, hr, am_ilen]) rfl hQ
theorem am_rthrow {ik c : Nat} (hq : am_look r.2.2.2.2.2.2.2 pc = some (.new ik, 3)) (hn : am_look2 am_nw r.2.2.2.2.1 ik = none) (ht : am_thr r ik pc = some c) (hs : Nat.ble (am_sum S) 8 = true) (hE : E c (h ++ [none])) : am_T X d r pc L S h Q E :=
  am_T0 (k := 1) (o := .inr c) (h1 := h ++ [none]) hq (fun _ => by simp [am_step, am_sim, am_br, am_obr, am_pure, am_ld, am_sto, am_new, hn, ht, hs, am_ilen]) (by simp) hE
end AmRules2
