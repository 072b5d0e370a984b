/-! THE GROUND AT THE LAW'S ENTRY -/
def am_so (i : Nat) : Nat := (am_st.getD i (0, 0, 0)).1
def am_sk (i : Nat) : Nat := (am_st.getD i (0, 0, 0)).2.1
abbrev am_pre : Cond := Jvm.Cond.and given_1 narrow_1
set_option maxRecDepth 100000 in
theorem am_st_eq : ∀ r ∈ am_st, r = (am_so r.2.2, am_sk r.2.2, r.2.2) ∧ r.2.2 < 33 := by decide +kernel
set_option maxRecDepth 100000 in
theorem am_fl1 : ∀ i, i < 33 → Cond.exactly (.string (am_R (am_so i)) (am_sk i)) "java/lang/String" ∈ flatC am_pre := by decide +kernel
set_option maxRecDepth 100000 in
theorem am_fl2 : ∀ i, i < 33 → Cond.eq (.field (.string (am_R (am_so i)) (am_sk i)) "java/lang/String" "coder" "B") (.int 0) ∈ flatC am_pre := by decide +kernel
set_option maxRecDepth 100000 in
theorem am_fl3 : ∀ i, i < 33 → Cond.arrayOf (.field (.string (am_R (am_so i)) (am_sk i)) "java/lang/String" "value" "[B") .byte ∈ flatC am_pre := by decide +kernel
set_option maxRecDepth 100000 in
theorem am_fl4 : ∀ i, i < 33 → Cond.eq (.length (.field (.string (am_R (am_so i)) (am_sk i)) "java/lang/String" "value" "[B")) (.int (Int32.ofNat (am_sl i))) ∈ flatC am_pre := by decide +kernel
set_option maxRecDepth 100000 in
theorem am_fl5_0 : ∀ i, i < 5 → ∀ j, j < am_sl i → Cond.eq (.elem (.field (.string (am_R (am_so i)) (am_sk i)) "java/lang/String" "value" "[B") (.int (Int32.ofNat j))) (.int ((am_sB.getD i []).getD j 0)) ∈ flatC am_pre := by decide +kernel
set_option maxRecDepth 100000 in
theorem am_fl5_1 : ∀ i, i < 9 → 5 ≤ i → ∀ j, j < am_sl i → Cond.eq (.elem (.field (.string (am_R (am_so i)) (am_sk i)) "java/lang/String" "value" "[B") (.int (Int32.ofNat j))) (.int ((am_sB.getD i []).getD j 0)) ∈ flatC am_pre := by decide +kernel
set_option maxRecDepth 100000 in
theorem am_fl5_2 : ∀ i, i < 13 → 9 ≤ i → ∀ j, j < am_sl i → Cond.eq (.elem (.field (.string (am_R (am_so i)) (am_sk i)) "java/lang/String" "value" "[B") (.int (Int32.ofNat j))) (.int ((am_sB.getD i []).getD j 0)) ∈ flatC am_pre := by decide +kernel
set_option maxRecDepth 100000 in
theorem am_fl5_3 : ∀ i, i < 17 → 13 ≤ i → ∀ j, j < am_sl i → Cond.eq (.elem (.field (.string (am_R (am_so i)) (am_sk i)) "java/lang/String" "value" "[B") (.int (Int32.ofNat j))) (.int ((am_sB.getD i []).getD j 0)) ∈ flatC am_pre := by decide +kernel
set_option maxRecDepth 100000 in
theorem am_fl5_4 : ∀ i, i < 21 → 17 ≤ i → ∀ j, j < am_sl i → Cond.eq (.elem (.field (.string (am_R (am_so i)) (am_sk i)) "java/lang/String" "value" "[B") (.int (Int32.ofNat j))) (.int ((am_sB.getD i []).getD j 0)) ∈ flatC am_pre := by decide +kernel
set_option maxRecDepth 100000 in
theorem am_fl5_5 : ∀ i, i < 25 → 21 ≤ i → ∀ j, j < am_sl i → Cond.eq (.elem (.field (.string (am_R (am_so i)) (am_sk i)) "java/lang/String" "value" "[B") (.int (Int32.ofNat j))) (.int ((am_sB.getD i []).getD j 0)) ∈ flatC am_pre := by decide +kernel
set_option maxRecDepth 100000 in
theorem am_fl5_6 : ∀ i, i < 29 → 25 ≤ i → ∀ j, j < am_sl i → Cond.eq (.elem (.field (.string (am_R (am_so i)) (am_sk i)) "java/lang/String" "value" "[B") (.int (Int32.ofNat j))) (.int ((am_sB.getD i []).getD j 0)) ∈ flatC am_pre := by decide +kernel
set_option maxRecDepth 100000 in
theorem am_fl5_7 : ∀ i, i < 33 → 29 ≤ i → ∀ j, j < am_sl i → Cond.eq (.elem (.field (.string (am_R (am_so i)) (am_sk i)) "java/lang/String" "value" "[B") (.int (Int32.ofNat j))) (.int ((am_sB.getD i []).getD j 0)) ∈ flatC am_pre := by decide +kernel
theorem am_fl5 : ∀ i, i < 33 → ∀ j, j < am_sl i → Cond.eq (.elem (.field (.string (am_R (am_so i)) (am_sk i)) "java/lang/String" "value" "[B") (.int (Int32.ofNat j))) (.int ((am_sB.getD i []).getD j 0)) ∈ flatC am_pre := by
  intro i hi
  by_cases h0 : i < 5
  · exact am_fl5_0 i h0
  by_cases h1 : i < 9
  · exact am_fl5_1 i h1 (by omega)
  by_cases h2 : i < 13
  · exact am_fl5_2 i h2 (by omega)
  by_cases h3 : i < 17
  · exact am_fl5_3 i h3 (by omega)
  by_cases h4 : i < 21
  · exact am_fl5_4 i h4 (by omega)
  by_cases h5 : i < 25
  · exact am_fl5_5 i h5 (by omega)
  by_cases h6 : i < 29
  · exact am_fl5_6 i h6 (by omega)
  exact am_fl5_7 i hi (by omega)
set_option maxRecDepth 100000 in
theorem am_fl6 : ∀ i, i < 33 → Cond.stringRef (am_R (am_so i)) (am_sk i) (am_sx i) ∈ tables_1 := by decide +kernel
set_option maxRecDepth 100000 in
theorem am_fl7 : ∀ x, x < 4 → ∀ y, y < 4 → x ≠ y → Cond.not (.castable (am_xn x) (am_xn y)) ∈ flatC am_pre := by decide +kernel
set_option maxRecDepth 100000 in
theorem am_fl8 : ∀ i, i < 33 → am_sl i < 2 ^ 31 := by decide +kernel
theorem am_start {s : State} {b L : Nat} {xr : Nat → Int32} (hts : ∀ w ∈ lw_tbl, w.before #[Value.ref b] s = true) (hX : va_X b L xr s s.heap) (hbl : b < s.heap.size) (hgv : am_pre.before #[Value.ref b] s = true) :
    ∃ (D : va_G) (dA : Nat → ClassId) (adK : Nat → Nat), ∀ (E : aE) (xs : aX), (∀ k, k < 1000000 → E.1 k = s.heap.size + k) → E.1 2000000 = b → (∀ i, i < 33 → E.1 (1000000 + i) = adK i) → xs.1.length = L → (∀ (j : Nat) (v : Value), xs.1[j]? = some v → am_tv E v = .int (xr j)) → am_Yo E xs →
      am_G s.heap.size D dA E xs b s := by
  have hs := flat_of_before _ hgv
  have hA : ∀ a : Nat, a < s.heap.size → ¬ am_A s.heap.size a := fun a h => Nat.not_le.mpr h
  have hw : ∀ w, am_in w → ∀ a, w.before a s = true := fun w h a => am_warm h.2 (State.WarmedH.refl s) (hts w h.1)
  have hts1 : ∀ w ∈ tables_1, w.before #[Value.ref b] s = true := fun w h => hts w (List.mem_append_right _ h)
  -- the classes
  have hcl : ∀ ci : Nat, ∃ q : ClassId × (Nat → Nat), ∀ c : vw_C, vwCl[ci]? = some c → u_Kn s c.1 c.2.1 c.2.2 q.1 q.2 := by
    intro ci
    cases hc : vwCl[ci]? with
    | none => exact ⟨(0, fun _ => 0), fun c h => by cases h⟩
    | some c =>
      have hok := am_cl_ok ci c hc
      obtain ⟨cC, iS, h9⟩ := u_known (ws := u_ws c.1 c.2.1 c.2.2) (s := s) (args := #[]) (C := c.1) (T := c.2.1) (N := c.2.2) (n := c.2.2) (fun w hw9 => by
        obtain ⟨k, hk, rfl⟩ := List.mem_map.mp hw9
        exact hw _ (hok.1 k (List.mem_range.mp hk)) _) (fun w h => h) (hw _ hok.2.2.2.1 _)
      exact ⟨(cC, iS), fun c' h => by cases h; exact h9⟩
  obtain ⟨fD, hfD⟩ := Classical.axiomOfChoice hcl
  -- the arrays' classes
  have har : ∀ ty : FieldType, (Cond.arrayClass ty).before #[] s = true → (∀ C, ty ≠ .object C) → ∃ cA, ArrOfT s cA ty ∧ va_RA s cA ty := by
    intro ty h hno
    obtain ⟨cA, kA, comp, h1, h2, h3⟩ := Cond.arrayClass_spec h
    refine ⟨cA, fun n z => ⟨fun k h => (by cases h), kA, h2, comp, h3⟩, ?_⟩
    cases ty <;> first | exact h1 | exact absurd rfl (hno _)
  obtain ⟨c0, a0⟩ := har .int (hw _ am_wI _) (fun C h => by cases h)
  obtain ⟨c1, a1⟩ := har .boolean (hw _ am_wZ _) (fun C h => by cases h)
  obtain ⟨c2, a2⟩ := har .long (hw _ am_wJ _) (fun C h => by cases h)
  have hao : (Cond.arrayOver (.object RX4)).before #[Value.ref b] s = true := hts1 _ (by decide +kernel)
  obtain ⟨comp, c3, k3, e1, e2, e3, e4, e5⟩ := Cond.arrayOver_spec hao
  have a3 : ArrOfT s c3 (.object RX4) ∧ va_RA s c3 (.object RX4) := ⟨fun n z => ⟨fun k h => (by cases h), k3, e3, comp, e4⟩, k3, comp, e3, e4, e1, e5⟩
  -- the strings
  have h0 : ∀ i : Nat, ∃ q : Nat × Nat, i < 33 → (Term.string (am_R (am_so i)) (am_sk i)).eval #[Value.ref b] s none [] s = some (.ref q.1) ∧ va_O "java/lang/String" q.1 (am_A s.heap.size) s s.heap ∧ va_OF "java/lang/String" "coder" "B" (.int 0) q.1 (am_A s.heap.size) s s.heap ∧ va_OF "java/lang/String" "value" "[B" (.ref q.2) q.1 (am_A s.heap.size) s s.heap ∧
      va_T .byte q.2 (am_sl i) (fun j => .int ((am_sB.getD i []).getD j 0)) (am_A s.heap.size) s s.heap := by
    intro i
    by_cases hi : i < 33
    · obtain ⟨a, c, cA, kA, q1, q2, q3, q4, q5, q6, -⟩ := Cond.exactly_spec (args := #[Value.ref b]) (first := s) (o := none) (s := s) (idx := []) (t := .string (am_R (am_so i)) (am_sk i)) (cls := "java/lang/String") (hs _ (am_fl1 i hi))
      obtain ⟨t, ht, hT⟩ := va_Tof (f := fun j => .int ((am_sB.getD i []).getD j 0)) (A := am_A s.heap.size) (am_fl8 i hi) (hs _ (am_fl3 i hi)) (va_eqt (hs _ (am_fl4 i hi))) (fun j hj => va_eqt (hs _ (am_fl5 i hi j hj))) hA
      exact ⟨(a, t), fun _ => ⟨q1, ⟨cA, q3, q5, by rw [q6]; exact q2, hA a (Array.getElem?_eq_some_iff.mp q3).1⟩, vk_OFof q1 (va_eqt (hs _ (am_fl2 i hi))) hA, vk_OFof q1 ht hA, hT⟩⟩
    · exact ⟨(0, 0), fun h => absurd h hi⟩
  obtain ⟨ad, had⟩ := Classical.axiomOfChoice h0
  refine ⟨(fun ci => (fD ci).1, fun ci => (fD ci).2), fun t => match t with
    | 0 => c0
    | 1 => c1
    | 2 => c2
    | _ => c3, fun i => (ad i).1, ?_⟩
  intro E xs h1 h2 h3 h4 h5 h6
  refine ⟨hw, ⟨fun ci q hq => hfD ci q hq, fun k q hq => ?_⟩, va_AO.of hao, ?_, ?_, ⟨xr, by rw [h4]; exact hX, h5⟩, hbl, h1, h2, fun x y hx hy hxy => va_Nc.of (hs _ (am_fl7 x hx y hy hxy)), ⟨?_, fun r hr => ?_, fun i => (ad i).2, fun i hi => ?_⟩, h6, va_Zqof (hts1 _ (by decide +kernel)) (hts1 _ (by decide +kernel)) (hs _ (by decide +kernel)) hA⟩
  · match k, hq with
    | 0, hq => cases hq; exact a0
    | 1, hq => cases hq; exact a1
    | 2, hq => cases hq; exact a2
    | 3, hq => cases hq; exact a3
    | k + 4, hq => simp [am_tys] at hq
  · exact vx_Zqof (hts1 _ (by decide +kernel)) (hts1 _ (by decide +kernel)) (hs _ (by decide +kernel)) hA
  · exact vx_Zqof (hts1 _ (by decide +kernel)) (hts1 _ (by decide +kernel)) (hs _ (by decide +kernel)) hA
  · exact va_Zof (hts1 _ (by decide +kernel)) (hts1 _ (by decide +kernel)) (va_eqt (hs _ (by decide +kernel))) hA
  · obtain ⟨e, hlt⟩ := am_st_eq r hr
    rw [e]
    dsimp only
    rw [h3 _ hlt]
    exact vk_R.of (A := #[Value.ref b]) (hts1 _ (am_fl6 _ hlt)) (had _ hlt).1
  · have hi : i < 33 := hi
    rw [h3 i hi]
    exact (had i hi).2
