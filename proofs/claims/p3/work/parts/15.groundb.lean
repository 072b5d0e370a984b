/-! String.charAt of a constant -/
set_option maxRecDepth 100000 in
theorem am_chr8 : ∀ i, i < 33 → ∀ j, j < am_sl i → (((am_sB.getD i []).getD j 0 &&& 255).toUInt32 % 65536).toInt32 = (am_sB.getD i []).getD j 0 := by decide +kernel
set_option maxRecDepth 100000 in
theorem am_chr9 : ∀ i, i < 33 → ∀ j, j < am_sl i → narrow .char (.int ((am_sB.getD i []).getD j 0)) = .int ((am_sB.getD i []).getD j 0) := by decide +kernel
set_option maxRecDepth 100000 in
theorem am_slmax : ∀ i, i < 33 → am_sl i < 2 ^ 31 := by decide +kernel
theorem am_sl_len' (vs : List Value) : (lg_sl vs).length = am_sum vs := by
  induction vs with
  | nil => rfl
  | cons v t ih =>
    have h1 : lg_sl (v :: t) = (if v.category = 2 then [.val v, .second] else [.val v]) ++ lg_sl t := by simp [lg_sl]
    rw [h1, List.length_append, ih]
    show _ = ((v :: t).map fun v => v.category).sum
    rw [List.map_cons, List.sum_cons]
    rcases lv_cat v with h | h
    · rw [if_neg (by omega), h]; rfl
    · rw [if_pos h, h]; rfl
section AmCallW
variable {p : Program} {l : Launch} {e : Env} {R : Room} {s : State} {m : MethodId} {args : Array Value} {below : List Frame} {meth : Method} {c : Code} {H : Heap} {locs : List Loc} {cells slots : Nat} {Q : State → Prop}
/-- A CALL -/
theorem am_callW {y : MethodName} {cc : ByteArray} {maxL : Nat} {ret : Option FieldType} {hh : List (Nat × Nat × Nat × Nat)} {rm : Room} {Pc : Array Value → State → Prop} {Qc : Outcome → State → Prop} {B : Nat} {g : JFrame} {rest : List Value} {a : Array Value} {ig : Instr}
    (inv : ∀ T : State, T.heap = H → Stand p l e R s m args below meth c T locs cells slots → am_inv p l e R s m args below meth c T locs cells slots g rest y a)
    (hM : am_Met l y (am_cw y cc maxL ret hh) rm Pc Qc B) (hframes : rm.frames + 1 ≤ R.frames) (hlocals : 8 + (maxL + 11) + rm.locals ≤ R.locals)
    (hg : g.method = m) (hsize : g.locals.size = c.maxLocals) (hdg : decode c.code g.pc = .ok (ig, 3)) (hW : 2 * g.monitorRoom + (rest.map fun v => v.category).sum ≤ 8)
    (hcw : ∀ U : State, s.WarmedH U.vm → (am_cw y cc maxL ret hh).before a U = true) (hini : ∀ U : State, s.WarmedH U.vm → (Cond.initialized y.cls).before a U = true)
    (h4 : cells + rm.cells ≤ R.cells) (h5 : slots + rm.slots ≤ R.slots) (hPc : ∀ (U : State) (g' : JFrame) (mk : MethodId), U.heap = H → s.WarmedH U.vm → Pc a (U.calling g' mk a))
    (kr : ∀ (v : Option Value) (t : State) (L : List Loc), Qc (.returned v) t → s.WarmedH t.vm → (∀ z ∈ L, B ≤ z.base) → W p l e R s m args below meth c t.heap (locs ++ L) (cells + rm.cells) (slots + rm.slots) Q { g with pc := g.pc + 3, stack := v.toList ++ rest })
    (kx : ∀ (q : Addr) (t : State) (L : List Loc), Qc (.threw q) t → s.WarmedH t.vm → (∀ z ∈ L, B ≤ z.base) → am_X p l e R s m args below meth c t.heap (locs ++ L) (cells + rm.cells) (slots + rm.slots) Q { g with stack := rest } q) :
    W p l e R s m args below meth c H locs cells slots Q g := by
  intro T hT X
  obtain ⟨vm₁, mk, X₁, hn, st⟩ := inv T hT X
  obtain ⟨o, t, L, X2, hL, hq, h⟩ := am_back (W9 := 8) (len := 3) hM hframes hlocals X₁ (g := { g with stack := rest }) (ig := ig) (mk := mk) (a := a) hg hsize hdg hW hn (hcw _ X₁.warmed) (hini _ X₁.warmed) h4 h5 (hPc _ _ _ hT X₁.warmed)
  rcases h with ⟨v, rfl, hs⟩ | ⟨q, rfl, hs⟩
  · obtain ⟨t2, a1, b1⟩ := kr v t L hq X2.warmed hL (am_beh (T.setVm vm₁) t) rfl X2
    exact ⟨t2, st _ (hs.trans a1), b1⟩
  · obtain ⟨t2, a1, b1⟩ := kx q t L hq X2.warmed hL (am_beh (T.setVm vm₁) t) rfl X2
    exact ⟨t2, st _ (hs.trans a1), b1⟩
end AmCallW
section AmChar
variable {l : Launch} {B : Nat} {D : va_G} {dA : Nat → ClassId} {E : aE} {xs : aX} {b : Nat}
set_option maxRecDepth 100000 in
set_option maxHeartbeats 4000000 in
theorem am_isLatin1 (i : Nat) (hi : i < am_sn) (H0 : Heap) : am_Met l yJ0_isLatin1_aae02 (am_cw yJ0_isLatin1_aae02 cJ0_isLatin1_aae02 1 (some .boolean) []) { frames := 0, cells := 0, slots := 0, locals := 0 } (fun a U => a = ([Value.ref (E.1 (1000000 + i))] : List Value).toArray ∧ am_G B D dA E xs b U ∧ U.heap = H0) (fun o t => o = .returned (some (.int 1)) ∧ t.heap = H0) B := by
  refine am_ofW (by decide +kernel) ?_
  intro p e s m args below meth c hx hb hml hr hlk htb hme hnm hP
  obtain ⟨rfl, G, hH⟩ := hP
  have hown : s.vm.findClass RJ0 = some m.cls := findClass_of_methodNamed hnm
  have hl := lv_entry ([.ref (E.1 (1000000 + i))]) (n := 1) (Nat.le_of_ble_eq_true rfl)
  rw [lg_entry_eq]
  generalize (lg_sl ([.ref (E.1 (1000000 + i))]) ++ List.replicate (1 - (lg_sl ([.ref (E.1 (1000000 + i))])).length) Slot.unset).toArray = ls at hl ⊢
  have hl : lv_has ls 1 [(0, .ref (E.1 (1000000 + i)))] := hl
  have hS : va_S (am_A B) s.heap s.heap [] := va_S.rf
  obtain ⟨z1, -, adV, z3⟩ := G.2.2.2.2.2.2.2.2.2.2.1
  refine va_gets hx hb z1 hS hown (G.1 _ am_s8 _) (fun x h => h) dJ0_isLatin1_aae02_0 ?_
  refine lv_if_eq (tgt := 17) hx hb dJ0_isLatin1_aae02_3 (by decide) (fun h9 => absurd h9 (by decide)) (fun _ => ?_)
  refine lv_aload_n hx hb dJ0_isLatin1_aae02_6 rfl (lv_at hl 0 rfl) ?_
  refine vk_getf hx hb (z3 i hi).2.1 hS hown (G.1 _ am_s9 _) (fun x h => h) dJ0_isLatin1_aae02_7 ?_
  refine lv_if_ne (tgt := 17) hx hb dJ0_isLatin1_aae02_10 (by decide) (fun h9 => absurd rfl h9) (fun _ => ?_)
  refine lv_iconst hx hb dJ0_isLatin1_aae02_13 rfl ?_
  refine lv_goto (tgt := 18) hx hb dJ0_isLatin1_aae02_14 (by decide) ?_
  exact am_mono (W.zret (Qc := fun _ _ o t => o = .returned (some (.int 1)) ∧ t.heap = H0) hx hb hr rfl (fun t ht _ => ⟨rfl, ht.trans hH⟩) (fun q hq => nomatch hq) dJ0_isLatin1_aae02_18 hlk) (fun t ht => am_ofMQ (fun o t h => h) ht)
-- Preconditions.checkIndex, within
set_option maxRecDepth 100000 in
set_option maxHeartbeats 4000000 in
theorem am_pci (j n : Int32) (v : Value) (hv : v.category = 1) (h0 : ¬ j < 0) (h1 : j < n) (H0 : Heap) : am_Met l yJ3_checkIndex_8e157 (am_cw yJ3_checkIndex_8e157 cJ3_checkIndex_8e157 3 (some .int) []) { frames := 0, cells := 0, slots := 0, locals := 0 } (fun a U => a = ([.int j, .int n, v] : List Value).toArray ∧ U.heap = H0) (fun o t => o = .returned (some (.int j)) ∧ t.heap = H0) B := by
  refine am_ofW (by decide +kernel) ?_
  intro p e s m args below meth c hx hb hml hr hlk htb hme hnm hP
  obtain ⟨rfl, hH⟩ := hP
  have hl := lv_entry ([.int j, .int n, v]) (n := 3) (by rw [am_sl_len']; show 1 + (1 + (v.category + 0)) ≤ 3; omega)
  rw [lg_entry_eq]
  generalize (lg_sl ([.int j, .int n, v]) ++ List.replicate (3 - (lg_sl ([.int j, .int n, v])).length) Slot.unset).toArray = ls at hl ⊢
  have hl : lv_has ls 3 [(0, .int j), (1, .int n), (2, v)] := hl
  refine lv_iload_n hx hb dJ3_checkIndex_8e157_0 rfl (lv_at hl 0 rfl) ?_
  refine lv_if_lt (tgt := 9) hx hb dJ3_checkIndex_8e157_1 (by decide) (fun h9 => absurd h9 h0) (fun _ => ?_)
  refine lv_iload_n hx hb dJ3_checkIndex_8e157_4 rfl (lv_at hl 0 rfl) ?_
  refine lv_iload_n hx hb dJ3_checkIndex_8e157_5 rfl (lv_at hl 1 rfl) ?_
  refine lv_icmp_lt (tgt := 16) hx hb dJ3_checkIndex_8e157_6 (by decide) (fun _ => ?_) (fun h9 => absurd h1 h9)
  refine lv_iload_n hx hb dJ3_checkIndex_8e157_16 rfl (lv_at hl 0 rfl) ?_
  exact am_mono (W.iret (Qc := fun _ _ o t => o = .returned (some (.int j)) ∧ t.heap = H0) hx hb hr (fun t ht _ => ⟨rfl, ht.trans hH⟩) (fun q hq => nomatch hq) dJ3_checkIndex_8e157_17 hlk) (fun t ht => am_ofMQ (fun o t h => h) ht)
set_option maxRecDepth 100000 in
set_option maxHeartbeats 4000000 in
theorem am_sci0 (j n : Int32) (h0 : ¬ j < 0) (h1 : j < n) (H0 : Heap) : am_Met l yJ0_checkIndex_df160 (am_cw yJ0_checkIndex_df160 cJ0_checkIndex_df160 2 none []) { frames := 1, cells := 0, slots := 0, locals := 30 } (fun a U => a = ([.int j, .int n] : List Value).toArray ∧ am_G B D dA E xs b U ∧ U.heap = H0) (fun o t => o = .returned none ∧ t.heap = H0) B := by
  refine am_ofW (by decide +kernel) ?_
  intro p e s m args below meth c hx hb hml hr hlk htb hme hnm hP
  obtain ⟨rfl, G, hH⟩ := hP
  have hown : s.vm.findClass RJ0 = some m.cls := findClass_of_methodNamed hnm
  have hl := lv_entry ([.int j, .int n]) (n := 2) (Nat.le_of_ble_eq_true rfl)
  rw [lg_entry_eq]
  generalize (lg_sl ([.int j, .int n]) ++ List.replicate (2 - (lg_sl ([.int j, .int n])).length) Slot.unset).toArray = ls at hl ⊢
  have hl : lv_has ls 2 [(0, .int j), (1, .int n)] := hl
  have hS : va_S (am_A B) s.heap s.heap [] := va_S.rf
  have go : ∀ v : Value, v.category = 1 → va_Z "jdk/internal/util/Preconditions" "SIOOBE_FORMATTER" "Ljava/util/function/BiFunction;" v (am_A B) s s.heap → W p l e { frames := 1, cells := 0, slots := 0, locals := 30 } s m ([.int j, .int n] : List Value).toArray below meth c s.heap [] 0 0 (am_MQ below (fun o t => o = .returned none ∧ t.heap = H0) 0 0 B ([.int j, .int n] : List Value).toArray s) (F0 m 0 ls []) := by
    intro v hv hZ
    refine lv_iload_n hx hb dJ0_checkIndex_df160_0 rfl (lv_at hl 0 rfl) ?_
    refine lv_iload_n hx hb dJ0_checkIndex_df160_1 rfl (lv_at hl 1 rfl) ?_
    refine va_gets hx hb hZ hS hown (G.1 _ am_SF _) (fun x h => h) dJ0_checkIndex_df160_2 ?_
    refine am_call (ig := .invokestatic 1059) (rest := []) (fun T hT X => am_invS (cc := cJ3_checkIndex_8e157) (maxL := 3) (ret := some .int) (hh := []) X hx hown (Or.inl (G.1 _ am_PCl _)) (G.1 _ am_PCs _) (G.1 _ am_PCn _) (G.1 _ am_PCc _) (by decide +kernel) rfl (argsL := [.int j, .int n, v]) (fun sig h => by
        have h9 : parseMethodDescriptor yJ3_checkIndex_8e157.desc = some ⟨[.int, .int, .object "java/util/function/BiFunction"], some .int⟩ := by decide +kernel
        rw [h9] at h; cases h; rfl) rfl (by rw [hb]; exact dJ0_checkIndex_df160_5))
      (am_pci (B := B) j n v hv h0 h1 H0) (Nat.le_refl _) (by decide) rfl (by rw [hml]; exact hl.1) (by rw [hb]; exact dJ0_checkIndex_df160_5) (lv_room (Nat.le_of_ble_eq_true rfl))
      (fun U hW => am_warm (args := #[]) am_PCc.2 hW (G.1 _ am_PCc _)) (fun U hW => am_warm (args := #[]) am_PCn.2 hW (G.1 _ am_PCn _)) (Nat.le_refl _) (Nat.le_refl _)
      (fun U g' mk hU hW => ⟨rfl, hU.trans hH⟩) (fun v2 t L hq hL => ?_) (fun q t L hq hL => by cases hq.1)
    cases hq.1
    refine lv_pop hx hb dJ0_checkIndex_df160_8 rfl ?_
    exact am_mono (W.vret (Qc := fun _ _ o t => o = .returned none ∧ t.heap = H0) hx hb hr (fun t' ht _ => ⟨rfl, ht.trans hq.2⟩) (fun q hq9 => hL q (by simpa using hq9)) dJ0_checkIndex_df160_9 hlk) (fun t ht => am_ofMQ (fun o t h => h) ht)
  rcases G.2.2.2.2.2.2.2.2.2.2.2.2 with h9 | ⟨t, h9⟩
  · exact go _ rfl h9
  · exact go _ rfl h9
set_option maxRecDepth 100000 in
set_option maxHeartbeats 4000000 in
theorem am_lchar (i : Nat) (hi : i < am_sn) (av : Nat) (j : Int32) (h0 : ¬ j < 0) (h1 : j.toNatClampNeg < am_sl i) (H0 : Heap) : am_Met l yJ1_charAt_3b067 (am_cw yJ1_charAt_3b067 cJ1_charAt_3b067 2 (some .char) []) { frames := 2, cells := 0, slots := 0, locals := 60 } (fun a U => a = ([.ref av, .int j] : List Value).toArray ∧ am_G B D dA E xs b U ∧ U.heap = H0 ∧ va_T .byte av (am_sl i) (fun j => .int ((am_sB.getD i []).getD j 0)) (am_A B) U U.heap) (fun o t => o = .returned (some (.int ((am_sB.getD i []).getD j.toNatClampNeg 0))) ∧ t.heap = H0) B := by
  refine am_ofW (by decide +kernel) ?_
  intro p e s m args below meth c hx hb hml hr hlk htb hme hnm hP
  obtain ⟨rfl, G, hH, hT9⟩ := hP
  have hown : s.vm.findClass RJ1 = some m.cls := findClass_of_methodNamed hnm
  have hl := lv_entry ([.ref av, .int j]) (n := 2) (Nat.le_of_ble_eq_true rfl)
  rw [lg_entry_eq]
  generalize (lg_sl ([.ref av, .int j]) ++ List.replicate (2 - (lg_sl ([.ref av, .int j])).length) Slot.unset).toArray = ls at hl ⊢
  have hl : lv_has ls 2 [(0, .ref av), (1, .int j)] := hl
  have hS : va_S (am_A B) s.heap s.heap [] := va_S.rf
  have hlt : j < Int32.ofNat (am_sl i) := by
    rw [Int32.lt_iff_toInt_lt, Int32.toInt_ofNat_small (am_slmax i hi)]
    have hz0 : (0 : Int) ≤ j.toInt := by
      have := Int32.not_lt.mp h0
      simpa using Int32.le_iff_toInt_le.mp this
    have : j.toInt = ((j.toInt.toNat : Nat) : Int) := by omega
    rw [this]
    exact Int.ofNat_lt.mpr h1
  refine lv_iload_n hx hb dJ1_charAt_3b067_0 rfl (lv_at hl 1 rfl) ?_
  refine lv_aload_n hx hb dJ1_charAt_3b067_1 rfl (lv_at hl 0 rfl) ?_
  refine va_tlen hx hb hT9 hS rfl dJ1_charAt_3b067_2 ?_
  refine am_call (ig := .invokestatic 9) (rest := []) (fun T hT X => am_invS (cc := cJ0_checkIndex_df160) (maxL := 2) (ret := none) (hh := []) X hx hown (Or.inl (G.1 _ am_CIl _)) (G.1 _ am_CIs _) (G.1 _ am_s3 _) (G.1 _ am_CIc _) (by decide +kernel) rfl (argsL := [.int j, .int (Int32.ofNat (am_sl i))]) (fun sig h => by
      have h9 : parseMethodDescriptor yJ0_checkIndex_df160.desc = some ⟨[.int, .int], none⟩ := by decide +kernel
      rw [h9] at h; cases h; rfl) rfl (by rw [hb]; exact dJ1_charAt_3b067_3))
    (am_sci0 (B := B) (D := D) (dA := dA) (E := E) (xs := xs) (b := b) j (Int32.ofNat (am_sl i)) h0 hlt H0) (Nat.le_refl _) (by decide) rfl (by rw [hml]; exact hl.1) (by rw [hb]; exact dJ1_charAt_3b067_3) (lv_room (Nat.le_of_ble_eq_true rfl))
    (fun U hW => am_warm (args := #[]) am_CIc.2 hW (G.1 _ am_CIc _)) (fun U hW => am_warm (args := #[]) am_s3.2 hW (G.1 _ am_s3 _)) (Nat.le_refl _) (Nat.le_refl _)
    (fun U g' mk hU hW => ⟨rfl, am_calling G hS hU hW g' mk _, hU.trans hH⟩) (fun v2 t L hq hL => ?_) (fun q t L hq hL => by cases hq.1)
  cases hq.1
  have hS2 : va_S (am_A B) s.heap t.heap ([] ++ L) := ⟨by rw [hq.2, hH]; exact Nat.le_refl _, fun q _ _ => by rw [hq.2, hH], fun z hz => hL z (by simpa using hz)⟩
  refine lv_aload_n hx hb dJ1_charAt_3b067_6 rfl (lv_at hl 0 rfl) ?_
  refine lv_iload_n hx hb dJ1_charAt_3b067_7 rfl (lv_at hl 1 rfl) ?_
  refine va_tb hx hb hT9 hS2 (fun q => q.elim h0 (fun q => Nat.not_lt.mpr q h1)) rfl dJ1_charAt_3b067_8 ?_
  refine lv_sipush hx hb dJ1_charAt_3b067_9 rfl ?_
  refine lv_iand hx hb dJ1_charAt_3b067_12 ?_
  refine lv_i2c hx hb dJ1_charAt_3b067_13 (am_chr8 i hi _ h1) ?_
  exact am_mono (W.zret (Qc := fun _ _ o t => o = .returned (some (.int ((am_sB.getD i []).getD j.toNatClampNeg 0))) ∧ t.heap = H0) hx hb hr (am_chr9 i hi _ h1) (fun t' ht _ => ⟨rfl, ht.trans hq.2⟩) hS2.2.2 dJ1_charAt_3b067_14 hlk) (fun t ht => am_ofMQ (fun o t h => h) ht)
set_option maxRecDepth 100000 in
set_option maxHeartbeats 4000000 in
theorem am_charAt (i : Nat) (hi : i < am_sn) (j : Int32) (h0 : ¬ j < 0) (h1 : j.toNatClampNeg < am_sl i) (H0 : Heap) : am_Met l yJ0_charAt_5068e (am_cw yJ0_charAt_5068e cJ0_charAt_5068e 2 (some .char) []) { frames := 4, cells := 0, slots := 0, locals := 120 } (fun a U => a = ([Value.ref (E.1 (1000000 + i)), .int j] : List Value).toArray ∧ am_G B D dA E xs b U ∧ U.heap = H0) (fun o t => o = .returned (some (.int ((am_sB.getD i []).getD j.toNatClampNeg 0))) ∧ t.heap = H0) B := by
  refine am_ofW (by decide +kernel) ?_
  intro p e s m args below meth c hx hb hml hr hlk htb hme hnm hP
  obtain ⟨rfl, G, hH⟩ := hP
  have hown : s.vm.findClass RJ0 = some m.cls := findClass_of_methodNamed hnm
  have hl := lv_entry ([.ref (E.1 (1000000 + i)), .int j]) (n := 2) (Nat.le_of_ble_eq_true rfl)
  rw [lg_entry_eq]
  generalize (lg_sl ([.ref (E.1 (1000000 + i)), .int j]) ++ List.replicate (2 - (lg_sl ([.ref (E.1 (1000000 + i)), .int j])).length) Slot.unset).toArray = ls at hl ⊢
  have hl : lv_has ls 2 [(0, .ref (E.1 (1000000 + i))), (1, .int j)] := hl
  have hS : va_S (am_A B) s.heap s.heap [] := va_S.rf
  obtain ⟨z1, -, adV, z3⟩ := id G.2.2.2.2.2.2.2.2.2.2.1
  obtain ⟨cellB, c1, c2, c3, -⟩ := (z3 i hi).1
  refine lv_aload_n hx hb dJ0_charAt_5068e_0 rfl (lv_at hl 0 rfl) ?_
  refine am_call (ig := .invokevirtual 492) (rest := []) (fun T hT X => am_invV (cc := cJ0_isLatin1_aae02) (maxL := 1) (ret := some .boolean) (hh := []) X hx hown (Or.inl (G.1 _ am_ILl _)) (G.1 _ am_ILi _) (G.1 _ am_ILs _) (G.1 _ am_ILc _) (by decide +kernel) (by rw [hT]; exact c1) c2 c3 rfl (argsL := []) (fun sig h => by
      have h9 : parseMethodDescriptor yJ0_isLatin1_aae02.desc = some ⟨[], some .boolean⟩ := by decide +kernel
      rw [h9] at h; cases h; rfl) rfl (by rw [hb]; exact dJ0_charAt_5068e_1))
    (am_isLatin1 (E := E) (B := B) (D := D) (dA := dA) (xs := xs) (b := b) i hi H0) (by decide) (by decide) rfl (by rw [hml]; exact hl.1) (by rw [hb]; exact dJ0_charAt_5068e_1) (lv_room (Nat.le_of_ble_eq_true rfl))
    (fun U hW => am_warm (args := #[]) am_ILc.2 hW (G.1 _ am_ILc _)) (fun U hW => am_warm (args := #[]) am_s3.2 hW (G.1 _ am_s3 _)) (Nat.le_refl _) (Nat.le_refl _)
    (fun U g' mk hU hW => ⟨rfl, am_calling G hS hU hW g' mk _, hU.trans hH⟩) (fun v t L hq hL => ?_) (fun q t L hq hL => by cases hq.1)
  cases hq.1
  have hS2 : va_S (am_A B) s.heap t.heap ([] ++ L) := ⟨by rw [hq.2, hH]; exact Nat.le_refl _, fun q _ _ => by rw [hq.2, hH], fun z hz => hL z (by simpa using hz)⟩
  refine lv_if_eq (tgt := 16) hx hb dJ0_charAt_5068e_4 rfl (fun h9 => absurd h9 (by decide)) (fun _ => ?_)
  refine lv_aload_n hx hb dJ0_charAt_5068e_7 rfl (lv_at hl 0 rfl) ?_
  refine vk_getf hx hb (z3 i hi).2.2.1 hS2 hown (G.1 _ am_s4 _) (fun x h => h) dJ0_charAt_5068e_8 ?_
  refine lv_iload_n hx hb dJ0_charAt_5068e_11 rfl (lv_at hl 1 rfl) ?_
  refine am_callW (ig := .invokestatic 495) (rest := []) (fun T hT X => am_invS (cc := cJ1_charAt_3b067) (maxL := 2) (ret := some .char) (hh := []) X hx hown (Or.inl (G.1 _ am_LCl _)) (G.1 _ am_LCs _) (G.1 _ am_LCn _) (G.1 _ am_LCc _) (by decide +kernel) rfl (argsL := [.ref (adV i), .int j]) (fun sig h => by
      have h9 : parseMethodDescriptor yJ1_charAt_3b067.desc = some ⟨[.array .byte, .int], some .char⟩ := by decide +kernel
      rw [h9] at h; cases h; rfl) rfl (by rw [hb]; exact dJ0_charAt_5068e_12))
    (am_lchar (E := E) (B := B) (D := D) (dA := dA) (xs := xs) (b := b) i hi (adV i) j h0 h1 H0) (by decide) (by decide) rfl (by rw [hml]; exact hl.1) (by rw [hb]; exact dJ0_charAt_5068e_12) (lv_room (Nat.le_of_ble_eq_true rfl))
    (fun U hW => am_warm (args := #[]) am_LCc.2 hW (G.1 _ am_LCc _)) (fun U hW => am_warm (args := #[]) am_LCn.2 hW (G.1 _ am_LCn _)) (Nat.le_refl _) (Nat.le_refl _)
    (fun U g' mk hU hW => ⟨rfl, am_calling G hS2 hU hW g' mk _, hU.trans hq.2, ?_⟩) (fun v t2 L2 hq2 hW2 hL2 => ?_) (fun q t L hq hW2 hL => by cases hq.1)
  · refine va_T.moved (u := s) (U := U.calling g' mk _) hW.alike ((z3 i hi).2.2.2.kept (fun q h1 h2 => ?_))
    show U.heap[q]? = _
    rw [hU]; exact hS2.2.1 q h1 h2
  · cases hq2.1
    exact am_mono (W.zret (Qc := fun _ _ o t => o = .returned (some (.int ((am_sB.getD i []).getD j.toNatClampNeg 0))) ∧ t.heap = H0) hx hb hr (am_chr9 i hi _ h1) (fun t' ht _ => ⟨rfl, ht.trans hq2.2⟩) (fun z hz => by
      rcases List.mem_append.mp hz with h9 | h9
      · exact hS2.2.2 z h9
      · exact hL2 z h9) dJ0_charAt_5068e_15 hlk) (fun t ht => am_ofMQ (fun o t h => h) ht)
end AmChar
