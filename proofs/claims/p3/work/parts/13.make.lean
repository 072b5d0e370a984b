/-! SOUNDNESS: makings, constants, and every instruction that stays in the method -/
section AmMake
variable {p : Program} {l : Launch} {e : Env} {R : Room} {s : State} {m : MethodId} {args : Array Value} {below : List Frame} {meth : Method} {c : Code} {H : Heap} {locs : List Loc} {cells slots : Nat} {Q : State → Prop}
variable {r : aM} {B : Nat} {D : va_G} {dA : Nat → ClassId} {E : aE} {xs : aX} {b : Nat} {pc : Nat} {ls : Array Slot} {L : aL} {S : List Value} {h : aH}
theorem am_plain_tv {v : Value} (hv : am_plain v = true) : am_tv E v = v := by
  cases v <;> first | rfl | cases hv
theorem am_top (G : am_G B D dA E xs b s) (hR : am_Rel B D dA E h H) (hlt : h.length < 1000000) : Value.ref H.size = am_tv E (.ref h.length) := by
  rw [am_ref G hlt, hR.1]
theorem am_new_ok (Cx : am_Cx r B D dA E xs b p l s m meth c) (hR : am_Rel B D dA E h H) (hS : va_S (am_A B) s.heap H locs) {idx : Nat} {q9 : List Value × aH × Nat} (hf : am_new r.2.2.2.2.1 idx S h = some q9) (hd : decode r.2.1 pc = .ok (.new idx, 3))
    (hc : cells + 1 ≤ R.cells) (hs : slots + q9.2.2 ≤ R.slots)
    (k : ∀ (H1 : Heap), am_Rel B D dA E q9.2.1 H1 → va_S (am_A B) s.heap H1 locs → W p l e R s m args below meth c H1 locs (cells + 1) (slots + q9.2.2) Q (F0 m (pc + 3) ls (q9.1.map (am_tv E)))) : W p l e R s m args below meth c H locs cells slots Q (F0 m pc ls (S.map (am_tv E))) := by
  obtain ⟨hx, hb, hml, hr, hlk, htb, hown, hnm, hst, hI, G, hB⟩ := Cx
  unfold am_new at hf
  split at hf
  · rename_i ci hlook
    split at hf
    · rename_i hbeq
      cases hf
      simp only [Bool.and_eq_true] at hbeq
      have hlt : h.length < 1000000 := by simpa using hbeq.1
      obtain ⟨q, hq, hlink⟩ := am_nw_ok _ (am_look2_mem hlook)
      dsimp only at hq hlink
      have hok := am_cl_ok ci q hq
      have hnf := am_nf_eq hq
      dsimp only at hs k
      rw [hnf] at hs k
      have hKn := G.2.1.1 ci q hq
      refine W.newcK hx hb hown (G.1 _ hlink _) (G.1 _ hok.2.2.2.1 _) (G.1 _ hok.2.2.2.2 _) rfl hd hc hs hKn.2.1 rfl fun H1 kC hkC e1 z1 o1 => ?_
      have hborn := u_born (am_ty ci) (am_cls_w (args := args) G hq) (fun w h => h) hKn hkC e1 hok.2.1
      have hk := k H1 (hR.push (c := some (false, ci, am_blank ci)) z1 o1 (fun c' hc' => by
        cases hc'
        refine ⟨q, hq, by unfold am_blank; rw [List.length_map, List.length_range, hnf], ?_⟩
        rw [hR.1] at hborn
        refine hborn.to fun j hj => ?_
        have hjb : (am_blank ci)[j]? = some (defaultValue (am_ty ci j)) := by
          unfold am_blank
          rw [List.getElem?_map, List.getElem?_range (by rw [hnf]; exact hj)]
          rfl
        show _ = am_tv E ((am_blank ci).getD j .null)
        rw [am_getD hjb, am_plain_tv (List.all_eq_true.mp hbeq.2 _ (List.mem_of_getElem? hjb))])) (am_S_push hS z1 o1)
      rw [List.map_cons, ← am_top G hR hlt] at hk
      exact hk
    · cases hf
  · cases hf
def am_nai : Nat → ArrayType := fun t => match t with
  | 0 => .int
  | 1 => .boolean
  | _ => .long
def am_z : Nat → Value := fun t => match t with
  | 2 => .long 0
  | 3 => .null
  | _ => .int 0
theorem am_rep {n : Nat} {z : Value} (hz : am_tv E z = z) (cA : ClassId) : arrV cA n (fun _ => z) = arrV cA (List.replicate n z).length (fun j => am_tv E ((List.replicate n z).getD j .null)) := by
  rw [List.length_replicate]
  unfold arrV
  congr 1
  apply Array.ext
  · simp
  · intro i h1 h2
    have hi : i < n := by simpa using h1
    simp [List.getD_eq_getElem?_getD, List.getElem?_replicate, hi, hz]
theorem am_newa_ok (Cx : am_Cx r B D dA E xs b p l s m meth c) (hR : am_Rel B D dA E h H) (hS : va_S (am_A B) s.heap H locs) {tk : Nat} (htk : tk < 3) {q9 : List Value × aH × Nat} (hf : am_newa tk (am_z tk) S h = some q9) (hd : decode r.2.1 pc = .ok (.newarray (am_nai tk), 2))
    (hc : cells + 1 ≤ R.cells) (hs : slots + q9.2.2 ≤ R.slots)
    (k : ∀ (H1 : Heap), am_Rel B D dA E q9.2.1 H1 → va_S (am_A B) s.heap H1 locs → W p l e R s m args below meth c H1 locs (cells + 1) (slots + q9.2.2) Q (F0 m (pc + 2) ls (q9.1.map (am_tv E)))) : W p l e R s m args below meth c H locs cells slots Q (F0 m pc ls (S.map (am_tv E))) := by
  obtain ⟨hx, hb, hml, hr, hlk, htb, hown, hnm, hst, hI, G, hB⟩ := Cx
  unfold am_newa at hf
  split at hf
  · rename_i n T
    split at hf
    · cases hf
    · rename_i hbeq
      cases hf
      simp only [Bool.or_eq_false_iff, Bool.not_eq_false', decide_eq_false_iff_not] at hbeq
      obtain ⟨⟨hn, hlt⟩, hN⟩ := hbeq
      have hlt : h.length < 1000000 := by simpa using hlt
      have hN : n.toNatClampNeg < 1000000 := by simpa using hN
      rw [List.map_cons]
      have fin : ∀ (H1 : Heap) (cA : ClassId), H1[H.size]? = some (arrV cA n.toNatClampNeg (fun _ => am_z tk)) → H1.size = H.size + 1 → (∀ q, q < H.size → H1[q]? = H[q]?) → cA = dA tk →
          W p l e R s m args below meth c H1 locs (cells + 1) (slots + n.toNatClampNeg) Q (F0 m (pc + 2) ls (.ref H.size :: T.map (am_tv E))) := by
        intro H1 cA e1 z1 o1 hcA
        subst hcA
        have hk := k H1 (hR.push (c := some (true, tk, List.replicate n.toNatClampNeg (am_z tk))) z1 o1 (fun c' hc' => by
          cases hc'
          refine ⟨by omega, ?_⟩
          rw [← hR.1, e1, am_rep (E := E) (by rcases (show tk = 0 ∨ tk = 1 ∨ tk = 2 by omega) with rfl | rfl | rfl <;> rfl)])) (am_S_push hS z1 o1)
        rw [List.map_cons, ← am_top G hR hlt] at hk
        exact hk
      rcases (show tk = 0 ∨ tk = 1 ∨ tk = 2 by omega) with rfl | rfl | rfl
      · exact va_newaK (atype := .int) hx hb (G.1 (.arrayClass .int) am_wI args) rfl hd rfl hn rfl (by show _ * 4 ≤ _; omega) hc hs rfl fun H1 cA e1 z1 o1 _ hNm => fin H1 cA e1 z1 o1 (Option.some.inj (hNm.symm.trans (G.2.1.2 0 _ rfl).2))
      · exact va_newaK (atype := .boolean) hx hb (G.1 (.arrayClass .boolean) am_wZ args) rfl hd rfl hn rfl (by show _ * 1 ≤ _; omega) hc hs rfl fun H1 cA e1 z1 o1 _ hNm => fin H1 cA e1 z1 o1 (Option.some.inj (hNm.symm.trans (G.2.1.2 1 _ rfl).2))
      · exact va_newaK (atype := .long) hx hb (G.1 (.arrayClass .long) am_wJ args) rfl hd rfl hn rfl (by show _ * 8 ≤ _; omega) hc hs rfl fun H1 cA e1 z1 o1 _ hNm => fin H1 cA e1 z1 o1 (Option.some.inj (hNm.symm.trans (G.2.1.2 2 _ rfl).2))
  · cases hf
theorem am_anew_ok (Cx : am_Cx r B D dA E xs b p l s m meth c) (hR : am_Rel B D dA E h H) (hS : va_S (am_A B) s.heap H locs) {idx : Nat} (hlook : am_look2 am_nw r.2.2.2.2.1 idx = some 4) {q9 : List Value × aH × Nat} (hf : am_newa 3 .null S h = some q9) (hd : decode r.2.1 pc = .ok (.anewarray idx, 3))
    (hc : cells + 1 ≤ R.cells) (hs : slots + q9.2.2 ≤ R.slots)
    (k : ∀ (H1 : Heap), am_Rel B D dA E q9.2.1 H1 → va_S (am_A B) s.heap H1 locs → W p l e R s m args below meth c H1 locs (cells + 1) (slots + q9.2.2) Q (F0 m (pc + 3) ls (q9.1.map (am_tv E)))) : W p l e R s m args below meth c H locs cells slots Q (F0 m pc ls (S.map (am_tv E))) := by
  obtain ⟨hx, hb, hml, hr, hlk, htb, hown, hnm, hst, hI, G, hB⟩ := Cx
  obtain ⟨q, hq, hlink⟩ := am_nw_ok _ (am_look2_mem hlook)
  cases hq
  unfold am_newa at hf
  split at hf
  · rename_i n T
    split at hf
    · cases hf
    · rename_i hbeq
      cases hf
      simp only [Bool.or_eq_false_iff, Bool.not_eq_false', decide_eq_false_iff_not] at hbeq
      obtain ⟨⟨hn, hlt⟩, hN⟩ := hbeq
      have hlt : h.length < 1000000 := by simpa using hlt
      have hN : n.toNatClampNeg < 1000000 := by simpa using hN
      rw [List.map_cons]
      refine W.anew hx hb hown (G.1 _ hlink _) (va_AO.use G.2.2.1) rfl hd rfl hn (by omega) hc hs fun cA kA comp f1 f2 f3 f4 => ?_
      generalize hH1 : H.push ({ cls := cA, slots := Array.replicate n.toNatClampNeg .null, vm := .none } : Cell) = H1
      have z1 : H1.size = H.size + 1 := by rw [← hH1, Array.size_push]
      have e1 : H1[H.size]? = some (arrV cA n.toNatClampNeg (fun _ => .null)) := by rw [← hH1, Array.getElem?_push_size, ← arrV_new]
      have o1 : ∀ q : Nat, q < H.size → H1[q]? = H[q]? := fun q hq => by rw [← hH1, Array.getElem?_push, if_neg (Nat.ne_of_lt hq)]
      obtain ⟨kA', comp', k1, k2, k3, k4⟩ := (G.2.1.2 3 _ rfl).2
      have hcA : cA = dA 3 := Option.some.inj (f1.symm.trans k4)
      subst hcA
      have hk := k H1 (hR.push (c := some (true, 3, List.replicate n.toNatClampNeg .null)) z1 o1 (fun c' hc' => by
        cases hc'
        refine ⟨by omega, ?_⟩
        rw [← hR.1, e1, am_rep (E := E) rfl])) (am_S_push hS z1 o1)
      rw [List.map_cons, ← am_top G hR hlt] at hk
      exact hk
  · cases hf
/-- every instruction that stays in the method and calls nothing -/
theorem am_sim_ok (Cx : am_Cx r B D dA E xs b p l s m meth c) (hR : am_Rel B D dA E h H) (hS : va_S (am_A B) s.heap H locs) (hl : lv_has ls r.2.2.1 (am_lm E L)) {i : Instr} {len : Nat} {n : aN} (hf : am_sim xs r i len pc L S h = some n) (hd : decode r.2.1 pc = .ok (i, len))
    (hc : cells + n.2.2.2.2.1 ≤ R.cells) (hs : slots + n.2.2.2.2.2 ≤ R.slots)
    (k : ∀ (H1 : Heap) (locs1 : List Loc) (ls1 : Array Slot), am_Rel B D dA E n.2.2.2.1 H1 → va_S (am_A B) s.heap H1 locs1 → lv_has ls1 r.2.2.1 (am_lm E n.2.1) → W p l e R s m args below meth c H1 locs1 (cells + n.2.2.2.2.1) (slots + n.2.2.2.2.2) Q (F0 m n.1 ls1 (n.2.2.1.map (am_tv E)))) :
    W p l e R s m args below meth c H locs cells slots Q (F0 m pc ls (S.map (am_tv E))) := by
  have hx := Cx.1
  have hb := Cx.2.1
  unfold am_sim at hf
  split at hf
  · rename_i q hq
    split at hf
    · rename_i h9
      cases hf
      refine am_br_ok hx hb hq hd ?_ (k H locs ls hR hS hl)
      simp only [Bool.or_eq_true] at h9
      rcases h9 with h9 | h9
      · exact Or.inl (Nat.eq_of_beq_eq_true h9)
      · right
        unfold am_isT at h9
        split at h9
        · exact ⟨_, _, _, _, rfl⟩
        · cases h9
    · cases hf
  · split at hf
    · rename_i q hq
      split at hf
      · rename_i h9
        cases hf
        refine am_obr_ok Cx.2.2.2.2.2.2.2.2.2.2.1.2.2.2.2.2.2.2.2.2.2.2.1 hx hb hq hd ?_ (k H locs ls hR hS hl)
        simp only [Bool.or_eq_true] at h9
        rcases h9 with h9 | h9
        · exact Or.inl (Nat.eq_of_beq_eq_true h9)
        · right
          unfold am_isT at h9
          split at h9
          · exact ⟨_, _, _, _, rfl⟩
          · cases h9
      · cases hf
    split at hf
    · cases hf
    · rename_i hbeq
      cases (Nat.eq_of_beq_eq_true hbeq : len = am_ilen i)
      split at hf
      · rename_i S' hq
        cases hf
        exact am_pure_ok hx hb hq hd (k H locs ls hR hS hl)
      · split at hf
        · rename_i v hq
          cases hf
          exact am_ld_ok hx hb hl hq hd (k H locs ls hR hS hl)
        · split at hf
          · rename_i q hq
            split at hf
            · rename_i hlt
              cases hf
              exact am_sto_ok hx hb hl hq (by simpa using hlt) hd (fun ls' hl' => k H locs ls' hR hS hl')
            · cases hf
          · split at hf
            · obtain ⟨S', h1, rfl⟩ := Option.map_eq_some_iff.mp hf
              exact am_getf_ok Cx hR h1 hd (k H locs ls hR hS hl)
            · obtain ⟨q, h1, rfl⟩ := Option.map_eq_some_iff.mp hf
              exact am_putf_ok Cx hR hS h1 hd (fun H1 locs1 hR1 hS1 => k H1 locs1 ls hR1 hS1 hl)
            · obtain ⟨S', h1, rfl⟩ := Option.map_eq_some_iff.mp hf
              exact am_ald_ok (tk := 0) Cx hR hS (by omega) h1 hd (k H locs ls hR hS hl)
            · obtain ⟨S', h1, rfl⟩ := Option.map_eq_some_iff.mp hf
              exact am_ald_ok (tk := 1) Cx hR hS (by omega) h1 hd (k H locs ls hR hS hl)
            · obtain ⟨S', h1, rfl⟩ := Option.map_eq_some_iff.mp hf
              exact am_ald_ok (tk := 2) Cx hR hS (by omega) h1 hd (k H locs ls hR hS hl)
            · obtain ⟨S', h1, rfl⟩ := Option.map_eq_some_iff.mp hf
              exact am_ald_ok (tk := 3) Cx hR hS (by omega) h1 hd (k H locs ls hR hS hl)
            · obtain ⟨q, h1, rfl⟩ := Option.map_eq_some_iff.mp hf
              exact am_ast_ok (tk := 0) Cx hR hS (by omega) h1 hd (fun H1 locs1 hR1 hS1 => k H1 locs1 ls hR1 hS1 hl)
            · obtain ⟨q, h1, rfl⟩ := Option.map_eq_some_iff.mp hf
              exact am_ast_ok (tk := 1) Cx hR hS (by omega) h1 hd (fun H1 locs1 hR1 hS1 => k H1 locs1 ls hR1 hS1 hl)
            · obtain ⟨q, h1, rfl⟩ := Option.map_eq_some_iff.mp hf
              exact am_ast_ok (tk := 2) Cx hR hS (by omega) h1 hd (fun H1 locs1 hR1 hS1 => k H1 locs1 ls hR1 hS1 hl)
            · obtain ⟨q, h1, rfl⟩ := Option.map_eq_some_iff.mp hf
              exact am_ast_ok (tk := 3) Cx hR hS (by omega) h1 hd (fun H1 locs1 hR1 hS1 => k H1 locs1 ls hR1 hS1 hl)
            · obtain ⟨S', h1, rfl⟩ := Option.map_eq_some_iff.mp hf
              exact am_len_ok Cx hR hS h1 hd (k H locs ls hR hS hl)
            · obtain ⟨q, h1, rfl⟩ := Option.map_eq_some_iff.mp hf
              exact am_new_ok Cx hR hS h1 hd hc hs (fun H1 hR1 hS1 => k H1 locs ls hR1 hS1 hl)
            · obtain ⟨q, h1, rfl⟩ := Option.map_eq_some_iff.mp hf
              exact am_newa_ok (tk := 0) Cx hR hS (by omega) h1 hd hc hs (fun H1 hR1 hS1 => k H1 locs ls hR1 hS1 hl)
            · obtain ⟨q, h1, rfl⟩ := Option.map_eq_some_iff.mp hf
              exact am_newa_ok (tk := 1) Cx hR hS (by omega) h1 hd hc hs (fun H1 hR1 hS1 => k H1 locs ls hR1 hS1 hl)
            · obtain ⟨q, h1, rfl⟩ := Option.map_eq_some_iff.mp hf
              exact am_newa_ok (tk := 2) Cx hR hS (by omega) h1 hd hc hs (fun H1 hR1 hS1 => k H1 locs ls hR1 hS1 hl)
            · split at hf
              · rename_i hlook
                obtain ⟨q, h1, rfl⟩ := Option.map_eq_some_iff.mp hf
                exact am_anew_ok Cx hR hS hlook h1 hd hc hs (fun H1 hR1 hS1 => k H1 locs ls hR1 hS1 hl)
              · cases hf
            · split at hf
              · rename_i v hlook
                cases hf
                exact lv_ldc hx hb Cx.2.2.2.2.2.2.1 (Cx.2.2.2.2.2.2.2.2.2.2.1.1 _ (am_c32_ok _ (am_look2_mem hlook)) _) hd (k H locs ls hR hS hl)
              · cases hf
            · split at hf
              · rename_i v hlook
                cases hf
                exact lv_ldc2 hx hb Cx.2.2.2.2.2.2.1 (Cx.2.2.2.2.2.2.2.2.2.2.1.1 _ (am_c64_ok _ (am_look2_mem hlook)) _) hd (k H locs ls hR hS hl)
              · cases hf
            · obtain ⟨S', h1, rfl⟩ := Option.map_eq_some_iff.mp hf
              exact am_sym_ok Cx.2.2.2.2.2.2.2.2.2.2.1.2.2.2.2.2.2.2.2.2.2.2.1 hx hb h1 hd (k H locs ls hR hS hl)
end AmMake
