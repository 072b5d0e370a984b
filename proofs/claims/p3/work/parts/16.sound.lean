/-! THE MAIN THEOREM: what the abstract machine comes to, the machine comes to -/
def am_Oc (B : Nat) (D : va_G) (dA : Nat → ClassId) (E : aE) (H0 : Heap) (o : Option Value ⊕ Nat) (h' : aH) : Outcome → State → Prop := fun oc t =>
  am_Rel B D dA E h' t.heap ∧ H0.size ≤ t.heap.size ∧ (∀ q : Nat, q < B → t.heap[q]? = H0[q]?) ∧ match o with
    | .inl v => oc = .returned (v.map (am_tv E))
    | .inr x => oc = .threw (B + (h'.length - 1)) ∧ ∃ ce : Cell, t.heap[B + (h'.length - 1)]? = some ce ∧ ce.vm = .none ∧ t.vm.findClass (am_xn x) = some ce.cls
def am_End (below : List Frame) (s : State) (B : Nat) (Qc : Outcome → State → Prop) (mc ms : Nat) (Q : State → Prop) : Prop :=
  ∀ (t : State) (o : Outcome) (L : List Loc), t.status = .running → Ended t below o → Qc o t → ((∃ v, o = .returned v) ∨ ∃ q, o = .threw q) → s.WarmedH t.vm → s.sameButNew ({ t with vm := s.vm } : State) L mc ms → (∀ z ∈ L, B ≤ z.base) → Q t
def am_rm (d k j : Nat) : Room := { frames := d + 8, locals := 60 * d + 200, cells := k, slots := j }
def am_kj : aN ⊕ aR → Nat × Nat
  | .inl n => (n.2.2.2.2.1, n.2.2.2.2.2)
  | .inr u => (u.2.2.1, u.2.2.2)
def am_vI : Nat → Nat → Instr := fun kind idx => match kind with
  | 0 => .invokestatic idx
  | 1 => .invokevirtual idx
  | _ => .invokespecial idx
theorem am_sl_len (vs : List Value) : (lg_sl vs).length = am_sum vs := by
  induction vs with
  | nil => rfl
  | cons v t ih =>
    have h1 : lg_sl (v :: t) = (if v.category = 2 then [.val v, .second] else [.val v]) ++ lg_sl t := by simp [lg_sl]
    rw [h1, List.length_append, ih]
    show _ = ((v :: t).map fun v => v.category).sum
    rw [List.map_cons, List.sum_cons]
    rcases lv_cat v with h | h
    · rw [if_neg (by omega), h]; rfl
    · rw [if_pos h, h]; rfl
theorem am_sum_tv (E : aE) (vs : List Value) : am_sum (vs.map (am_tv E)) = am_sum vs := by
  unfold am_sum
  rw [List.map_map]
  congr 1
  apply List.map_congr_left
  intro v _
  exact am_cat E v
theorem am_args_tv (E : aE) : ∀ (vs : List Value) (i : Nat), lv_args i (vs.map (am_tv E)) = am_lm E (lv_args i vs)
  | [], _ => rfl
  | v :: t, i => by
    show (i, am_tv E v) :: lv_args (if (am_tv E v).category = 2 then i + 2 else i + 1) (t.map (am_tv E)) = (i, am_tv E v) :: am_lm E (lv_args (if v.category = 2 then i + 2 else i + 1) t)
    rw [am_cat, am_args_tv E t]
theorem am_hand_none {o pc x : Nat} : ∀ {hh : List (Nat × Nat × Nat × Nat)}, am_hand o pc x hh = some none → ∀ y ∈ am_tb hh, covers y pc = false
  | [], _, y, hy => by cases hy
  | a :: t, h, y, hy => by
    unfold am_hand at h
    split at h
    · rename_i h9
      rcases List.mem_cons.mp hy with rfl | hy
      · show (decide (a.1 ≤ pc) && decide (pc < a.2.1)) = false
        rw [← h9]
        congr 1
        · rw [Bool.eq_iff_iff]; simp
        · rw [Bool.eq_iff_iff]; simp
      · exact am_hand_none h y hy
    · split at h
      · cases h
      · split at h
        · cases h
        · split at h
          · cases h
          · split at h
            · cases h
            · split at h
              · cases h
              · cases h
theorem am_hand_some {o pc x hp : Nat} : ∀ {hh : List (Nat × Nat × Nat × Nat)}, am_hand o pc x hh = some (some hp) → ∃ (pre : List ExceptionTableEntry) (z : ExceptionTableEntry) (suf : List ExceptionTableEntry), am_tb hh = pre ++ z :: suf ∧
    (∀ y ∈ pre, covers y pc = false ∨ (y.catchType ≠ 0 ∧ ∃ yn, am_in (.classLink (am_R o) y.catchType (am_xn yn)) ∧ x < 4 ∧ yn < 4 ∧ x ≠ yn)) ∧ covers z pc = true ∧ z.catchType ≠ 0 ∧ am_in (.classLink (am_R o) z.catchType (am_xn x)) ∧ z.handlerPc = hp
  | [], h => by cases h
  | a :: t, h => by
    have hcv : covers { startPc := a.1, endPc := a.2.1, handlerPc := a.2.2.1, catchType := a.2.2.2 } pc = (Nat.ble a.1 pc && Nat.blt pc a.2.1) := by
      show (decide (a.1 ≤ pc) && decide (pc < a.2.1)) = _
      congr 1
      · rw [Bool.eq_iff_iff]; simp
      · rw [Bool.eq_iff_iff]; simp
    unfold am_hand at h
    split at h
    · rename_i h9
      obtain ⟨pre, z, suf, h1, h2, h3⟩ := am_hand_some h
      refine ⟨_ :: pre, z, suf, by show _ :: am_tb t = _; rw [h1]; rfl, fun y hy => ?_, h3⟩
      rcases List.mem_cons.mp hy with rfl | hy
      · exact Or.inl (hcv.trans h9)
      · exact h2 y hy
    · rename_i h9
      split at h
      · cases h
      · rename_i h0
        have h0' : a.2.2.2 ≠ 0 := fun q => by rw [q] at h0; cases h0
        split at h
        · cases h
        · rename_i y hlook
          have hin := am_hc_ok _ (am_look2_mem hlook)
          split at h
          · rename_i h8
            cases h
            cases (Nat.eq_of_beq_eq_true h8 : y = x)
            exact ⟨[], _, am_tb t, rfl, fun y hy => (nomatch hy), hcv.trans h9, h0', hin, rfl⟩
          · rename_i h8
            split at h
            · cases h
            · rename_i h7
              split at h
              · rename_i g hg
                cases h
                obtain ⟨pre, z, suf, h1, h2, h3⟩ := am_hand_some hg
                simp only [Bool.and_eq_true] at h7
                refine ⟨_ :: pre, z, suf, by show _ :: am_tb t = _; rw [h1]; rfl, fun y' hy => ?_, h3⟩
                rcases List.mem_cons.mp hy with rfl | hy
                · exact Or.inr ⟨h0', y, hin, by simpa using h7.1, by simpa using h7.2, fun q => by rw [q, Nat.beq_refl] at h8; cases h8⟩
                · exact h2 y' hy
              · cases h
section AmMain
variable {p : Program} {l : Launch} {e : Env} {R : Room} {s : State} {m : MethodId} {args : Array Value} {below : List Frame} {meth : Method} {c : Code} {H : Heap} {locs : List Loc} {cells slots : Nat} {Q : State → Prop}
variable {r : aM} {B : Nat} {D : va_G} {dA : Nat → ClassId} {E : aE} {xs : aX} {b : Nat} {pc : Nat} {ls : Array Slot} {L : aL} {S : List Value} {h : aH}
theorem am_ofEnd (hR : am_Rel B D dA E h H) (hS : va_S (am_A B) s.heap H locs) (hB : B ≤ s.heap.size) {v : Option Value} (hend : am_End below s B (am_Oc B D dA E s.heap (.inl v) h) cells slots Q) {t : State}
    (ht : MQ below (fun _ _ o t => o = .returned (v.map (am_tv E)) ∧ t.heap = H) args s cells slots (am_A B) t) : Q t := by
  obtain ⟨o, h1, h2, h3, L, ⟨h4, h5, h6⟩, h7⟩ := ht
  exact hend t o L h1 h2 ⟨by rw [h3.2]; exact hR, by rw [h3.2]; exact hS.1, fun q hq => by rw [h3.2]; exact hS.2.1 q (Nat.lt_of_lt_of_le hq hB) (Nat.not_le.mpr hq), h3.1⟩ (Or.inl h4) h5 h6 h7
theorem am_ri_ok (Cx : am_Cx r B D dA E xs b p l s m meth c) (hR : am_Rel B D dA E h H) (hS : va_S (am_A B) s.heap H locs) {v : Value} (hf : am_ri r.2.2.2.1 S = some v) (hd : decode r.2.1 pc = .ok (.ireturn, 1))
    (hend : am_End below s B (am_Oc B D dA E s.heap (.inl (some v)) h) cells slots Q) : W p l e R s m args below meth c H locs cells slots Q (F0 m pc ls (S.map (am_tv E))) := by
  obtain ⟨hx, hb, hml, hr, hlk, htb, hown, hnm, hst, hI, G, hB⟩ := Cx
  unfold am_ri at hf
  split at hf
  · rename_i u
    split at hf
    · rename_i ht
      split at hf
      · rename_i h9
        cases hf
        obtain ⟨x, hv⟩ := am_tvI (E := E) h9
        rw [List.map_cons, List.map_nil, hv]
        exact am_mono (W.iret (Qc := fun _ _ o t => o = .returned ((some v).map (am_tv E)) ∧ t.heap = H) hx hb (hr.trans ht) (fun t ht _ => ⟨by rw [Option.map_some, hv], ht⟩) hS.2.2 hd hlk) (fun t ht => am_ofEnd hR hS hB hend ht)
      · cases hf
    · rename_i ht
      split at hf
      · rename_i h9
        cases hf
        have hx9 : ∃ x : Int32, am_tv E v = .int x ∧ narrow .boolean (.int x) = .int x := by
          simp only [Bool.or_eq_true, decide_eq_true_eq] at h9
          rcases h9 with rfl | rfl
          · exact ⟨0, rfl, rfl⟩
          · exact ⟨1, rfl, rfl⟩
        obtain ⟨x, hv, hn⟩ := hx9
        rw [List.map_cons, List.map_nil, hv]
        exact am_mono (W.zret (Qc := fun _ _ o t => o = .returned ((some v).map (am_tv E)) ∧ t.heap = H) hx hb (hr.trans ht) hn (fun t ht _ => ⟨by rw [Option.map_some, hv], ht⟩) hS.2.2 hd hlk) (fun t ht => am_ofEnd hR hS hB hend ht)
      · cases hf
    · cases hf
  · cases hf
theorem am_ra_ok (Cx : am_Cx r B D dA E xs b p l s m meth c) (hR : am_Rel B D dA E h H) (hS : va_S (am_A B) s.heap H locs) {v : Value} (hf : am_ra r.2.2.2.1 S = some v) (hd : decode r.2.1 pc = .ok (.areturn, 1))
    (hend : am_End below s B (am_Oc B D dA E s.heap (.inl (some v)) h) cells slots Q) : W p l e R s m args below meth c H locs cells slots Q (F0 m pc ls (S.map (am_tv E))) := by
  obtain ⟨hx, hb, hml, hr, hlk, htb, hown, hnm, hst, hI, G, hB⟩ := Cx
  unfold am_ra at hf
  split at hf
  · rename_i u
    split at hf
    · rename_i n ht
      cases hf
      exact am_mono (W.aret (Qc := fun _ _ o t => o = .returned ((some (.ref u)).map (am_tv E)) ∧ t.heap = H) hx hb (hr.trans ht) (Or.inl ⟨_, rfl⟩) (Or.inr ⟨_, rfl⟩) (fun t ht _ => ⟨rfl, ht⟩) hS.2.2 hd hlk) (fun t ht => am_ofEnd hR hS hB hend ht)
    · cases hf
  · cases hf
theorem am_rv_ok (Cx : am_Cx r B D dA E xs b p l s m meth c) (hR : am_Rel B D dA E h H) (hS : va_S (am_A B) s.heap H locs) (hf : am_rv r.2.2.2.1 S = true) (hd : decode r.2.1 pc = .ok (.return_, 1))
    (hend : am_End below s B (am_Oc B D dA E s.heap (.inl none) h) cells slots Q) : W p l e R s m args below meth c H locs cells slots Q (F0 m pc ls (S.map (am_tv E))) := by
  obtain ⟨hx, hb, hml, hr, hlk, htb, hown, hnm, hst, hI, G, hB⟩ := Cx
  unfold am_rv at hf
  split at hf
  · split at hf
    · rename_i ht
      exact am_mono (W.vret (Qc := fun _ _ o t => o = .returned ((none : Option Value).map (am_tv E)) ∧ t.heap = H) hx hb (hr.trans ht) (fun t ht _ => ⟨rfl, ht⟩) hS.2.2 hd hlk) (fun t ht => am_ofEnd hR hS hB hend ht)
    · cases hf
  · cases hf
theorem am_thr_ok (Cx : am_Cx r B D dA E xs b p l s m meth c) (hR : am_Rel B D dA E h H) (hS : va_S (am_A B) s.heap H locs) (hl : lv_has ls r.2.2.1 (am_lm E L)) {ik x : Nat} (hf : am_thr r ik pc = some x) (hsum : am_sum S ≤ 8) (hd : decode r.2.1 pc = .ok (.new ik, 3))
    (hfr : 6 ≤ R.frames) (hlo : 200 ≤ R.locals) (hc : cells + 1 ≤ R.cells) (hs : slots + 6 ≤ R.slots)
    (hend : am_End below s B (am_Oc B D dA E s.heap (.inr x) (h ++ [none])) (cells + 1) (slots + 6) Q) : W p l e R s m args below meth c H locs cells slots Q (F0 m pc ls (S.map (am_tv E))) := by
  obtain ⟨hx, hb, hml, hr, hlk, htb, hown, hnm, hst, hI, G, hB⟩ := Cx
  unfold am_thr at hf
  split at hf
  · rename_i q hlook
    split at hf
    · rename_i h9
      cases hf
      simp only [Bool.and_eq_true, decide_eq_true_eq] at h9
      obtain ⟨⟨⟨d3, d4⟩, d7⟩, hemp⟩ := h9
      have hok := am_xw_ok _ (am_look2_mem hlook)
      have hemp' : r.2.2.2.2.2.1 = [] := List.isEmpty_iff.mp hemp
      have e3 : decode r.2.1 (pc + 3) = .ok (.dup, 1) := hI (pc + 3, .dup, 1) (am_look_mem d3)
      have e4 : decode r.2.1 (pc + 4) = .ok (.invokespecial q.1, 3) := hI (pc + 4, .invokespecial q.1, 3) (am_look_mem d4)
      have e7 : decode r.2.1 (pc + 7) = .ok (.athrow, 1) := hI (pc + 7, .athrow, 1) (am_look_mem d7)
      refine am_throw0 (own := am_R r.2.2.2.2.1) (cls := am_xn q.2) (names := am_up) (ik := ik) (ic := q.1) (A := am_A B) hx hb hst hown hok.2.2.1 (by decide +kernel) (G.1 _ hok.1 _) (G.1 _ hok.2.1 _) (fun w hw => G.1 _ (hok.2.2.2 w hw) _) (fun w hw => (hok.2.2.2 w hw).2)
        G.2.2.2.1 G.2.2.2.2.1 hS (by rw [hml]; exact hl.1) hd e3 e4 e7
        (fun y hy => by rw [htb, hemp'] at hy; cases hy) (by show 2 + 3 < _; omega) (by
          have h8 : ((S.map (am_tv E)).map fun v => v.category).sum = am_sum S := am_sum_tv E S
          rw [h8]; show _ + (13 * 3 + 42) ≤ _; omega) hc hs hlk ?_
      intro t ce t1 t2 t3 t4 t5 t6 t7 t8 t9
      have hlen : (h ++ [(none : Option aC)]).length - 1 = h.length := by rw [List.length_append]; rfl
      have hsz : B + ((h ++ [(none : Option aC)]).length - 1) = H.size := by rw [hlen, hR.1]
      refine hend t _ locs t1 t2 ⟨hR.push (c := none) t3 t4 (fun _ h => by cases h), by rw [t3]; exact Nat.le_trans hS.1 (Nat.le_succ _), fun q hq => ?_, ?_⟩ (Or.inr ⟨_, rfl⟩) t8 t9 hS.2.2
      · rw [t4 q (by rw [hR.1]; omega)]
        exact hS.2.1 q (Nat.lt_of_lt_of_le hq hB) (Nat.not_le.mpr hq)
      · rw [hsz]
        exact ⟨rfl, ce, t5, t6, by rw [t8.alike.findClass]; exact t7⟩
    · cases hf
  · cases hf
end AmMain
