/-! SOUNDNESS: arrays and makings -/
section AmArr
variable {p : Program} {l : Launch} {e : Env} {R : Room} {s : State} {m : MethodId} {args : Array Value} {below : List Frame} {meth : Method} {c : Code} {H : Heap} {locs : List Loc} {cells slots : Nat} {Q : State → Prop}
variable {r : aM} {B : Nat} {D : va_G} {dA : Nat → ClassId} {E : aE} {xs : aX} {b : Nat} {pc : Nat} {ls : Array Slot} {L : aL} {S : List Value} {h : aH}
theorem am_ix_ok {i : Int32} {t : List Value} {v : Value} (hi : am_ix i t = some v) : ¬ i < 0 ∧ i.toNatClampNeg < t.length ∧ t[i.toNatClampNeg]? = some v := by
  unfold am_ix at hi
  split at hi
  · cases hi
  · rename_i h9
    exact ⟨of_decide_eq_false h9, (List.getElem?_eq_some_iff.mp hi).1, hi⟩
theorem am_arr (G : am_G B D dA E xs b s) {tk : Nat} (ht : tk < 4) (n : Nat) (f : Nat → Value) : s.isArrayOf (arrV (dA tk) n f) (am_aty tk) := by
  rcases (show tk = 0 ∨ tk = 1 ∨ tk = 2 ∨ tk = 3 by omega) with rfl | rfl | rfl | rfl
  · exact (G.2.1.2 0 _ rfl).1 n f
  · exact (G.2.1.2 1 _ rfl).1 n f
  · exact (G.2.1.2 2 _ rfl).1 n f
  · exact (G.2.1.2 3 _ rfl).1 n f
def am_aldI : Nat → Instr := fun t => match t with
  | 0 => .iaload
  | 1 => .baload
  | 2 => .laload
  | _ => .aaload
def am_astI : Nat → Instr := fun t => match t with
  | 0 => .iastore
  | 1 => .bastore
  | 2 => .lastore
  | _ => .aastore
theorem am_ref (G : am_G B D dA E xs b s) {a : Nat} (hlt : a < 1000000) : am_tv E (.ref a) = .ref (B + a) := by show Value.ref (E.1 a) = _; rw [G.2.2.2.2.2.2.2.1 a hlt]
theorem am_ald_ok (Cx : am_Cx r B D dA E xs b p l s m meth c) (hR : am_Rel B D dA E h H) (hS : va_S (am_A B) s.heap H locs) {tk : Nat} (htk : tk < 4) {S' : List Value} (hf : am_ald xs.1 tk S h = some S') (hd : decode r.2.1 pc = .ok (am_aldI tk, 1))
    (k : W p l e R s m args below meth c H locs cells slots Q (F0 m (pc + 1) ls (S'.map (am_tv E)))) : W p l e R s m args below meth c H locs cells slots Q (F0 m pc ls (S.map (am_tv E))) := by
  obtain ⟨hx, hb, hml, hr, hlk, htb, hown, hnm, hst, hI, G, hB⟩ := Cx
  unfold am_ald at hf
  split at hf
  · rename_i i a T
    split at hf
    · rename_i tj t hget
      split at hf
      · rename_i hbeq
        split at hf
        · rename_i v hv
          cases hf
          cases (Nat.eq_of_beq_eq_true hbeq : tj = tk)
          obtain ⟨hlt, hcell⟩ := am_get_ok hget
          obtain ⟨-, g1⟩ := hR.2 a _ hcell
          obtain ⟨h0, h1, h2⟩ := am_ix_ok hv
          have harr := am_arr G htk t.length (fun j => am_tv E (t.getD j .null))
          rw [List.map_cons, List.map_cons, am_ref G hlt]
          have hin : ¬ (i < 0 ∨ (arrV (dA tk) t.length (fun j => am_tv E (t.getD j .null))).slots.size ≤ i.toNatClampNeg) := by
            rw [arrV_size]
            exact fun q => q.elim h0 (fun q => Nat.not_lt.mpr q h1)
          have hval : (arrV (dA tk) t.length (fun j => am_tv E (t.getD j .null))).slots[i.toNatClampNeg]? = some (am_tv E v) := by
            rw [arrV_read _ _ h1]
            show some (am_tv E (t.getD _ .null)) = _
            rw [am_getD h2]
          rcases (show tk = 0 ∨ tk = 1 ∨ tk = 2 ∨ tk = 3 by omega) with rfl | rfl | rfl | rfl
          · exact W.iald hx hb g1 harr (fun z => by cases z) hin hval rfl rfl hd k
          · exact W.zald hx hb g1 harr (fun z => by cases z) hin hval rfl rfl hd k
          · exact W.lald hx hb g1 harr (fun z => by cases z) hin hval rfl rfl hd k
          · exact W.aald (ty := .object RX4) hx hb g1 harr rfl (fun z => by cases z) hin hval rfl rfl hd k
        · cases hf
      · cases hf
    · cases hf
    · split at hf
      · rename_i hbeq
        split at hf
        · rename_i v hv
          cases hf
          simp only [Bool.and_eq_true] at hbeq
          cases (Nat.eq_of_beq_eq_true hbeq.1 : a = 2000000)
          cases (Nat.eq_of_beq_eq_true hbeq.2 : tk = 0)
          obtain ⟨h0, h1, h2⟩ := am_ix_ok hv
          obtain ⟨xr, hX, hxr⟩ := G.2.2.2.2.2.1
          have hbl : b < B := G.2.2.2.2.2.2.1
          rw [List.map_cons, List.map_cons, show am_tv E (.ref 2000000) = .ref b by show Value.ref (E.1 2000000) = _; rw [G.2.2.2.2.2.2.2.2.1]]
          refine va_sld hx hb hX (Nat.lt_of_lt_of_le hbl hB) (Nat.not_le.mpr hbl) hS (fun q => q.elim h0 (fun q => Nat.not_lt.mpr q h1)) hd ?_
          rw [← hxr _ _ h2]
          exact k
        · cases hf
      · cases hf
  · cases hf
theorem am_len_ok (Cx : am_Cx r B D dA E xs b p l s m meth c) (hR : am_Rel B D dA E h H) (hS : va_S (am_A B) s.heap H locs) {S' : List Value} (hf : am_len xs.1 S h = some S') (hd : decode r.2.1 pc = .ok (.arraylength, 1))
    (k : W p l e R s m args below meth c H locs cells slots Q (F0 m (pc + 1) ls (S'.map (am_tv E)))) : W p l e R s m args below meth c H locs cells slots Q (F0 m pc ls (S.map (am_tv E))) := by
  obtain ⟨hx, hb, hml, hr, hlk, htb, hown, hnm, hst, hI, G, hB⟩ := Cx
  unfold am_len at hf
  split at hf
  · rename_i a T
    split at hf
    · rename_i tj t hget
      cases hf
      obtain ⟨hlt, hcell⟩ := am_get_ok hget
      obtain ⟨htk, g1⟩ := hR.2 a _ hcell
      rw [List.map_cons, am_ref G hlt]
      exact W.alen (n := Int32.ofNat t.length) hx hb g1 (am_arr G htk _ _) (by rw [arrV_size] <;> rfl) rfl rfl hd k
    · cases hf
    · split at hf
      · rename_i hbeq
        cases hf
        cases (Nat.eq_of_beq_eq_true hbeq : a = 2000000)
        obtain ⟨xr, hX, hxr⟩ := G.2.2.2.2.2.1
        have hbl : b < B := G.2.2.2.2.2.2.1
        rw [List.map_cons, show am_tv E (.ref 2000000) = .ref b by show Value.ref (E.1 2000000) = _; rw [G.2.2.2.2.2.2.2.2.1]]
        exact va_slen hx hb hX (Nat.lt_of_lt_of_le hbl hB) (Nat.not_le.mpr hbl) hS hd k
      · cases hf
  · cases hf
theorem am_arr_set {tk n : Nat} {t : List Value} {i : Nat} (hi : i < t.length) (w : Value) : (arrV (dA tk) t.length (fun j => am_tv E (t.getD j .null))).setSlot i (am_tv E w) = arrV (dA tk) (t.set i w).length (fun j => am_tv E ((t.set i w).getD j .null)) := by
  rw [arrV_store, List.length_set]
  congr 1
  funext j
  exact am_setV hi w j
theorem am_ast_ok (Cx : am_Cx r B D dA E xs b p l s m meth c) (hR : am_Rel B D dA E h H) (hS : va_S (am_A B) s.heap H locs) {tk : Nat} (htk : tk < 4) {q9 : List Value × aH} (hf : am_ast tk S h = some q9) (hd : decode r.2.1 pc = .ok (am_astI tk, 1))
    (k : ∀ (H1 : Heap) (locs1 : List Loc), am_Rel B D dA E q9.2 H1 → va_S (am_A B) s.heap H1 locs1 → W p l e R s m args below meth c H1 locs1 cells slots Q (F0 m (pc + 1) ls (q9.1.map (am_tv E)))) : W p l e R s m args below meth c H locs cells slots Q (F0 m pc ls (S.map (am_tv E))) := by
  obtain ⟨hx, hb, hml, hr, hlk, htb, hown, hnm, hst, hI, G, hB⟩ := Cx
  unfold am_ast at hf
  split at hf
  · rename_i v i a T
    split at hf
    · rename_i tj t hget
      split at hf
      · rename_i hbeq
        split at hf
        · rename_i w hw
          cases hf
          simp only [Bool.and_eq_true, Bool.not_eq_true', decide_eq_false_iff_not] at hbeq
          obtain ⟨⟨hbeq, h0⟩, h1⟩ := hbeq
          have h1 : i.toNatClampNeg < t.length := by simpa using h1
          cases (Nat.eq_of_beq_eq_true hbeq : tj = tk)
          obtain ⟨hlt, hcell⟩ := am_get_ok hget
          obtain ⟨-, g1⟩ := hR.2 a _ hcell
          have harr := am_arr G htk t.length (fun j => am_tv E (t.getD j .null))
          rw [List.map_cons, List.map_cons, List.map_cons, am_ref G hlt]
          have hin : ¬ (i < 0 ∨ (arrV (dA tk) t.length (fun j => am_tv E (t.getD j .null))).slots.size ≤ i.toNatClampNeg) := by
            rw [arrV_size]
            exact fun q => q.elim h0 (fun q => Nat.not_lt.mpr q h1)
          have fin : ∀ H1 : Heap, H1[B + a]? = some ((arrV (dA tk) t.length (fun j => am_tv E (t.getD j .null))).setSlot i.toNatClampNeg (am_tv E w)) → H1.size = H.size → (∀ z, z ≠ B + a → H1[z]? = H[z]?) →
              W p l e R s m args below meth c H1 (locs ++ [⟨B + a, i.toNatClampNeg⟩]) cells slots Q (F0 m (pc + 1) ls (T.map (am_tv E))) := by
            intro H1 e1 e2 e3
            refine k H1 _ (hR.set hcell e2 e3 ⟨htk, ?_⟩) (am_S_put hS e2 e3)
            rw [e1, am_arr_set (n := 0) h1 w]
          rcases (show tk = 0 ∨ tk = 1 ∨ tk = 2 ∨ tk = 3 by omega) with rfl | rfl | rfl | rfl
          · change am_el0 v = some w at hw
            unfold am_el0 at hw
            split at hw
            · rename_i h9
              cases hw
              obtain ⟨x, hv⟩ := am_tvI (E := E) h9
              rw [hv] at fin ⊢
              exact W.iast hx hb g1 harr (fun z => by cases z) hin rfl rfl hd fin
            · cases hw
          · change am_el1 v = some w at hw
            unfold am_el1 at hw
            split at hw
            · cases hw
              exact W.zast hx hb g1 harr (fun z => by cases z) hin rfl rfl hd fin
            · cases hw
          · change am_el2 v = some w at hw
            unfold am_el2 at hw
            split at hw
            · rename_i h9
              cases hw
              obtain ⟨x, hv⟩ := am_tvL (E := E) h9
              rw [hv] at fin ⊢
              exact W.last hx hb g1 harr (fun z => by cases z) hin rfl rfl hd fin
            · cases hw
          · change am_el3 h v = some w at hw
            unfold am_el3 at hw
            split at hw
            · rename_i a2
              split at hw
              · rename_i ci fs hget2
                split at hw
                · rename_i h9
                  cases hw
                  cases (Nat.eq_of_beq_eq_true h9 : ci = 4)
                  obtain ⟨hlt2, hcell2⟩ := am_get_ok hget2
                  obtain ⟨q', hq', hlen, cellV, v1, v2, v3, -⟩ := hR.2 a2 _ hcell2
                  cases hq'
                  have hcls := (G.2.1.1 4 _ rfl).2
                  obtain ⟨kA, comp, k1, k2, k3, -⟩ := (G.2.1.2 3 _ rfl).2
                  have hcomp : comp = D.1 4 := Option.some.inj (k3.symm.trans hcls.1)
                  subst hcomp
                  obtain ⟨kC, hkC, -⟩ := hcls.2
                  rw [am_ref G hlt2] at fin ⊢
                  exact W.aast hx hb g1 (fun q h => by cases h) (fun h => by cases h) k1 k2 rfl hkC ⟨h0, by rw [arrV_size]; exact h1⟩ v1 (fun q h => by rw [v3] at h; cases h) (by rw [v2]; exact hkC) (by rw [v2]; exact va_assign hcls) rfl rfl hd fin
                · cases hw
              · cases hw
            · cases hw
        · cases hf
      · cases hf
    · cases hf
  · cases hf
end AmArr
