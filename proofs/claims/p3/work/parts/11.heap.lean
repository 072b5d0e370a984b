/-! SOUNDNESS: fields, arrays, makings, constants -/
section AmHeap
variable {p : Program} {l : Launch} {e : Env} {R : Room} {s : State} {m : MethodId} {args : Array Value} {below : List Frame} {meth : Method} {c : Code} {H : Heap} {locs : List Loc} {cells slots : Nat} {Q : State → Prop}
variable {r : aM} {B : Nat} {D : va_G} {dA : Nat → ClassId} {E : aE} {xs : aX} {b : Nat} {pc : Nat} {ls : Array Slot} {L : aL} {S : List Value} {h : aH}
theorem am_decl : ∀ (ci : Nat) (q : vw_C), vwCl[ci]? = some q → ∀ j, j < q.2.2 → (q.2.1 j).1 = am_R ci := by
  intro ci q h
  match ci, h with
  | 0, h => cases h; exact (by decide +kernel : ∀ j, j < 11 → (TX0 j).1 = RX0)
  | 1, h => cases h; exact (by decide +kernel : ∀ j, j < 8 → (TX1 j).1 = RX1)
  | 2, h => cases h; exact (by decide +kernel : ∀ j, j < 8 → (TX2 j).1 = RX2)
  | 3, h => cases h; exact (by decide +kernel : ∀ j, j < 9 → (TX3 j).1 = RX3)
  | 4, h => cases h; exact (by decide +kernel : ∀ j, j < 6 → (TX4 j).1 = RX4)
  | 5, h => cases h; exact (by decide +kernel : ∀ j, j < 4 → (TX5 j).1 = RX5)
  | 6, h => cases h; exact (by decide +kernel : ∀ j, j < 9 → (TX6 j).1 = RX6)
  | 7, h => cases h; exact (by decide +kernel : ∀ j, j < 4 → (TX7 j).1 = RX7)
  | 8, h => cases h; exact (by decide +kernel : ∀ j, j < 5 → (TX8 j).1 = RX8)
  | 9, h => cases h; exact (by decide +kernel : ∀ j, j < 4 → (TX9 j).1 = RX9)
  | 10, h => cases h; exact (by decide +kernel : ∀ j, j < 12 → (TX10 j).1 = RX10)
  | 11, h => cases h; exact (by decide +kernel : ∀ j, j < 65 → (TX11 j).1 = RX11)
  | k + 12, h => simp [vwCl] at h
theorem am_putFinN {cc : ByteArray} (hexec : p.tables.exec = Jvm.exec) (hb : c.code = cc) {own ref name desc host : String} {index : Nat} (hown : s.vm.findClass own = some m.cls) (hlink : (Cond.fieldLinkNest own index ref name desc host).before args s = true)
    {cf i : Nat} {k : Class} {f : Field} (hi : s.fieldFound? ref name desc = some (cf, k, i, f)) (hst : f.isStatic = false) (hcf : m.cls = cf) (hin : meth.name = "<init>") {a : Addr} {cell : Cell} {v : Value} (hS : narrow f.type v = v ∧ s.fitsSlot cell.cls .none f.slot v = true)
    (hcell : H[a]? = some cell) (hvm : cell.vm = .none) (hlt : f.slot < cell.slots.size)
    {g : JFrame} (hg : g.method = m) {rest : List Value} (hstack : g.stack = v :: .ref a :: rest) (hdg : decode cc g.pc = .ok (.putfield index, 3))
    (kk : ∀ H' : Heap, H'[a]? = some (cell.setSlot f.slot v) → H'.size = H.size → (∀ q, q ≠ a → H'[q]? = H[q]?) → W p l e R s m args below meth c H' (locs ++ [⟨a, f.slot⟩]) cells slots Q { g with pc := g.pc + 3, stack := rest }) : W p l e R s m args below meth c H locs cells slots Q g := by
  have ha : a < H.size := (Array.getElem?_eq_some_iff.mp hcell).1
  refine va_Wputf hexec hb hown hlink hi hst (Or.inr ⟨hcf, hin⟩) hcell (by rw [hvm]; exact fun h => by cases h) hlt hS.1 (by rw [hvm]; exact hS.2) hg hstack hdg ?_
  refine kk _ ?_ ?_ ?_
  · simp [Array.getElem?_setIfInBounds, ha]
  · simp
  · intro q hq
    simp [Array.getElem?_setIfInBounds, Ne.symm hq]
theorem am_cls_w (G : am_G B D dA E xs b s) {ci : Nat} {q : vw_C} (hc : vwCl[ci]? = some q) : ∀ w ∈ u_ws q.1 q.2.1 q.2.2, w.before args s = true := by
  intro w hw
  obtain ⟨k, hk, rfl⟩ := List.mem_map.mp hw
  exact G.1 _ ((am_cl_ok ci q hc).1 k (List.mem_range.mp hk)) _
theorem am_nf_eq {ci : Nat} {q : vw_C} (hc : vwCl[ci]? = some q) : am_nf ci = q.2.2 := by unfold am_nf; rw [hc]
theorem am_getD {fs : List Value} {k : Nat} {v : Value} (h : fs[k]? = some v) : fs.getD k .null = v := by rw [List.getD_eq_getElem?_getD, h]; rfl
theorem am_getf_ok (Cx : am_Cx r B D dA E xs b p l s m meth c) (hR : am_Rel B D dA E h H) {idx : Nat} {S' : List Value} (hf : am_getf r.2.2.2.2.1 idx S h = some S') (hd : decode r.2.1 pc = .ok (.getfield idx, 3))
    (k : W p l e R s m args below meth c H locs cells slots Q (F0 m (pc + 3) ls (S'.map (am_tv E)))) : W p l e R s m args below meth c H locs cells slots Q (F0 m pc ls (S.map (am_tv E))) := by
  obtain ⟨hx, hb, hml, hr, hlk, htb, hown, hnm, hst, hI, G, hB⟩ := Cx
  unfold am_getf at hf
  split at hf
  · rename_i a T
    split at hf
    · rename_i ci j hlook
      split at hf
      · rename_i cj fs hget
        split at hf
        · rename_i hbeq
          split at hf
          · rename_i v hv
            cases hf
            have hcj : ci = cj := Nat.eq_of_beq_eq_true hbeq
            subst hcj
            obtain ⟨hlt, hcell⟩ := am_get_ok hget
            obtain ⟨q, hq, hjn, hlink⟩ := am_fd_ok _ (am_look2_mem hlook)
            dsimp only at hq hjn hlink
            obtain ⟨q', hq', hlen, cell, g1, g2, g3, g4⟩ := hR.2 a _ hcell
            cases Option.some.inj (hq.symm.trans hq')
            obtain ⟨hS, hfc, kC, hkC, hkind⟩ := G.2.1.1 ci q hq
            obtain ⟨cf, kf, fi, f, hi, hsl⟩ := hS j hjn
            have hfst := (u_facts hfc hkC (u_lays (am_cls_w (args := args) G hq) (fun w h => h) hjn) hi).1
            have hslot : cell.slots[f.slot]? = some (am_tv E v) := by
              rw [hsl, g4 j hjn]
              show some (am_tv E (fs.getD j .null)) = _
              rw [am_getD hv]
            have ha : am_tv E (.ref a) = .ref (B + a) := by show Value.ref (E.1 a) = _; rw [G.2.2.2.2.2.2.2.1 a hlt]
            rw [List.map_cons, ha]
            rcases hlink with hl1 | ⟨host, hl1⟩
            · exact W.getf hx hb hown (G.1 _ hl1 _) hi hfst g1 (by rw [g3]; exact fun z => by cases z) hslot rfl rfl hd k
            · exact va_Wgetf hx hb hown (G.1 _ hl1 _) hi hfst g1 (by rw [g3]; exact fun z => by cases z) hslot rfl rfl hd k
          · cases hf
        · cases hf
      · cases hf
    · cases hf
  · cases hf
theorem am_fit_ok {ty : FieldType} {v : Value} (hf : am_fit ty v = true) : narrow ty (am_tv E v) = am_tv E v ∧ fits ty (am_tv E v) = true := by
  unfold am_fit at hf
  split at hf
  · obtain ⟨x, hv⟩ := am_tvI (E := E) hf
    rw [hv]; exact ⟨rfl, rfl⟩
  · simp only [Bool.or_eq_true, decide_eq_true_eq] at hf
    rcases hf with rfl | rfl
    · exact ⟨rfl, rfl⟩
    · exact ⟨rfl, rfl⟩
  · simp only [Bool.or_eq_true, decide_eq_true_eq] at hf
    rcases hf with hf | rfl
    · obtain ⟨k, rfl⟩ := am_tvR hf; exact ⟨rfl, rfl⟩
    · exact ⟨rfl, rfl⟩
  · simp only [Bool.or_eq_true, decide_eq_true_eq] at hf
    rcases hf with hf | rfl
    · obtain ⟨k, rfl⟩ := am_tvR hf; exact ⟨rfl, rfl⟩
    · exact ⟨rfl, rfl⟩
  · cases hf
theorem am_S_put {H1 : Heap} {a i : Nat} (hS : va_S (am_A B) s.heap H locs) (hz : H1.size = H.size) (ho : ∀ q, q ≠ B + a → H1[q]? = H[q]?) : va_S (am_A B) s.heap H1 (locs ++ [⟨B + a, i⟩]) := by
  refine ⟨by rw [hz]; exact hS.1, fun q h1 h2 => ?_, fun z hz => ?_⟩
  · rw [ho q (fun h3 => h2 (by rw [h3]; exact Nat.le_add_right _ _))]
    exact hS.2.1 q h1 h2
  · rcases List.mem_append.mp hz with h9 | h9
    · exact hS.2.2 z h9
    · cases List.mem_singleton.mp h9
      exact Nat.le_add_right _ _
theorem am_S_push {H1 : Heap} (hS : va_S (am_A B) s.heap H locs) (hz : H1.size = H.size + 1) (ho : ∀ q, q < H.size → H1[q]? = H[q]?) : va_S (am_A B) s.heap H1 locs :=
  ⟨by rw [hz]; exact Nat.le_trans hS.1 (Nat.le_succ _), fun q h1 h2 => (ho q (Nat.lt_of_lt_of_le h1 hS.1)).trans (hS.2.1 q h1 h2), hS.2.2⟩
theorem am_setV {fs : List Value} {j : Nat} (hj : j < fs.length) (v : Value) (i : Nat) : updV (fun j => am_tv E (fs.getD j .null)) j (am_tv E v) i = am_tv E ((fs.set j v).getD i .null) := by
  unfold updV
  by_cases h9 : i = j
  · subst h9
    simp [List.getD_eq_getElem?_getD, hj]
  · rw [if_neg h9]
    simp [List.getD_eq_getElem?_getD, List.getElem?_set, Ne.symm h9]
theorem am_putf_ok (Cx : am_Cx r B D dA E xs b p l s m meth c) (hR : am_Rel B D dA E h H) (hS : va_S (am_A B) s.heap H locs) {idx : Nat} {q9 : List Value × aH} (hf : am_putf r.2.2.2.2.1 (decide (r.1.name = "<init>")) idx S h = some q9) (hd : decode r.2.1 pc = .ok (.putfield idx, 3))
    (k : ∀ (H1 : Heap) (locs1 : List Loc), am_Rel B D dA E q9.2 H1 → va_S (am_A B) s.heap H1 locs1 → W p l e R s m args below meth c H1 locs1 cells slots Q (F0 m (pc + 3) ls (q9.1.map (am_tv E)))) : W p l e R s m args below meth c H locs cells slots Q (F0 m pc ls (S.map (am_tv E))) := by
  obtain ⟨hx, hb, hml, hr, hlk, htb, hown, hnm, hst, hI, G, hB⟩ := Cx
  unfold am_putf at hf
  split at hf
  · rename_i v a T
    split at hf
    · rename_i ci j hlook
      split at hf
      · rename_i cj fs hget
        split at hf
        · rename_i hbeq
          cases hf
          simp only [Bool.and_eq_true] at hbeq
          obtain ⟨⟨⟨hbeq, hln⟩, hfit⟩, hfin⟩ := hbeq
          have hcj : ci = cj := Nat.eq_of_beq_eq_true hbeq
          subst hcj
          obtain ⟨hlt, hcell⟩ := am_get_ok hget
          obtain ⟨q, hq, hjn, hlink⟩ := am_fd_ok _ (am_look2_mem hlook)
          dsimp only at hq hjn hlink
          have hok := am_cl_ok ci q hq
          obtain ⟨q', hq', hlen, cell, g1, g2, g3, g4⟩ := hR.2 a _ hcell
          cases Option.some.inj (hq.symm.trans hq')
          have hap := va_apart (own := am_R r.2.2.2.2.1) (am_cls_w (args := args) G hq) (fun w h => h) (am_ty ci) hok.2.1 hok.2.2.1 G.2.1 hq
          obtain ⟨hSl, hfc, kC, hkC, hkind⟩ := G.2.1.1 ci q hq
          obtain ⟨cf, kf, fi, f, hi, hsl⟩ := hSl j hjn
          have hlay := G.1 _ (hok.1 j hjn) args
          have hfst := (u_facts hfc hkC (u_lays (am_cls_w (args := args) G hq) (fun w h => h) hjn) hi).1
          have ha : am_tv E (.ref a) = .ref (B + a) := by show Value.ref (E.1 a) = _; rw [G.2.2.2.2.2.2.2.1 a hlt]
          rw [List.map_cons, List.map_cons, ha]
          obtain ⟨hn1, hf1⟩ := am_fit_ok (E := E) hfit
          have hjl : j < fs.length := by rw [← hlen]; exact hjn
          have fin : ∀ (H1 : Heap), H1[B + a]? = some (cell.setSlot f.slot (am_tv E v)) → H1.size = H.size → (∀ z, z ≠ B + a → H1[z]? = H[z]?) → W p l e R s m args below meth c H1 (locs ++ [⟨B + a, f.slot⟩]) cells slots Q (F0 m (pc + 3) ls (T.map (am_tv E))) := by
            intro H1 e1 e2 e3
            refine k H1 _ (hR.set hcell e2 e3 ⟨q, hq, by rw [List.length_set]; exact hlen, ?_⟩) (am_S_put hS e2 e3)
            rw [hsl] at e1
            exact t_OB.to (V := updV (fun j => am_tv E (fs.getD j .null)) j (am_tv E v)) ⟨_, e1, g2, g3, t_set g4 hap hjn (am_tv E v)⟩ (fun i _ => am_setV hjl v i)
          unfold u_lay at hlay
          by_cases hff : (q.2.1 j).2.2.2 = true
          · rw [if_pos hff] at hlay
            have hfi : am_fin ci j = true := by unfold am_fin; rw [hq]; exact hff
            rw [hfi] at hfin
            simp only [Bool.not_true, Bool.false_or, Bool.and_eq_true, decide_eq_true_eq] at hfin
            obtain ⟨hini, hoc⟩ := hfin
            have hoc : r.2.2.2.2.1 = ci := Nat.eq_of_beq_eq_true hoc
            have hdecl : (q.2.1 j).1 = am_R r.2.2.2.2.1 := by
              rw [hoc]
              exact am_decl ci q hq j hjn
            have hcf : m.cls = cf := by
              obtain ⟨_, _, c', _, _, _, -, -, hf', -, -, -, hown2, -⟩ := Cond.laysFinal_spec hlay
              have e1 : c' = cf := by have := hi.symm.trans hf'; simp at this; exact this.1.symm
              rw [hdecl] at hown2
              rw [← e1]; exact Option.some.inj (hown.symm.trans hown2)
            have h6 := u_fits hfc hkC hkind (Or.inr hlay) hi (hok.2.1 j hjn) hn1 hf1
            rcases hlink with hl1 | ⟨host, hl1⟩
            · exact W.putFinK hx hb hown (G.1 _ hl1 _) hi hfst hcf (hnm.trans hini) (by rw [g2]; exact h6) g1 g3 (by rw [hsl]; exact k2_hasslot (g4 j hjn)) rfl rfl hd fin
            · exact am_putFinN hx hb hown (G.1 _ hl1 _) hi hfst hcf (hnm.trans hini) (by rw [g2]; exact h6) g1 g3 (by rw [hsl]; exact k2_hasslot (g4 j hjn)) rfl rfl hd fin
          · rw [if_neg hff] at hlay
            have h6 := u_store hfc hkC hkind hlay hi (hok.2.1 j hjn) hn1 hf1
            rcases hlink with hl1 | ⟨host, hl1⟩
            · exact W.putK hx hb (f := f) ⟨hown, G.1 _ hl1 _, ⟨_, _, _, hi⟩, hfst⟩ (by rw [g2]; exact h6) g1 g3 (by rw [hsl]; exact k2_hasslot (g4 j hjn)) rfl rfl hd fin
            · exact va_WputK hx hb (f := f) hown (G.1 _ hl1 _) hi hfst (by rw [g2]; exact h6) g1 g3 (by rw [hsl]; exact k2_hasslot (g4 j hjn)) rfl rfl hd fin
        · cases hf
      · cases hf
    · cases hf
  · cases hf
end AmHeap
