/-! A CALL OUT OF A RUN; THE INDUCTION OVER RUNS -/
theorem am_Rn : ∀ (ci : Nat) (q : vw_C), vwCl[ci]? = some q → q.1 = am_R ci := by
  intro ci q h
  match ci, h with
  | 0, h => cases h; rfl
  | 1, h => cases h; rfl
  | 2, h => cases h; rfl
  | 3, h => cases h; rfl
  | 4, h => cases h; rfl
  | 5, h => cases h; rfl
  | 6, h => cases h; rfl
  | 7, h => cases h; rfl
  | 8, h => cases h; rfl
  | 9, h => cases h; rfl
  | 10, h => cases h; rfl
  | 11, h => cases h; rfl
  | k + 12, h => simp [vwCl] at h
theorem am_rc1_ok {a : aM} {h : aH} {As : List Value} (h9 : am_rc1 a h As = true) : ∃ rk As' ci fs, As = .ref rk :: As' ∧ am_get h rk = some (false, ci, fs) ∧ ci = a.2.2.2.2.1 := by
  unfold am_rc1 at h9
  split at h9
  · split at h9
    · rename_i h8
      exact ⟨_, _, _, _, rfl, h8, Nat.eq_of_beq_eq_true h9⟩
    · cases h9
  · cases h9
theorem am_rc2_ok {As : List Value} (h9 : am_rc2 As = true) : ∃ rk As', As = .ref rk :: As' := by
  unfold am_rc2 at h9
  split at h9
  · exact ⟨_, _, rfl⟩
  · cases h9
section AmMain
variable {p : Program} {l : Launch} {e : Env} {R : Room} {s : State} {m : MethodId} {args : Array Value} {below : List Frame} {meth : Method} {c : Code} {H : Heap} {locs : List Loc} {cells slots : Nat} {Q : State → Prop}
variable {r : aM} {B : Nat} {D : va_G} {dA : Nat → ClassId} {E : aE} {xs : aX} {b : Nat} {pc : Nat} {ls : Array Slot} {L : aL} {S : List Value} {h : aH}
theorem am_invk_ok (Cx : am_Cx r B D dA E xs b p l s m meth c) (hR : am_Rel B D dA E h H) (hS : va_S (am_A B) s.heap H locs) (hl : lv_has ls r.2.2.1 (am_lm E L)) {call : aM → List Value → aH → Option aR} {kind idx d : Nat} (hk3 : kind < 3) {t : aN ⊕ aR} (hf : am_invk call r kind idx pc L S h = some t)
    (hcall : ∀ (a : aM) (As : List Value) (u : aR), call a As h = some u → am_okM a → am_okI a → am_sum As ≤ a.2.2.1 → am_Ct l B D dA E xs b d a As h u) (hfr : d + 1 + 8 ≤ R.frames) (hlo : 60 * (d + 1) + 200 ≤ R.locals)
    (hd : decode r.2.1 pc = .ok (am_vI kind idx, 3)) (h4 : cells + (am_kj t).1 ≤ R.cells) (h5 : slots + (am_kj t).2 ≤ R.slots)
    (kn : ∀ n : aN, t = .inl n → ∀ (H1 : Heap) (locs1 : List Loc) (ls1 : Array Slot), am_Rel B D dA E n.2.2.2.1 H1 → va_S (am_A B) s.heap H1 locs1 → lv_has ls1 r.2.2.1 (am_lm E n.2.1) → W p l e R s m args below meth c H1 locs1 (cells + n.2.2.2.2.1) (slots + n.2.2.2.2.2) Q (F0 m n.1 ls1 (n.2.2.1.map (am_tv E))))
    (ke : ∀ u : aR, t = .inr u → am_End below s B (am_Oc B D dA E s.heap u.1 u.2.1) (cells + u.2.2.1) (slots + u.2.2.2) Q) :
    W p l e R s m args below meth c H locs cells slots Q (F0 m pc ls (S.map (am_tv E))) := by
  have Cx' := Cx
  obtain ⟨hx, hb, hml, hr, hlk, htb, hown, hnm, hst, hI, G, hB⟩ := Cx
  unfold am_invk at hf
  split at hf
  · cases hf
  · rename_i q hlook
    split at hf
    · cases hf
    · rename_i hkd
      split at hf
      · cases hf
      · rename_i a hprog
        split at hf
        · cases hf
        · rename_i hchk
          split at hf
          · cases hf
          · rename_i u hu
            simp only [Bool.and_eq_true] at hchk
            obtain ⟨⟨⟨k1, k2⟩, k3⟩, k4⟩ := hchk
            have k1 := Nat.eq_of_beq_eq_true k1
            have k2 := Nat.le_of_ble_eq_true k2
            have k3 := Nat.le_of_ble_eq_true k3
            obtain ⟨a', ha', hlink, hokM, hkind⟩ := am_lk_ok _ (am_look2_mem hlook)
            cases Option.some.inj (hprog.symm.trans ha')
            have hkd : q.2 = kind := Nat.eq_of_beq_eq_true hkd
            have hokI : am_okI a := am_prog_ok a (List.mem_of_getElem? hprog)
            have hM := hcall _ _ _ hu hokM hokI k3 H hR
            have hSeq : S = ((S.take (am_nar kind a)).reverse).reverse ++ S.drop (am_nar kind a) := by rw [List.reverse_reverse, List.take_append_drop]
            generalize (S.take (am_nar kind a)).reverse = As at *
            generalize S.drop (am_nar kind a) = rest at *
            subst hSeq
            obtain ⟨o1, o2, o3, o4, o5, o6, o7⟩ := hokM
            have hlk1 : (Cond.methodLink (am_R r.2.2.2.2.1) idx a.1).before args s = true ∨ ∃ host, (Cond.methodLinkNest (am_R r.2.2.2.2.1) idx a.1 host).before args s = true := by
              rcases hlink with h9 | ⟨host, h9⟩
              · exact Or.inl (G.1 _ h9 _)
              · exact Or.inr ⟨host, G.1 _ h9 _⟩
            have hlen : ∀ (n : Nat), a.2.2.2.2.2.2.1 = n → ∀ sig, parseMethodDescriptor a.1.desc = some sig → n = sig.parameters.length := by
              intro n hn sig h9
              rw [h9] at o7
              rw [← hn]
              exact (Option.some.inj o7).symm
            have hPc : ∀ (U : State) (g' : JFrame) (mk : MethodId), U.heap = H → s.WarmedH U.vm → am_Pc B D dA E xs b As H (As.map (am_tv E)).toArray (U.calling g' mk (As.map (am_tv E)).toArray) := fun U g' mk hU hW => ⟨rfl, am_calling G hS hU hW g' mk _, hU⟩
            have hSm : (As.reverse ++ rest).map (am_tv E) = (As.map (am_tv E)).reverse ++ rest.map (am_tv E) := by rw [List.map_append, List.map_reverse]
            rw [hSm]
            rcases (show kind = 0 ∨ kind = 1 ∨ kind = 2 by omega) with rfl | rfl | rfl
            · have hst9 : am_in (.static a.1) := by
                rcases hkind with h9 | h9 | h9
                · exact h9.2
                · have := h9.1; dsimp only at this; omega
                · have := h9.1; dsimp only at this; omega
              refine am_beh2_ok Cx' hS hl hf (fun T hT X => am_invS X hx hown hlk1 (G.1 _ hst9 _) (G.1 _ o3 _) (G.1 _ o2 _) o6 rfl (argsL := As.map (am_tv E)) (fun sig h9 => ?_) rfl (by rw [hb]; exact hd)) hM hfr hlo o5 hd k2 o2 o3 h4 h5 hPc kn ke
              rw [List.length_map]
              exact hlen As.length k1.symm sig h9
            · have hvi : am_in (.instanceMethod a.1) ∧ am_in (.selects a.1.cls a.1 a.1) := by
                rcases hkind with h9 | h9 | h9
                · have := h9.1; dsimp only at this; omega
                · exact h9.2
                · have := h9.1; dsimp only at this; omega
              obtain ⟨rk, As', ci, fs, rfl, hget, hci⟩ := am_rc1_ok k4
              obtain ⟨hlt, hcell⟩ := am_get_ok hget
              obtain ⟨q', hq', -, cell, g1, g2, g3, -⟩ := hR.2 rk _ hcell
              have hfc := (G.2.1.1 ci q' hq').2.1
              have hcl : s.vm.findClass a.1.cls = some cell.cls := by
                rw [g2, ← o4, ← hci, ← am_Rn ci q' hq']
                exact hfc
              refine am_beh2_ok (a := (((Value.ref rk) :: As').map (am_tv E)).toArray) Cx' hS hl hf (fun T hT X => ?_) hM hfr hlo o5 hd k2 o2 o3 h4 h5 hPc kn ke
              have hrf := am_ref G hlt
              have h9 := am_invV X hx hown hlk1 (G.1 _ hvi.1 _) (G.1 _ hvi.2 _) (G.1 _ o2 _) o6 (b := B + rk) (by rw [hT]; exact g1) (by rw [g3]; rfl) hcl (g := F0 m pc ls ((((Value.ref rk) :: As').map (am_tv E)).reverse ++ rest.map (am_tv E))) rfl (argsL := As'.map (am_tv E)) (rest := rest.map (am_tv E)) (fun sig h9 => ?_) (by rw [List.map_cons, List.reverse_cons, hrf, List.append_assoc]; rfl) (by rw [hb]; exact hd)
              · rw [List.map_cons, hrf]
                rw [List.map_cons, hrf] at h9
                exact h9
              · rw [List.length_map]
                refine hlen As'.length ?_ sig h9
                have k9 : (Value.ref rk :: As').length = a.2.2.2.2.2.2.1 + 1 := k1
                rw [List.length_cons] at k9
                omega
            · have hvi : am_in (.instanceMethod a.1) ∧ a.1.name = "<init>" ∧ a.2.2.2.1 = none ∧ a.2.2.2.2.2.1 = [] := by
                rcases hkind with h9 | h9 | h9
                · have := h9.1; dsimp only at this; omega
                · have := h9.1; dsimp only at this; omega
                · exact h9.2
              obtain ⟨rk, As', rfl⟩ := am_rc2_ok k4
              have hcode : (Cond.code a.1 a.2.1 a.2.2.1 none).before args s = true := by
                have h9 := G.1 _ o2 args
                rw [hvi.2.2.1, hvi.2.2.2] at h9
                exact h9
              refine am_beh2_ok (a := (((Value.ref rk) :: As').map (am_tv E)).toArray) Cx' hS hl hf (fun T hT X => ?_) hM hfr hlo o5 hd k2 o2 o3 h4 h5 hPc kn ke
              refine am_invI X hx hown hvi.2.1 hlk1 (G.1 _ hvi.1 _) hcode o6 (b := E.1 rk) rfl (argsL := As'.map (am_tv E)) (rest := rest.map (am_tv E)) (fun sig h9 => ?_) (by show (Value.ref (E.1 rk) :: As'.map (am_tv E)).reverse ++ _ = _; rw [List.reverse_cons, List.append_assoc]; rfl) (by rw [hb]; exact hd)
              rw [List.length_map]
              refine hlen As'.length ?_ sig h9
              have k9 : (Value.ref rk :: As').length = a.2.2.2.2.2.2.1 + 1 := k1
              rw [List.length_cons] at k9
              omega
theorem am_obj_ok (Cx : am_Cx r B D dA E xs b p l s m meth c) (hl : lv_has ls r.2.2.1 (am_lm E L)) {idx : Nat} {S' : List Value} (hf : am_obj r.2.2.2.2.1 idx S = some S') (hd : decode r.2.1 pc = .ok (.invokespecial idx, 3)) (hfr : 1 ≤ R.frames) (hlo : 20 ≤ R.locals)
    (k : W p l e R s m args below meth c H locs cells slots Q (F0 m (pc + 3) ls (S'.map (am_tv E)))) : W p l e R s m args below meth c H locs cells slots Q (F0 m pc ls (S.map (am_tv E))) := by
  obtain ⟨hx, hb, hml, hr, hlk, htb, hown, hnm, hst, hI, G, hB⟩ := Cx
  unfold am_obj at hf
  split at hf
  · rename_i a T
    split at hf
    · rename_i q hlook
      split at hf
      · rename_i hsum
        cases hf
        have hsum := Nat.le_of_ble_eq_true hsum
        refine W.objInit hx hb hown (G.1 _ (am_oiT_ok _ (am_look2_mem hlook)) _) (G.1 _ am_oI _) (G.1 _ am_oC _) rfl (by rw [hml]; exact hl.1) rfl hd hfr ?_ k
        show 2 * 0 + ((S'.map (am_tv E)).map fun v => v.category).sum + 12 ≤ _
        rw [show ((S'.map (am_tv E)).map fun v => v.category).sum = am_sum S' from am_sum_tv E S']
        omega
      · cases hf
    · cases hf
  · cases hf
theorem am_slen_ok (Cx : am_Cx r B D dA E xs b p l s m meth c) (hR : am_Rel B D dA E h H) (hS : va_S (am_A B) s.heap H locs) (hl : lv_has ls r.2.2.1 (am_lm E L)) {idx : Nat} {S' : List Value} (hf : am_slen r.2.2.2.2.1 idx S = some S') (hd : decode r.2.1 pc = .ok (.invokevirtual idx, 3)) (hfr : 2 ≤ R.frames) (hlo : 40 ≤ R.locals) (hc : cells ≤ R.cells) (hs : slots ≤ R.slots)
    (k : ∀ (H1 : Heap) (locs1 : List Loc), am_Rel B D dA E h H1 → va_S (am_A B) s.heap H1 locs1 → W p l e R s m args below meth c H1 locs1 cells slots Q (F0 m (pc + 3) ls (S'.map (am_tv E)))) : W p l e R s m args below meth c H locs cells slots Q (F0 m pc ls (S.map (am_tv E))) := by
  obtain ⟨hx, hb, hml, hr, hlk, htb, hown, hnm, hst, hI, G, hB⟩ := Cx
  unfold am_slen at hf
  split at hf
  · rename_i a T
    split at hf
    · rename_i q hlook
      split at hf
      · rename_i hchk
        cases hf
        simp only [Bool.and_eq_true] at hchk
        obtain ⟨⟨k1, k2⟩, k3⟩ := hchk
        have k1 := Nat.le_of_ble_eq_true k1
        have k2 : a < 1000000 + am_sn := by simpa using k2
        have k3 := Nat.le_of_ble_eq_true k3
        obtain ⟨i, rfl⟩ : ∃ i : Nat, a = 1000000 + i := ⟨a - 1000000, (Nat.add_sub_cancel' k1).symm⟩
        have hi : i < am_sn := Nat.lt_of_add_lt_add_left k2
        rw [show 1000000 + i - 1000000 = i from Nat.add_sub_cancel_left _ _] at k
        obtain ⟨z1, -, adV, z3⟩ := id G.2.2.2.2.2.2.2.2.2.2.1
        obtain ⟨cellB, c1, c2, c3, -⟩ := (z3 i hi).1.kept hS.2.1
        rw [List.map_cons]
        refine am_call (ig := .invokevirtual idx) (rest := T.map (am_tv E)) (fun Tt hT X => am_invV (cc := cJ0_length_8abf5) (maxL := 1) (ret := some .int) (hh := []) X hx hown (Or.inl (G.1 _ (am_sli_ok _ (am_look2_mem hlook)) _)) (G.1 _ am_s1 _) (G.1 _ am_s2 _) (G.1 _ am_s10 _) (by decide +kernel) (by rw [hT]; exact c1) c2 c3 rfl (argsL := []) (fun sig h => by
            have h9 : parseMethodDescriptor yJ0_length_8abf5.desc = some ⟨[], some .int⟩ := by decide +kernel
            rw [h9] at h; cases h; rfl) rfl (by rw [hb]; exact hd))
          (am_length (E := E) (B := B) (D := D) (dA := dA) (xs := xs) (b := b) i hi H) (by show 1 + 1 ≤ _; omega) (by show 8 + (1 + 11) + 20 ≤ _; omega) rfl (by rw [hml]; exact hl.1) (by rw [hb]; exact hd)
          (lv_room (by rw [show ((T.map (am_tv E)).map fun v => v.category).sum = am_sum T from am_sum_tv E T]; exact k3))
          (fun U hW => am_warm (args := #[]) am_s10.2 hW (G.1 _ am_s10 _)) (fun U hW => am_warm (args := #[]) am_s3.2 hW (G.1 _ am_s3 _)) hc hs
          (fun U g' mk hU hW => ⟨rfl, am_calling G hS hU hW g' mk _, hU⟩) (fun v t L2 hq hL2 => ?_) (fun q t L2 hq hL2 => by cases hq.1)
        cases hq.1
        have h9 := k t.heap (locs ++ L2) (by rw [hq.2]; exact hR) (am_next hS (by rw [hq.2]; exact Nat.le_refl _) (fun q _ => by rw [hq.2]) hL2)
        exact h9
      · cases hf
    · cases hf
  · cases hf
/-- THE CONTRACT OUT OF THE INDUCTION's HYPOTHESIS -/
theorem am_schr_ok (Cx : am_Cx r B D dA E xs b p l s m meth c) (hR : am_Rel B D dA E h H) (hS : va_S (am_A B) s.heap H locs) (hl : lv_has ls r.2.2.1 (am_lm E L)) {idx : Nat} {S' : List Value} (hf : am_schr r.2.2.2.2.1 idx S = some S') (hd : decode r.2.1 pc = .ok (.invokevirtual idx, 3)) (hfr : 8 ≤ R.frames) (hlo : 200 ≤ R.locals) (hc : cells ≤ R.cells) (hs : slots ≤ R.slots)
    (k : ∀ (H1 : Heap) (locs1 : List Loc), am_Rel B D dA E h H1 → va_S (am_A B) s.heap H1 locs1 → W p l e R s m args below meth c H1 locs1 cells slots Q (F0 m (pc + 3) ls (S'.map (am_tv E)))) : W p l e R s m args below meth c H locs cells slots Q (F0 m pc ls (S.map (am_tv E))) := by
  obtain ⟨hx, hb, hml, hr, hlk, htb, hown, hnm, hst, hI, G, hB⟩ := Cx
  unfold am_schr at hf
  split at hf
  · rename_i j a T
    split at hf
    · rename_i q hlook
      split at hf
      · rename_i hchk
        cases hf
        simp only [Bool.and_eq_true, Bool.not_eq_true', decide_eq_false_iff_not] at hchk
        obtain ⟨⟨⟨⟨k1, k2⟩, k3⟩, k4⟩, k5⟩ := hchk
        have k1 := Nat.le_of_ble_eq_true k1
        have k2 : a < 1000000 + am_sn := by simpa using k2
        have k3 := Nat.le_of_ble_eq_true k3
        obtain ⟨i, rfl⟩ : ∃ i : Nat, a = 1000000 + i := ⟨a - 1000000, (Nat.add_sub_cancel' k1).symm⟩
        have hi : i < am_sn := Nat.lt_of_add_lt_add_left k2
        rw [show 1000000 + i - 1000000 = i from Nat.add_sub_cancel_left _ _] at k k5
        have k5 : j.toNatClampNeg < am_sl i := by simpa using k5
        obtain ⟨z1, -, adV, z3⟩ := id G.2.2.2.2.2.2.2.2.2.2.1
        obtain ⟨cellB, c1, c2, c3, -⟩ := (z3 i hi).1.kept hS.2.1
        rw [List.map_cons, List.map_cons]
        refine am_call (ig := .invokevirtual idx) (rest := T.map (am_tv E)) (fun Tt hT X => am_invV (cc := cJ0_charAt_5068e) (maxL := 2) (ret := some .char) (hh := []) X hx hown (Or.inl (G.1 _ (am_sci_ok _ (am_look2_mem hlook)) _)) (G.1 _ am_C0i _) (G.1 _ am_C0s _) (G.1 _ am_C0c _) (by decide +kernel) (by rw [hT]; exact c1) c2 c3 rfl (argsL := [.int j]) (fun sig h => by
            have h9 : parseMethodDescriptor yJ0_charAt_5068e.desc = some ⟨[.int], some .char⟩ := by decide +kernel
            rw [h9] at h; cases h; rfl) rfl (by rw [hb]; exact hd))
          (am_charAt (E := E) (B := B) (D := D) (dA := dA) (xs := xs) (b := b) i hi j k4 k5 H) (by show 4 + 1 ≤ _; omega) (by show 8 + (2 + 11) + 120 ≤ _; omega) rfl (by rw [hml]; exact hl.1) (by rw [hb]; exact hd)
          (lv_room (by rw [show ((T.map (am_tv E)).map fun v => v.category).sum = am_sum T from am_sum_tv E T]; exact k3))
          (fun U hW => am_warm (args := #[]) am_C0c.2 hW (G.1 _ am_C0c _)) (fun U hW => am_warm (args := #[]) am_s3.2 hW (G.1 _ am_s3 _)) hc hs
          (fun U g' mk hU hW => ⟨rfl, am_calling G hS hU hW g' mk _, hU⟩) (fun v t L2 hq hL2 => ?_) (fun q t L2 hq hL2 => by cases hq.1)
        cases hq.1
        have h9 := k t.heap (locs ++ L2) (by rw [hq.2]; exact hR) (am_next hS (by rw [hq.2]; exact Nat.le_refl _) (fun q _ => by rw [hq.2]) hL2)
        exact h9
      · cases hf
    · cases hf
  · cases hf
theorem am_cpy_get {l0 l1 : List Value} {sp dp n : Nat} (h0 : sp + n ≤ l0.length) (h1 : dp + n ≤ l1.length) (j : Nat) : (am_cpy l0 l1 sp dp n).getD j .null = va_cpy (fun j => l0.getD j .null) (fun j => l1.getD j .null) sp dp n j := by
  have e1 : (l1.take dp).length = dp := by rw [List.length_take]; omega
  have e2 : ((l0.drop sp).take n).length = n := by rw [List.length_take, List.length_drop]; omega
  unfold am_cpy va_cpy
  by_cases a1 : j < dp
  · rw [if_neg (by omega), List.getD_eq_getElem?_getD, List.getElem?_append_left (by omega), List.getElem?_take_of_lt a1, ← List.getD_eq_getElem?_getD]
  · by_cases a2 : j < dp + n
    · rw [if_pos (by omega), List.getD_eq_getElem?_getD, List.getElem?_append_right (by omega), e1, List.getElem?_append_left (by omega), List.getElem?_take_of_lt (by omega), List.getElem?_drop, ← List.getD_eq_getElem?_getD]
    · rw [if_neg (by omega), List.getD_eq_getElem?_getD, List.getElem?_append_right (by omega), e1, List.getElem?_append_right (by omega), e2, List.getElem?_drop, ← List.getD_eq_getElem?_getD]
      congr 1
      omega
theorem am_cpy_len {l0 l1 : List Value} {sp dp n : Nat} (h0 : sp + n ≤ l0.length) (h1 : dp + n ≤ l1.length) : (am_cpy l0 l1 sp dp n).length = l1.length := by
  unfold am_cpy
  simp only [List.length_append, List.length_take, List.length_drop]
  omega
theorem am_acp_ok (Cx : am_Cx r B D dA E xs b p l s m meth c) (hR : am_Rel B D dA E h H) (hS : va_S (am_A B) s.heap H locs) (hl : lv_has ls r.2.2.1 (am_lm E L)) {idx : Nat} {q9 : List Value × aH} (hf : am_acp r.2.2.2.2.1 idx S h = some q9) (hd : decode r.2.1 pc = .ok (.invokestatic idx, 3)) (hfr : 1 ≤ R.frames) (hlo : 100 ≤ R.locals)
    (k : ∀ (H1 : Heap) (locs1 : List Loc), am_Rel B D dA E q9.2 H1 → va_S (am_A B) s.heap H1 locs1 → W p l e R s m args below meth c H1 locs1 cells slots Q (F0 m (pc + 3) ls (q9.1.map (am_tv E)))) : W p l e R s m args below meth c H locs cells slots Q (F0 m pc ls (S.map (am_tv E))) := by
  obtain ⟨hx, hb, hml, hr, hlk, htb, hown, hnm, hst, hI, G, hB⟩ := Cx
  have nn : ∀ z : Int32, ¬ z < 0 → z.toInt = (z.toNatClampNeg : Int) := by
    intro z hz
    have hz0 : (0 : Int) ≤ z.toInt := by
      have := Int32.not_lt.mp hz
      simpa using Int32.le_iff_toInt_le.mp this
    show z.toInt = ((z.toInt.toNat : Nat) : Int)
    omega
  unfold am_acp at hf
  split at hf
  · rename_i n dp d sp s0 T
    split at hf
    · rename_i q hlook
      split at hf
      · rename_i t0 l0 hg0
        split at hf
        · rename_i t1 l1 hg1
          split at hf
          · rename_i hchk
            cases hf
            simp only [Bool.and_eq_true, Bool.not_eq_true', decide_eq_false_iff_not] at hchk
            obtain ⟨⟨⟨⟨⟨⟨⟨⟨⟨k1, k2⟩, k3⟩, k4⟩, k5⟩, k6⟩, k7⟩, k8⟩, k9⟩, k10⟩ := hchk
            cases (Nat.eq_of_beq_eq_true k1 : t0 = 0)
            cases (Nat.eq_of_beq_eq_true k2 : t1 = 0)
            have k4 := Nat.le_of_ble_eq_true k4
            have k8 := Nat.le_of_ble_eq_true k8
            have k9 := Nat.le_of_ble_eq_true k9
            obtain ⟨b0, e0⟩ := am_get_ok hg0
            obtain ⟨b1, e1'⟩ := am_get_ok hg1
            obtain ⟨-, c0⟩ := hR.2 s0 _ e0
            obtain ⟨-, c1⟩ := hR.2 d _ e1'
            obtain ⟨-, kk0, hk0, cm0, hkk0⟩ := am_arr G (tk := 0) (by omega) l0.length (fun j => am_tv E (l0.getD j .null))
            obtain ⟨-, kk1, hk1, cm1, hkk1⟩ := am_arr G (tk := 0) (by omega) l1.length (fun j => am_tv E (l1.getD j .null))
            rw [List.map_cons, List.map_cons, List.map_cons, List.map_cons, List.map_cons, am_ref G b0, am_ref G b1]
            intro TT hT X
            have hsum : ((T.map (am_tv E)).map fun v => v.category).sum ≤ 8 := by
              rw [show ((T.map (am_tv E)).map fun v => v.category).sum = am_sum T from am_sum_tv E T]; exact k4
            have hnf : nativeFrameWords "java/lang/System" "arraycopy" 5 + 11 ≤ 60 := by decide +kernel
            obtain ⟨vm', X', step⟩ := X.arraycopy hx hown (G.1 _ (am_acT_ok _ (am_look2_mem hlook)) _) (G.1 _ am_aN _) (G.1 _ am_aS _) (G.1 _ am_aI _) (src := B + s0) (dst := B + d) (cs := arrV (dA 0) l0.length (fun j => am_tv E (l0.getD j .null))) (cd := arrV (dA 0) l1.length (fun j => am_tv E (l1.getD j .null))) (srcPos := sp) (destPos := dp) (n := n) (by rw [hT]; exact c0) (by rw [hT]; exact c1)
              (fun _ h => by cases h) (fun _ h => by cases h) (fun h => by cases h) (fun h => by cases h) hk0 hk1 hkk0 hkk1 rfl k6 k7 k5
              (by rw [nn sp k6, nn n k5, arrV_size]; omega)
              (by rw [nn dp k7, nn n k5, arrV_size]; omega)
              (fun vm₁ _ i hi => by
                have e : (arrV (dA 0) l0.length (fun j => am_tv E (l0.getD j .null))).slots.getD (sp.toNatClampNeg + i) .null = am_tv E (l0.getD (sp.toNatClampNeg + i) .null) := by
                  rw [Array.getD_eq_getD_getElem?, arrV_read _ _ (by omega)]
                  rfl
                have e2 : am_isI (l0.getD (sp.toNatClampNeg + i) .null) = true := by
                  refine List.all_eq_true.mp k10 _ ?_
                  have hlt : sp.toNatClampNeg + i < l0.length := by omega
                  rw [List.getD_eq_getElem?_getD, List.getElem?_eq_getElem hlt]
                  refine List.mem_iff_getElem?.mpr ⟨i, ?_⟩
                  rw [List.getElem?_take_of_lt hi, List.getElem?_drop, List.getElem?_eq_getElem hlt]
                  rfl
                obtain ⟨x, hx9⟩ := am_tvI (E := E) e2
                rw [e, hx9]
                exact ⟨rfl, trivial⟩)
              (g := F0 m pc ls (.int n :: .int dp :: .ref (B + d) :: .int sp :: .ref (B + s0) :: T.map (am_tv E))) rfl (by rw [hml]; exact hl.1) (rest := T.map (am_tv E)) rfl (by rw [hb]; exact hd) hfr (by show 2 * 0 + _ + _ ≤ _; omega)
            have e1 : copied (arrV (dA 0) l0.length (fun j => am_tv E (l0.getD j .null))) (arrV (dA 0) l1.length (fun j => am_tv E (l1.getD j .null))) sp dp n = arrV (dA 0) (am_cpy l0 l1 sp.toNatClampNeg dp.toNatClampNeg n.toNatClampNeg).length (fun j => am_tv E ((am_cpy l0 l1 sp.toNatClampNeg dp.toNatClampNeg n.toNatClampNeg).getD j .null)) := by
              rw [am_cpy_len k8 k9, show (fun j => am_tv E ((am_cpy l0 l1 sp.toNatClampNeg dp.toNatClampNeg n.toNatClampNeg).getD j .null)) = (fun j => am_tv E (va_cpy (fun j => l0.getD j .null) (fun j => l1.getD j .null) sp.toNatClampNeg dp.toNatClampNeg n.toNatClampNeg j)) from funext fun j => by rw [am_cpy_get k8 k9 j]]
              exact va_copied (am_tv E) (dA 0) (dA 0) (fun j => l0.getD j .null) (fun j => l1.getD j .null) k8
            rw [e1] at X' step
            generalize am_cpy l0 l1 sp.toNatClampNeg dp.toNatClampNeg n.toNatClampNeg = ln at X' step k
            have hl9 : B + d < H.size := (Array.getElem?_eq_some_iff.mp c1).1
            have hheap : ((TT.setVm vm').setCell (B + d) (arrV (dA 0) ln.length (fun j => am_tv E (ln.getD j .null)))).heap = H.setIfInBounds (B + d) (arrV (dA 0) ln.length (fun j => am_tv E (ln.getD j .null))) := by rw [← hT]; rfl
            have oq : ∀ q : Nat, q ≠ B + d → (H.setIfInBounds (B + d) (arrV (dA 0) ln.length (fun j => am_tv E (ln.getD j .null))))[q]? = H[q]? := fun q hq => by simp [Array.getElem?_setIfInBounds, Ne.symm hq]
            obtain ⟨t, a1, b1⟩ := k _ _ (hR.set (c' := (true, 0, ln)) e1' (by simp) oq ⟨by omega, by simp [Array.getElem?_setIfInBounds, hl9]⟩) ⟨by simp; exact hS.1, fun q g1 g2 => by
                rw [oq q (fun e => g2 (by rw [e]; exact Nat.le_add_right _ _))]
                exact hS.2.1 q g1 g2, fun q hq => by
                rcases List.mem_append.mp hq with h | h
                · exact hS.2.2 q h
                · obtain ⟨z, -, hz⟩ := List.mem_map.mp h
                  rw [← hz]
                  exact Nat.le_add_right _ _⟩ _ hheap X'
            exact ⟨t, step t a1, b1⟩
          · cases hf
        · cases hf
      · cases hf
    · cases hf
  · cases hf
theorem am_ldcs_ok (Cx : am_Cx r B D dA E xs b p l s m meth c) {idx : Nat} {v : Value} (hf : am_ldcs r.2.2.2.2.1 idx = some v) (hd : decode r.2.1 pc = .ok (.ldc idx, 2))
    (k : W p l e R s m args below meth c H locs cells slots Q (F0 m (pc + 2) ls (am_tv E v :: S.map (am_tv E)))) : W p l e R s m args below meth c H locs cells slots Q (F0 m pc ls (S.map (am_tv E))) := by
  obtain ⟨hx, hb, hml, hr, hlk, htb, hown, hnm, hst, hI, G, hB⟩ := Cx
  obtain ⟨z1, z2, z3⟩ := G.2.2.2.2.2.2.2.2.2.2.1
  unfold am_ldcs at hf
  split at hf
  · rename_i i hlook
    cases hf
    have h9 : vk_R (am_R r.2.2.2.2.1) idx (am_sx i) (E.1 (1000000 + i)) s := z2 (r.2.2.2.2.1, idx, i) (am_look2_mem hlook)
    exact va_ldcS (tx := am_sx i) (q := E.1 (1000000 + i)) hx hb hown h9 hd k
  · cases hf
theorem am_invk_none {kind idx : Nat} {t : aN ⊕ aR} (hf : am_invk (fun _ _ _ => none) r kind idx pc L S h = some t) : False := by
  unfold am_invk at hf
  split at hf
  · cases hf
  · split at hf
    · cases hf
    · split at hf
      · cases hf
      · split at hf
        · cases hf
        · cases hf
theorem am_ct {d : Nat} {a : aM} {As : List Value} {u : aR} (hM : am_okM a) (hI : am_okI a) (hl : l.stackTraces = false) (hB : ∀ U : State, am_Rel B D dA E h U.heap → B ≤ U.heap.size) (hsum : am_sum As ≤ a.2.2.1)
    (ih : ∀ {p : Program} {e : Env} {R : Room} {s : State} {m : MethodId} {args : Array Value} {below : List Frame} {meth : Method} {c : Code} {H : Heap} {locs : List Loc} {cells slots : Nat} {Q : State → Prop} {ls : Array Slot}, am_Cx a B D dA E xs b p l s m meth c → am_Rel B D dA E h H → va_S (am_A B) s.heap H locs → lv_has ls a.2.2.1 (am_lm E (lv_args 0 As)) →
      d + 8 ≤ R.frames → 60 * d + 200 ≤ R.locals → cells + u.2.2.1 ≤ R.cells → slots + u.2.2.2 ≤ R.slots → am_End below s B (am_Oc B D dA E s.heap u.1 u.2.1) (cells + u.2.2.1) (slots + u.2.2.2) Q → W p l e R s m args below meth c H locs cells slots Q (F0 m 0 ls [])) :
    am_Ct l B D dA E xs b d a As h u := by
  intro H hR
  refine am_ofW hM.1 ?_
  intro p e s m args below meth c hx hb hml hr hlk htb hme hnm hP
  obtain ⟨rfl, G, rfl⟩ := hP
  have hown : s.vm.findClass (am_R a.2.2.2.2.1) = some m.cls := by rw [hM.2.2.2.1]; exact findClass_of_methodNamed hnm
  have hl9 := lv_entry (As.map (am_tv E)) (n := a.2.2.1) (by rw [am_sl_len, am_sum_tv]; exact hsum)
  rw [am_args_tv] at hl9
  rw [lg_entry_eq]
  refine ih ⟨hx, hb, hml, hr, hlk, htb, hown, (name_of_methodNamed hnm hme).1, hl, hI, G, hB s hR⟩ hR va_S.rf hl9 (Nat.le_refl _) (Nat.le_refl _) (by rw [Nat.zero_add]; exact Nat.le_refl _) (by rw [Nat.zero_add]; exact Nat.le_refl _) ?_
  intro t o L2 h1 h2 h3 h4 h5 h6 h7
  rw [Nat.zero_add, Nat.zero_add] at h6
  exact ⟨o, h1, h2, h3, h4, h5, L2, h6, h7⟩
theorem am_sound (hl0 : l.stackTraces = false) : ∀ (n d : Nat) (r : aM) (pc : Nat) (L : aL) (S : List Value) (h : aH) (u : aR), am_run xs n d r pc L S h = some u →
    ∀ {p : Program} {e : Env} {R : Room} {s : State} {m : MethodId} {args : Array Value} {below : List Frame} {meth : Method} {c : Code} {H : Heap} {locs : List Loc} {cells slots : Nat} {Q : State → Prop} {ls : Array Slot}, am_Cx r B D dA E xs b p l s m meth c → am_Rel B D dA E h H → va_S (am_A B) s.heap H locs → lv_has ls r.2.2.1 (am_lm E L) →
      d + 8 ≤ R.frames → 60 * d + 200 ≤ R.locals → cells + u.2.2.1 ≤ R.cells → slots + u.2.2.2 ≤ R.slots → am_End below s B (am_Oc B D dA E s.heap u.1 u.2.1) (cells + u.2.2.1) (slots + u.2.2.2) Q → W p l e R s m args below meth c H locs cells slots Q (F0 m pc ls (S.map (am_tv E))) := by
  intro n
  induction n with
  | zero => intro d r pc L S h u hf; cases hf
  | succ n ih =>
    intro d r pc L S h u hf p e R s m args below meth c H locs cells slots Q ls Cx hR hS hl hfr hlo hc hs hend
    rw [am_run_succ] at hf
    unfold am_body at hf
    split at hf
    · cases hf
    · rename_i q hlook
      have hd : decode r.2.1 pc = .ok (q.1, q.2) := Cx.2.2.2.2.2.2.2.2.2.1 (pc, q) (am_look_mem hlook)
      obtain ⟨i, len⟩ := q
      dsimp only at hf hd
      split at hf
      · cases hf
      · rename_i t hst
        -- where it goes on, or ends
        have hkj : cells + (am_kj t).1 ≤ R.cells ∧ slots + (am_kj t).2 ≤ R.slots ∧
            (∀ n : aN, t = .inl n → ∀ (H1 : Heap) (locs1 : List Loc) (ls1 : Array Slot), am_Rel B D dA E n.2.2.2.1 H1 → va_S (am_A B) s.heap H1 locs1 → lv_has ls1 r.2.2.1 (am_lm E n.2.1) → W p l e R s m args below meth c H1 locs1 (cells + n.2.2.2.2.1) (slots + n.2.2.2.2.2) Q (F0 m n.1 ls1 (n.2.2.1.map (am_tv E)))) ∧
            (∀ u : aR, t = .inr u → am_End below s B (am_Oc B D dA E s.heap u.1 u.2.1) (cells + u.2.2.1) (slots + u.2.2.2) Q) := by
          cases t with
          | inr t =>
            cases hf
            exact ⟨hc, hs, fun n h9 => by (cases h9), fun u h9 => by cases h9; exact hend⟩
          | inl t =>
            unfold am_then at hf
            dsimp only at hf
            split at hf
            · cases hf
            · rename_i u2 hrun
              cases hf
              dsimp only at hc hs hend
              refine ⟨by show cells + t.2.2.2.2.1 ≤ _; omega, by show slots + t.2.2.2.2.2 ≤ _; omega, fun n h9 H1 locs1 ls1 hR1 hS1 hl1 => ?_, fun u h9 => by cases h9⟩
              cases h9
              exact ih d r _ _ _ _ _ hrun Cx hR1 hS1 hl1 hfr hlo (by omega) (by omega) (by rw [Nat.add_assoc, Nat.add_assoc]; exact hend)
        obtain ⟨hc', hs', kn, ke⟩ := hkj
        clear hf hend hc hs
        unfold am_step at hst
        split at hst
        · rename_i nn hsim
          cases hst
          exact am_sim_ok Cx hR hS hl hsim hd hc' hs' (kn nn rfl)
        · split at hst
          · cases hst
          · rename_i hbeq
            cases (Nat.eq_of_beq_eq_true hbeq : len = am_ilen i)
            split at hst
            · obtain ⟨v, h1, rfl⟩ := Option.map_eq_some_iff.mp hst
              exact am_ri_ok Cx hR hS h1 hd (ke _ rfl)
            · obtain ⟨v, h1, rfl⟩ := Option.map_eq_some_iff.mp hst
              exact am_ra_ok Cx hR hS h1 hd (ke _ rfl)
            · split at hst
              · rename_i h1
                cases hst
                exact am_rv_ok Cx hR hS h1 hd (ke _ rfl)
              · cases hst
            · split at hst
              · rename_i x h1
                split at hst
                · rename_i h2
                  cases hst
                  exact am_thr_ok Cx hR hS hl h1 (Nat.le_of_ble_eq_true h2) hd (by omega) (by omega) hc' hs' (ke _ rfl)
                · cases hst
              · cases hst
            · obtain ⟨v, h1, rfl⟩ := Option.map_eq_some_iff.mp hst
              exact am_ldcs_ok Cx h1 hd (kn _ rfl H locs ls hR hS hl)
            · split at hst
              · rename_i q9 h1
                cases hst
                exact am_acp_ok Cx hR hS hl h1 hd (by omega) (by omega) (fun H1 locs1 hR1 hS1 => kn _ rfl H1 locs1 ls hR1 hS1 hl)
              cases d with
              | zero => exact (am_invk_none hst).elim
              | succ d => exact am_invk_ok (kind := 0) Cx hR hS hl (by omega) hst (fun a As u2 hu hM hI hsum => am_ct hM hI hl0 (fun U h9 => by rw [h9.1]; exact Nat.le_add_right _ _) hsum (fun C1 R1 S1 L1 => ih d a 0 _ [] h u2 hu C1 R1 S1 L1)) hfr hlo hd hc' hs' kn ke
            · split at hst
              · rename_i S' h1
                cases hst
                exact am_slen_ok Cx hR hS hl h1 hd (by omega) (by omega) hc' hs' (fun H1 locs1 hR1 hS1 => kn _ rfl H1 locs1 ls hR1 hS1 hl)
              · split at hst
                · rename_i S' h1
                  cases hst
                  exact am_schr_ok Cx hR hS hl h1 hd (by omega) (by omega) hc' hs' (fun H1 locs1 hR1 hS1 => kn _ rfl H1 locs1 ls hR1 hS1 hl)
                cases d with
                | zero => exact (am_invk_none hst).elim
                | succ d => exact am_invk_ok (kind := 1) Cx hR hS hl (by omega) hst (fun a As u2 hu hM hI hsum => am_ct hM hI hl0 (fun U h9 => by rw [h9.1]; exact Nat.le_add_right _ _) hsum (fun C1 R1 S1 L1 => ih d a 0 _ [] h u2 hu C1 R1 S1 L1)) hfr hlo hd hc' hs' kn ke
            · split at hst
              · rename_i S' h1
                cases hst
                exact am_obj_ok Cx hl h1 hd (by omega) (by omega) (kn _ rfl H locs ls hR hS hl)
              · cases d with
                | zero => exact (am_invk_none hst).elim
                | succ d => exact am_invk_ok (kind := 2) Cx hR hS hl (by omega) hst (fun a As u2 hu hM hI hsum => am_ct hM hI hl0 (fun U h9 => by rw [h9.1]; exact Nat.le_add_right _ _) hsum (fun C1 R1 S1 L1 => ih d a 0 _ [] h u2 hu C1 R1 S1 L1)) hfr hlo hd hc' hs' kn ke
            · cases hst
end AmMain
