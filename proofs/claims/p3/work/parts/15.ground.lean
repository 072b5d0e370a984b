/-! THE GROUND MOVES; String.length of a constant; how a method ends -/
theorem am_G.moved {B : Nat} {D : va_G} {dA : Nat → ClassId} {E : aE} {xs : aX} {b : Nat} {u U : State} (G : am_G B D dA E xs b u) (hW : u.WarmedH U.vm) (hh : ∀ q : Nat, q < u.heap.size → ¬ am_A B q → U.heap[q]? = u.heap[q]?) : am_G B D dA E xs b U := by
  obtain ⟨g1, g2, g3, g4, g5, ⟨xr, g6, g7⟩, g8, g9, g10, g11, ⟨g12, g13, adV, g14⟩, g15, g16⟩ := G
  have hA := hW.alike
  refine ⟨fun w hw a => am_warm hw.2 (args := #[]) hW (g1 w hw #[]), g2.moved hA, g3.moved hA, (g4.kept hh).moved hA, (g5.kept hh).moved hA, ⟨xr, ?_, g7⟩, g8, g9, g10, fun x y h1 h2 h3 => (g11 x y h1 h2 h3).moved hA, ⟨(g12.kept hh).moved hA, fun r hr => (g13 r hr).warm hW, adV, fun i hi => ?_⟩, g15, (g16.kept hh).moved hA⟩
  · refine va_X.moved hA (g6.kept (hh b ?_ (Nat.not_le.mpr g8)))
    obtain ⟨scr, h1, -⟩ := g6
    exact (Array.getElem?_eq_some_iff.mp h1).1
  · obtain ⟨k1, k2, k3, k4⟩ := g14 i hi
    exact ⟨(k1.kept hh).moved hA, (k2.kept hh).moved hA, (k3.kept hh).moved hA, (k4.kept hh).moved hA⟩
theorem am_calling {B : Nat} {D : va_G} {dA : Nat → ClassId} {E : aE} {xs : aX} {b : Nat} {s U : State} {H : Heap} {locs : List Loc} (G : am_G B D dA E xs b s) (hS : va_S (am_A B) s.heap H locs) (hU : U.heap = H) (hW : s.WarmedH U.vm) (g : JFrame) (mk : MethodId) (a : Array Value) : am_G B D dA E xs b (U.calling g mk a) :=
  G.moved hW (fun q h1 h2 => by
    show U.heap[q]? = _
    rw [hU]; exact hS.2.1 q h1 h2)
section AmEnds
variable {p : Program} {l : Launch} {e : Env} {R : Room} {s : State} {m : MethodId} {args : Array Value} {below : List Frame} {meth : Method} {c : Code} {H : Heap} {locs : List Loc} {cells slots : Nat} {Q : State → Prop}
variable {B : Nat} {D : va_G} {dA : Nat → ClassId} {E : aE} {xs : aX} {b : Nat} {pc : Nat} {ls : Array Slot} {L : aL} {S : List Value} {h : aH}
theorem am_ofMQ {Q0 : Array Value → State → Outcome → State → Prop} {Qc : Outcome → State → Prop} {mc ms : Nat} (hq : ∀ o t, Q0 args s o t → Qc o t) {t : State} (ht : MQ below Q0 args s mc ms (am_A B) t) : am_MQ below Qc mc ms B args s t := by
  obtain ⟨o, h1, h2, h3, L, ⟨⟨v, rfl⟩, h5, h6⟩, h7⟩ := ht
  exact ⟨_, h1, h2, hq _ _ h3, Or.inl ⟨v, rfl⟩, h5, L, h6, h7⟩
set_option maxRecDepth 100000 in
set_option maxHeartbeats 4000000 in
theorem am_coder (i : Nat) (hi : i < am_sn) (H0 : Heap) : am_Met l yJ0_coder_7d493 (am_cw yJ0_coder_7d493 cJ0_coder_7d493 1 (some .byte) []) { frames := 0, cells := 0, slots := 0, locals := 0 } (fun a U => a = ([Value.ref (E.1 (1000000 + i))] : List Value).toArray ∧ am_G B D dA E xs b U ∧ U.heap = H0) (fun o t => o = .returned (some (.int 0)) ∧ t.heap = H0) B := by
  refine am_ofW (by decide +kernel) ?_
  intro p e s m args below meth c hx hb hml hr hlk htb hme hnm hP
  obtain ⟨rfl, G, hH⟩ := hP
  have hown : s.vm.findClass RJ0 = some m.cls := findClass_of_methodNamed hnm
  have hl := lv_entry ([.ref (E.1 (1000000 + i))]) (n := 1) (Nat.le_of_ble_eq_true rfl)
  rw [lg_entry_eq]
  generalize (lg_sl ([.ref (E.1 (1000000 + i))]) ++ List.replicate (1 - (lg_sl ([.ref (E.1 (1000000 + i))])).length) Slot.unset).toArray = ls at hl ⊢
  have hl : lv_has ls 1 [(0, .ref (E.1 (1000000 + i)))] := hl
  have hS : va_S (am_A B) s.heap s.heap [] := va_S.rf
  obtain ⟨z1, -, adV, z3⟩ := G.2.2.2.2.2.2.2.2.2.2.1
  refine va_gets hx hb z1 hS hown (G.1 _ am_s8 _) (fun x h => h) dJ0_coder_7d493_0 ?_
  refine lv_if_eq (tgt := 13) hx hb dJ0_coder_7d493_3 (by decide) (fun h9 => absurd h9 (by decide)) (fun _ => ?_)
  refine lv_aload_n hx hb dJ0_coder_7d493_6 rfl (lv_at hl 0 rfl) ?_
  refine vk_getf hx hb (z3 i hi).2.1 hS hown (G.1 _ am_s9 _) (fun x h => h) dJ0_coder_7d493_7 ?_
  refine lv_goto (tgt := 14) hx hb dJ0_coder_7d493_10 (by decide) ?_
  exact am_mono (W.zret (Qc := fun _ _ o t => o = .returned (some (.int 0)) ∧ t.heap = H0) hx hb hr rfl (fun t ht _ => ⟨rfl, ht.trans hH⟩) (fun q hq => nomatch hq) dJ0_coder_7d493_14 hlk) (fun t ht => am_ofMQ (fun o t h => h) ht)
set_option maxRecDepth 100000 in
set_option maxHeartbeats 4000000 in
theorem am_length (i : Nat) (hi : i < am_sn) (H0 : Heap) : am_Met l yJ0_length_8abf5 (am_cw yJ0_length_8abf5 cJ0_length_8abf5 1 (some .int) []) { frames := 1, cells := 0, slots := 0, locals := 20 } (fun a U => a = ([Value.ref (E.1 (1000000 + i))] : List Value).toArray ∧ am_G B D dA E xs b U ∧ U.heap = H0) (fun o t => o = .returned (some (.int (Int32.ofNat (am_sl i)))) ∧ t.heap = H0) B := by
  refine am_ofW (by decide +kernel) ?_
  intro p e s m args below meth c hx hb hml hr hlk htb hme hnm hP
  obtain ⟨rfl, G, hH⟩ := hP
  have hown : s.vm.findClass RJ0 = some m.cls := findClass_of_methodNamed hnm
  have hl := lv_entry ([.ref (E.1 (1000000 + i))]) (n := 1) (Nat.le_of_ble_eq_true rfl)
  rw [lg_entry_eq]
  generalize (lg_sl ([.ref (E.1 (1000000 + i))]) ++ List.replicate (1 - (lg_sl ([.ref (E.1 (1000000 + i))])).length) Slot.unset).toArray = ls at hl ⊢
  have hl : lv_has ls 1 [(0, .ref (E.1 (1000000 + i)))] := hl
  have hS : va_S (am_A B) s.heap s.heap [] := va_S.rf
  obtain ⟨z1, -, adV, z3⟩ := id G.2.2.2.2.2.2.2.2.2.2.1
  refine lv_aload_n hx hb dJ0_length_8abf5_0 rfl (lv_at hl 0 rfl) ?_
  refine vk_getf hx hb (z3 i hi).2.2.1 hS hown (G.1 _ am_s4 _) (fun x h => h) dJ0_length_8abf5_1 ?_
  refine va_tlen hx hb (z3 i hi).2.2.2 hS rfl dJ0_length_8abf5_4 ?_
  refine lv_aload_n hx hb dJ0_length_8abf5_5 rfl (lv_at hl 0 rfl) ?_
  obtain ⟨cellB, c1, c2, c3, -⟩ := (z3 i hi).1
  refine am_call (ig := .invokevirtual 335) (rest := [.int (Int32.ofNat (am_sl i))]) (fun T hT X => am_invV (cc := cJ0_coder_7d493) (maxL := 1) (ret := some .byte) (hh := []) X hx hown (Or.inl (G.1 _ am_s5 _)) (G.1 _ am_s6 _) (G.1 _ am_s7 _) (G.1 _ am_s11 _) (by decide +kernel) (by rw [hT]; exact c1) c2 c3 rfl (argsL := []) (fun sig h => by
      have h9 : parseMethodDescriptor yJ0_coder_7d493.desc = some ⟨[], some .byte⟩ := by decide +kernel
      rw [h9] at h; cases h; rfl) rfl (by rw [hb]; exact dJ0_length_8abf5_6))
    (am_coder (E := E) (B := B) (D := D) (dA := dA) (xs := xs) (b := b) i hi H0) (Nat.le_refl _) (by decide) rfl (by rw [hml]; exact hl.1) (by rw [hb]; exact dJ0_length_8abf5_6) (lv_room (Nat.le_of_ble_eq_true rfl))
    (fun U hW => am_warm (args := #[]) am_s11.2 hW (G.1 _ am_s11 _)) (fun U hW => am_warm (args := #[]) am_s3.2 hW (G.1 _ am_s3 _)) (Nat.le_refl _) (Nat.le_refl _)
    (fun U g' mk hU hW => ⟨rfl, am_calling G hS hU hW g' mk _, hU.trans hH⟩) (fun v t L hq hL => ?_) (fun q t L hq hL => by cases hq.1)
  cases hq.1
  refine lv_ishr hx hb dJ0_length_8abf5_9 ?_
  rw [show Int32.ofNat (am_sl i) >>> ((0 : Int32) &&& 31) = Int32.ofNat (am_sl i) from sb_shr0 _]
  exact am_mono (W.iret (Qc := fun _ _ o t => o = .returned (some (.int (Int32.ofNat (am_sl i)))) ∧ t.heap = H0) hx hb hr (fun t' ht _ => ⟨rfl, ht.trans hq.2⟩) (fun q hq9 => hL q (by simpa using hq9)) dJ0_length_8abf5_10 hlk) (fun t ht => am_ofMQ (fun o t h => h) ht)
end AmEnds
