/-! CALLS, AND THE INDUCTION -/
section AmMain
variable {p : Program} {l : Launch} {e : Env} {R : Room} {s : State} {m : MethodId} {args : Array Value} {below : List Frame} {meth : Method} {c : Code} {H : Heap} {locs : List Loc} {cells slots : Nat} {Q : State → Prop}
variable {r : aM} {B : Nat} {D : va_G} {dA : Nat → ClassId} {E : aE} {xs : aX} {b : Nat} {pc : Nat} {ls : Array Slot} {L : aL} {S : List Value} {h : aH}
def am_Pc (B : Nat) (D : va_G) (dA : Nat → ClassId) (E : aE) (xs : aX) (b : Nat) (As : List Value) (H : Heap) : Array Value → State → Prop := fun a U => a = (As.map (am_tv E)).toArray ∧ am_G B D dA E xs b U ∧ U.heap = H
/-- the contract of a method out of a run -/
def am_Ct (l : Launch) (B : Nat) (D : va_G) (dA : Nat → ClassId) (E : aE) (xs : aX) (b d : Nat) (a : aM) (As : List Value) (h : aH) (u : aR) : Prop := ∀ H : Heap, am_Rel B D dA E h H →
  am_Met l a.1 (am_cw a.1 a.2.1 a.2.2.1 a.2.2.2.1 a.2.2.2.2.2.1) (am_rm d u.2.2.1 u.2.2.2) (am_Pc B D dA E xs b As H) (am_Oc B D dA E H u.1 u.2.1) B
theorem am_next (hS : va_S (am_A B) s.heap H locs) {H1 : Heap} {L1 : List Loc} (hz : H.size ≤ H1.size) (ho : ∀ q : Nat, q < B → H1[q]? = H[q]?) (hL : ∀ z ∈ L1, B ≤ z.base) : va_S (am_A B) s.heap H1 (locs ++ L1) := by
  refine ⟨Nat.le_trans hS.1 hz, fun q h1 h2 => (ho q (Nat.not_le.mp h2)).trans (hS.2.1 q h1 h2), fun z hz => ?_⟩
  rcases List.mem_append.mp hz with h9 | h9
  · exact hS.2.2 z h9
  · exact hL z h9
theorem am_beh2_ok (Cx : am_Cx r B D dA E xs b p l s m meth c) (hS : va_S (am_A B) s.heap H locs) (hl : lv_has ls r.2.2.1 (am_lm E L)) {rest : List Value} {u : aR} {t : aN ⊕ aR} (hf : am_beh2 r pc L rest u = some t) {y : MethodName} {cc : ByteArray} {maxL : Nat} {ret : Option FieldType} {hh : List (Nat × Nat × Nat × Nat)} {d : Nat} {Pc : Array Value → State → Prop} {a : Array Value} {ig : Instr} {st : List Value}
    (inv : ∀ T : State, T.heap = H → Stand p l e R s m args below meth c T locs cells slots → am_inv p l e R s m args below meth c T locs cells slots (F0 m pc ls st) (rest.map (am_tv E)) y a)
    (hM : am_Met l y (am_cw y cc maxL ret hh) (am_rm d u.2.2.1 u.2.2.2) Pc (am_Oc B D dA E H u.1 u.2.1) B) (hfr : d + 1 + 8 ≤ R.frames) (hlo : 60 * (d + 1) + 200 ≤ R.locals) (hmx : maxL ≤ 30)
    (hd : decode r.2.1 pc = .ok (ig, 3)) (hsum : am_sum rest ≤ 8)
    (hcw : am_in (am_cw y cc maxL ret hh)) (hini : am_in (.initialized y.cls))
    (h4 : cells + (am_kj t).1 ≤ R.cells) (h5 : slots + (am_kj t).2 ≤ R.slots) (hPc : ∀ (U : State) (g' : JFrame) (mk : MethodId), U.heap = H → s.WarmedH U.vm → Pc a (U.calling g' mk a))
    (kn : ∀ n : aN, t = .inl n → ∀ (H1 : Heap) (locs1 : List Loc) (ls1 : Array Slot), am_Rel B D dA E n.2.2.2.1 H1 → va_S (am_A B) s.heap H1 locs1 → lv_has ls1 r.2.2.1 (am_lm E n.2.1) → W p l e R s m args below meth c H1 locs1 (cells + n.2.2.2.2.1) (slots + n.2.2.2.2.2) Q (F0 m n.1 ls1 (n.2.2.1.map (am_tv E))))
    (ke : ∀ u : aR, t = .inr u → am_End below s B (am_Oc B D dA E s.heap u.1 u.2.1) (cells + u.2.2.1) (slots + u.2.2.2) Q) :
    W p l e R s m args below meth c H locs cells slots Q (F0 m pc ls st) := by
  obtain ⟨hx, hb, hml, hr, hlk, htb, hown, hnm, hst, hI, G, hB⟩ := Cx
  have hkj : (am_kj t).1 = u.2.2.1 ∧ (am_kj t).2 = u.2.2.2 := by
    obtain ⟨o, h', k, j⟩ := u
    unfold am_beh2 at hf
    split at hf
    · rename_i heq; cases heq; cases hf; exact ⟨rfl, rfl⟩
    · rename_i heq
      cases heq
      split at hf
      · cases hf
      · cases hf; exact ⟨rfl, rfl⟩
      · split at hf
        · cases hf; exact ⟨rfl, rfl⟩
        · cases hf
  rw [hkj.1] at h4
  rw [hkj.2] at h5
  refine am_callW (B := B) (ig := ig) inv hM (by show d + 8 + 1 ≤ _; omega) (by show 8 + (maxL + 11) + (60 * d + 200) ≤ _; omega) rfl (by rw [hml]; exact hl.1) (by rw [hb]; exact hd)
    (lv_room (by rw [show ((rest.map (am_tv E)).map fun v => v.category).sum = am_sum rest from am_sum_tv E rest]; exact hsum))
    (fun U hW => am_warm (args := #[]) hcw.2 hW (G.1 _ hcw _)) (fun U hW => am_warm (args := #[]) hini.2 hW (G.1 _ hini _)) h4 h5 hPc ?_ ?_
  · intro v t2 L2 hq hW2 hL2
    obtain ⟨q1, q2, q3, q4⟩ := hq
    obtain ⟨o, h', k, j⟩ := u
    unfold am_beh2 at hf
    split at hf
    · rename_i v' _ _ _ heq
      cases heq
      cases hf
      cases q4
      have h9 := kn _ rfl t2.heap (locs ++ L2) ls q1 (am_next hS q2 q3 hL2) hl
      rw [show (v'.toList ++ rest).map (am_tv E) = (v'.map (am_tv E)).toList ++ rest.map (am_tv E) by rw [List.map_append]; cases v' <;> rfl] at h9
      exact h9
    · rename_i heq
      cases heq
      cases q4.1
  · intro q t2 L2 hq hW2 hL2
    obtain ⟨q1, q2, q3, q4⟩ := hq
    obtain ⟨o, h', k, j⟩ := u
    unfold am_beh2 at hf
    split at hf
    · rename_i heq
      cases heq
      cases q4
    · rename_i x _ _ _ heq
      cases heq
      obtain ⟨q5, ce, q6, q7, q8⟩ := q4
      cases q5
      split at hf
      · cases hf
      · rename_i hhand
        cases hf
        refine am_out (rest := rest.map (am_tv E)) (fun y hy => am_hand_none hhand y (by rw [← htb]; exact hy)) hlk ?_
        intro t3 t31 t32 t33 t34 t35
        refine ke _ rfl t3 _ (locs ++ L2) t31 t32 ⟨by rw [t33]; exact q1, by rw [t33]; exact Nat.le_trans hS.1 q2, fun z hz => ?_, rfl, ce, by rw [t33]; exact q6, q7, ?_⟩ (Or.inr ⟨_, rfl⟩) t34 t35 (am_next hS q2 q3 hL2).2.2
        · rw [t33, q3 z hz]
          exact hS.2.1 z (Nat.lt_of_lt_of_le hz hB) (Nat.not_le.mpr hz)
        · rw [t34.alike.findClass, ← hW2.alike.findClass]; exact q8
      · rename_i hp hhand
        split at hf
        · rename_i hlt
          cases hf
          obtain ⟨pre, z, suf, p1, p2, p3, p4, p5, p6⟩ := am_hand_some hhand
          subst p6
          have h9 := kn _ rfl t2.heap (locs ++ L2) ls q1 (am_next hS q2 q3 hL2) hl
          rw [List.map_cons, List.map_nil, am_ref G (by simpa using hlt)] at h9
          exact am_catch (own := am_R r.2.2.2.2.1) (E := am_xn x) (rest := rest.map (am_tv E)) hown pre z suf (htb.trans p1) (fun y hy => by
            rcases p2 y hy with h8 | ⟨h8, yn, h7, h6, h5, h3⟩
            · exact Or.inl h8
            · exact Or.inr ⟨h8, _, G.1 _ h7 _, G.2.2.2.2.2.2.2.2.2.1 x yn h6 h5 h3⟩) p3 p4 (G.1 _ p5 _) (G.1 _ (am_cst x) _) q6 q7 (by rw [← hW2.alike.findClass]; exact q8) h9
        · cases hf
end AmMain
