/-! THE LAW AT SCRIPTS OF AT MOST FOUR INTS; THE CLAIM -/
def am_el (xr : Nat → Int32) : Nat → Int64 := fun k => match k with
  | 0 => ((xr 1).toInt64 <<< ((32 : Int32).toInt64 &&& 63)) ||| ((xr 2).toInt64 &&& 4294967295)
  | 1 => (xr 1).toInt64
  | 2 => (xr 1).toInt64 <<< ((32 : Int32).toInt64 &&& 63)
  | 3 => (xr 2).toInt64
  | 4 => (xr 2).toInt64 &&& 4294967295
  | k => if k < 20 then (((xr 1).toInt64 <<< ((32 : Int32).toInt64 &&& 63)) ||| ((xr 2).toInt64 &&& 4294967295)) >>> ((Int32.ofNat (8 * (k - 10))).toInt64 &&& 63)
    else ((((xr 1).toInt64 <<< ((32 : Int32).toInt64 &&& 63)) ||| ((xr 2).toInt64 &&& 4294967295)) >>> ((Int32.ofNat (8 * (k - 20))).toInt64 &&& 63)) &&& 255
def am_ev (xr : Nat → Int32) : Nat → Int32 := fun k => if k < 10 then xr k else if k < 20 then (am_el xr k).toInt32 else if k < 30 then (am_el xr (k - 10)).toInt32 &&& 255 else (am_el xr (k - 10)).toInt32
def am_ad (B b : Nat) (adK : Nat → Nat) : Nat → Nat := fun k => if k < 1000000 then B + k else if k = 2000000 then b else adK (k - 1000000)
theorem am_ad0 {B b : Nat} {adK : Nat → Nat} {k : Nat} (hk : k < 1000000) : am_ad B b adK k = B + k := if_pos hk
theorem am_ad1 {B b : Nat} {adK : Nat → Nat} : am_ad B b adK 2000000 = b := by unfold am_ad; rw [if_neg (by decide), if_pos rfl]
theorem am_ad2 {B b : Nat} {adK : Nat → Nat} {i : Nat} (hi : i < 33) : am_ad B b adK (1000000 + i) = adK i := by
  unfold am_ad
  rw [if_neg (by omega), if_neg (by omega), Nat.add_sub_cancel_left]
theorem am_sp8 (n : Int32) : n < 1 ∨ (¬ n < 1 ∧ ¬ n ≤ 8) ∨ n = 1 ∨ n = 2 ∨ n = 3 ∨ n = 4 ∨ n = 5 ∨ n = 6 ∨ n = 7 ∨ n = 8 := by
  simp only [Int32.lt_iff_toInt_lt, Int32.le_iff_toInt_le, ← Int32.toInt_inj]
  simp only [show (1 : Int32).toInt = 1 by decide, show (2 : Int32).toInt = 2 by decide, show (3 : Int32).toInt = 3 by decide, show (4 : Int32).toInt = 4 by decide, show (5 : Int32).toInt = 5 by decide, show (6 : Int32).toInt = 6 by decide, show (7 : Int32).toInt = 7 by decide, show (8 : Int32).toInt = 8 by decide]
  omega
theorem am_sp3 (n : Int32) : n < 0 ∨ (¬ n < 0 ∧ 2 < n ∧ 3 ≤ n) ∨ n = 0 ∨ n = 1 ∨ n = 2 := by
  simp only [Int32.lt_iff_toInt_lt, Int32.le_iff_toInt_le, ← Int32.toInt_inj]
  simp only [show (0 : Int32).toInt = 0 by decide, show (1 : Int32).toInt = 1 by decide, show (2 : Int32).toInt = 2 by decide, show (3 : Int32).toInt = 3 by decide]
  omega
theorem am_sp0 (n : Int32) : n < 0 ∨ (¬ n < 0 ∧ 0 ≤ n) := by
  simp only [Int32.lt_iff_toInt_lt, Int32.le_iff_toInt_le]
  omega
theorem am_chk1_ok {xs : aX} {n : Nat} (h : am_chk1 xs n = true) : ∃ h' k j, am_run xs n 30 am_m184 0 [(0, .ref 2000000)] [] [] = some (.inl (some (.int 1)), h', k, j) ∧ k ≤ 600002 ∧ j ≤ 7302232 := by
  unfold am_chk1 at h
  split at h
  · rename_i v h' k j hr
    simp only [Bool.and_eq_true, decide_eq_true_eq] at h
    obtain ⟨⟨rfl, h2⟩, h3⟩ := h
    exact ⟨h', k, j, hr, Nat.le_of_ble_eq_true h2, Nat.le_of_ble_eq_true h3⟩
  · cases h
def R_law : String := "MarkupJudgeLaw"
def lw_P (b : Addr) (xs : List Int32) (args : Array Value) (s : State) : Prop := args = #[.ref b] ∧ s.IntsAt b xs ∧ xs.length ≤ 4 ∧ (Jvm.Cond.and given_1 narrow_1).before args s = true
def lw_Q (_ : Array Value) (s : State) (o : Outcome) (t : State) : Prop := o = .returned (some (.int 1)) ∧ Framed s o t [] 600002 7302232
def lw_Z (below : List Frame) (a : Array Value) (s : State) : State → Prop := fun t => ∃ o, t.status = .running ∧ Ended t below o ∧ lw_Q a s o t
def am_YB : List (Instr × Value × Value × Value) := [(.i2l, .float 1, .null, .double 1), (.lshl, .int 32, .double 1, .double 2), (.i2l, .float 2, .null, .double 3), (.land, .long 4294967295, .double 3, .double 4), (.lor, .double 4, .double 2, .double 0), (.lshr, .int 0, .double 0, .double 10), (.l2i, .double 10, .null, .float 10), (.iand, .int 255, .float 10, .float 20), (.land, .long 255, .double 10, .double 20), (.l2i, .double 20, .null, .float 30), (.lshr, .int 8, .double 0, .double 11), (.l2i, .double 11, .null, .float 11), (.iand, .int 255, .float 11, .float 21), (.land, .long 255, .double 11, .double 21), (.l2i, .double 21, .null, .float 31), (.lshr, .int 16, .double 0, .double 12), (.l2i, .double 12, .null, .float 12), (.iand, .int 255, .float 12, .float 22), (.land, .long 255, .double 12, .double 22), (.l2i, .double 22, .null, .float 32), (.lshr, .int 24, .double 0, .double 13), (.l2i, .double 13, .null, .float 13), (.iand, .int 255, .float 13, .float 23), (.land, .long 255, .double 13, .double 23), (.l2i, .double 23, .null, .float 33), (.lshr, .int 32, .double 0, .double 14), (.l2i, .double 14, .null, .float 14), (.iand, .int 255, .float 14, .float 24), (.land, .long 255, .double 14, .double 24), (.l2i, .double 24, .null, .float 34), (.lshr, .int 40, .double 0, .double 15), (.l2i, .double 15, .null, .float 15), (.iand, .int 255, .float 15, .float 25), (.land, .long 255, .double 15, .double 25), (.l2i, .double 25, .null, .float 35), (.lshr, .int 48, .double 0, .double 16), (.l2i, .double 16, .null, .float 16), (.iand, .int 255, .float 16, .float 26), (.land, .long 255, .double 16, .double 26), (.l2i, .double 26, .null, .float 36), (.lshr, .int 56, .double 0, .double 17), (.l2i, .double 17, .null, .float 17), (.iand, .int 255, .float 17, .float 27), (.land, .long 255, .double 17, .double 27), (.l2i, .double 27, .null, .float 37)]
set_option maxRecDepth 100000 in
theorem am_YB_ok (xr : Nat → Int32) (ad : Nat → Nat) : ∀ q ∈ am_YB, am_Yv (ad, am_ev xr, am_el xr) q := by
  unfold am_YB
  repeat' (first | exact fun _ h => absurd h List.not_mem_nil | refine List.forall_mem_cons.mpr ⟨?_, ?_⟩)
  all_goals first | exact Or.inl ⟨rfl, fun T => rfl⟩ | exact Or.inr ⟨fun h => (by cases h), fun T => rfl⟩
theorem am_sel_ok {xr : Nat → Int32} {ad : Nat → Nat} {k : Int32} (h : xr 0 &&& 7 = k) : am_Yv (ad, am_ev xr, am_el xr) (.iand, .int 7, .float 0, .int k) :=
  Or.inr ⟨fun h => (by cases h), fun T => by
    show some (Value.int (xr 0 &&& 7) :: T) = _
    rw [h]; rfl⟩
theorem am_lawW {p : Program} {e : Env} {s : State} {m : MethodId} {below : List Frame} {meth : Method} {c : Code} {l : Launch} {b : Nat} {D : va_G} {dA : Nat → ClassId} {E : aE} {xs : aX} {ls : Array Slot} (hl0 : l.stackTraces = false)
    (Cx : am_Cx am_m184 s.heap.size D dA E xs b p l s m meth c) (hb : E.1 2000000 = b) (hl : lv_has ls 7 [(0, .ref b)]) (hchk : am_chk1 xs 4000 = true) : W p l e room_1 s m #[Value.ref b] below meth c s.heap [] 0 0 (lw_Z below #[Value.ref b] s) (F0 m 0 ls []) := by
  obtain ⟨h', k, j, hrun, hk, hj⟩ := am_chk1_ok hchk
  refine am_sound hl0 4000 30 am_m184 0 [(0, .ref 2000000)] [] [] _ hrun Cx ⟨rfl, fun k c h => by simp at h⟩ va_S.rf ?_ (by decide) (by decide) (by show 0 + k ≤ 600002; omega) (by show 0 + j ≤ 7302232; omega) ?_
  · show lv_has ls 7 [(0, .ref (E.1 2000000))]
    rw [hb]; exact hl
  · intro t o L h1 h2 h3 h4 h5 h6 h7
    obtain ⟨-, -, -, rfl⟩ := h3
    refine ⟨_, h1, h2, rfl, ⟨_, rfl⟩, h5, h6.weaken (fun y hy hlt => absurd (h7 y hy) (Nat.not_le.mpr hlt)) (by show 0 + k ≤ 600002; omega) (by show 0 + j ≤ 7302232; omega)⟩
set_option maxHeartbeats 4000000 in
theorem am_whole {p : Program} {e : Env} {s : State} {m : MethodId} {below : List Frame} {meth : Method} {c : Code} {l : Launch} (hl0 : l.stackTraces = false) {b L : Nat} {xr : Nat → Int32} (hL : L ≤ 4)
    (hx : p.tables.exec = Jvm.exec) (hcc : c.code = code) (hr : meth.sig.returnType = ret) (hml : c.maxLocals = 7) (hown : s.vm.findClass R_law = some m.cls) (hts : ∀ w ∈ lw_tbl, w.before #[Value.ref b] s = true) (hX : va_X b L xr s s.heap) (hbl : b < s.heap.size) (hlk : meth.locks = false) (hgv : am_pre.before #[Value.ref b] s = true) (htab : c.exceptionTable.toList = []) (hname : meth.name = x.name) :
    W p l e room_1 s m #[Value.ref b] below meth c s.heap [] 0 0 (lw_Z below #[Value.ref b] s) (entryFrame m ([Value.ref b] : List Value).toArray 7) := by
  obtain ⟨D, dA, adK, hG⟩ := am_start hts hX hbl hgv
  have hl := lv_entry ([.ref b]) (n := 7) (Nat.le_of_ble_eq_true rfl)
  rw [lg_entry_eq]
  generalize (lg_sl ([.ref b]) ++ List.replicate (7 - (lg_sl ([.ref b])).length) Slot.unset).toArray = ls at hl ⊢
  have hl : lv_has ls 7 [(0, .ref b)] := hl
  have go : ∀ xs : aX, am_chk1 xs 4000 = true → xs.1.length = L → (∀ (j : Nat) (v : Value), xs.1[j]? = some v → am_tv (am_ad s.heap.size b adK, am_ev xr, am_el xr) v = .int (xr j)) → am_Yo (am_ad s.heap.size b adK, am_ev xr, am_el xr) xs →
      W p l e room_1 s m #[Value.ref b] below meth c s.heap [] 0 0 (lw_Z below #[Value.ref b] s) (F0 m 0 ls []) := by
    intro xs h1 h2 h3 h4
    have G := hG (am_ad s.heap.size b adK, am_ev xr, am_el xr) xs (fun k hk => am_ad0 (B := s.heap.size) (b := b) (adK := adK) hk) (am_ad1 (B := s.heap.size) (b := b) (adK := adK)) (fun i hi => am_ad2 (B := s.heap.size) (b := b) (adK := adK) hi) h2 h3 h4
    exact am_lawW hl0 ⟨hx, hcc, hml, hr, hlk, htab, hown, hname, hl0, am_d184, G, Nat.le_refl _⟩ (am_ad1 (B := s.heap.size) (b := b) (adK := adK)) hl h1
  rcases (show L = 0 ∨ L = 1 ∨ L = 2 ∨ L = 3 ∨ L = 4 by omega) with rfl | rfl | rfl | rfl | rfl
  · exact go am_x_L0 am_t_L0 rfl (fun j v h => by
        simp [am_x_L0] at h) ⟨fun _ h => absurd h List.not_mem_nil, fun _ h => absurd h List.not_mem_nil⟩
  · exact go am_x_L1 am_t_L1 rfl (fun j v h => by
        match j, h with
        | 0, h => cases h; rfl
        | k + 1, h => simp [am_x_L1] at h) ⟨fun _ h => absurd h List.not_mem_nil, fun _ h => absurd h List.not_mem_nil⟩
  · exact go am_x_L2 am_t_L2 rfl (fun j v h => by
        match j, h with
        | 0, h => cases h; rfl
        | 1, h => cases h; rfl
        | k + 2, h => simp [am_x_L2] at h) ⟨fun _ h => absurd h List.not_mem_nil, fun _ h => absurd h List.not_mem_nil⟩
  · exact go am_x_L3 am_t_L3 rfl (fun j v h => by
        match j, h with
        | 0, h => cases h; rfl
        | 1, h => cases h; rfl
        | 2, h => cases h; rfl
        | k + 3, h => simp [am_x_L3] at h) ⟨fun _ h => absurd h List.not_mem_nil, fun _ h => absurd h List.not_mem_nil⟩
  · obtain ⟨k, hk, hs⟩ := pk_andE (xr 0) (m := 7) 3 (by decide)
    rcases (show k = 0 ∨ k = 1 ∨ k = 2 ∨ k = 3 ∨ k = 4 ∨ k = 5 ∨ k = 6 ∨ k = 7 by omega) with rfl | rfl | rfl | rfl | rfl | rfl | rfl | rfl
    · rcases am_sp8 (xr 3) with h9 | ⟨h8, h9⟩ | h9 | h9 | h9 | h9 | h9 | h9 | h9 | h9
      · exact go am_x_blo am_t_blo rfl (fun j v h => by
        match j, h with
        | 0, h => cases h; rfl
        | 1, h => cases h; rfl
        | 2, h => cases h; rfl
        | 3, h => cases h; rfl
        | k + 4, h => simp [am_x_blo] at h) ⟨List.forall_mem_cons.mpr ⟨am_sel_ok hs, am_YB_ok _ _⟩, List.forall_mem_cons.mpr ⟨⟨_, _, rfl, rfl, decide_eq_true h9⟩, fun _ h => absurd h List.not_mem_nil⟩⟩
      · exact go am_x_bhi am_t_bhi rfl (fun j v h => by
        match j, h with
        | 0, h => cases h; rfl
        | 1, h => cases h; rfl
        | 2, h => cases h; rfl
        | 3, h => cases h; rfl
        | k + 4, h => simp [am_x_bhi] at h) ⟨List.forall_mem_cons.mpr ⟨am_sel_ok hs, am_YB_ok _ _⟩, List.forall_mem_cons.mpr ⟨⟨_, _, rfl, rfl, decide_eq_false h8⟩, List.forall_mem_cons.mpr ⟨⟨_, _, rfl, rfl, decide_eq_false h9⟩, fun _ h => absurd h List.not_mem_nil⟩⟩⟩
      · exact go am_x_b1 am_t_b1 rfl (fun j v h => by
        match j, h with
        | 0, h => cases h; rfl
        | 1, h => cases h; rfl
        | 2, h => cases h; rfl
        | 3, h => cases h; exact congrArg Value.int h9.symm
        | k + 4, h => simp [am_x_b1] at h) ⟨List.forall_mem_cons.mpr ⟨am_sel_ok hs, am_YB_ok _ _⟩, fun _ h => absurd h List.not_mem_nil⟩
      · exact go am_x_b2 am_t_b2 rfl (fun j v h => by
        match j, h with
        | 0, h => cases h; rfl
        | 1, h => cases h; rfl
        | 2, h => cases h; rfl
        | 3, h => cases h; exact congrArg Value.int h9.symm
        | k + 4, h => simp [am_x_b2] at h) ⟨List.forall_mem_cons.mpr ⟨am_sel_ok hs, am_YB_ok _ _⟩, fun _ h => absurd h List.not_mem_nil⟩
      · exact go am_x_b3 am_t_b3 rfl (fun j v h => by
        match j, h with
        | 0, h => cases h; rfl
        | 1, h => cases h; rfl
        | 2, h => cases h; rfl
        | 3, h => cases h; exact congrArg Value.int h9.symm
        | k + 4, h => simp [am_x_b3] at h) ⟨List.forall_mem_cons.mpr ⟨am_sel_ok hs, am_YB_ok _ _⟩, fun _ h => absurd h List.not_mem_nil⟩
      · exact go am_x_b4 am_t_b4 rfl (fun j v h => by
        match j, h with
        | 0, h => cases h; rfl
        | 1, h => cases h; rfl
        | 2, h => cases h; rfl
        | 3, h => cases h; exact congrArg Value.int h9.symm
        | k + 4, h => simp [am_x_b4] at h) ⟨List.forall_mem_cons.mpr ⟨am_sel_ok hs, am_YB_ok _ _⟩, fun _ h => absurd h List.not_mem_nil⟩
      · exact go am_x_b5 am_t_b5 rfl (fun j v h => by
        match j, h with
        | 0, h => cases h; rfl
        | 1, h => cases h; rfl
        | 2, h => cases h; rfl
        | 3, h => cases h; exact congrArg Value.int h9.symm
        | k + 4, h => simp [am_x_b5] at h) ⟨List.forall_mem_cons.mpr ⟨am_sel_ok hs, am_YB_ok _ _⟩, fun _ h => absurd h List.not_mem_nil⟩
      · exact go am_x_b6 am_t_b6 rfl (fun j v h => by
        match j, h with
        | 0, h => cases h; rfl
        | 1, h => cases h; rfl
        | 2, h => cases h; rfl
        | 3, h => cases h; exact congrArg Value.int h9.symm
        | k + 4, h => simp [am_x_b6] at h) ⟨List.forall_mem_cons.mpr ⟨am_sel_ok hs, am_YB_ok _ _⟩, fun _ h => absurd h List.not_mem_nil⟩
      · exact go am_x_b7 am_t_b7 rfl (fun j v h => by
        match j, h with
        | 0, h => cases h; rfl
        | 1, h => cases h; rfl
        | 2, h => cases h; rfl
        | 3, h => cases h; exact congrArg Value.int h9.symm
        | k + 4, h => simp [am_x_b7] at h) ⟨List.forall_mem_cons.mpr ⟨am_sel_ok hs, am_YB_ok _ _⟩, fun _ h => absurd h List.not_mem_nil⟩
      · exact go am_x_b8 am_t_b8 rfl (fun j v h => by
        match j, h with
        | 0, h => cases h; rfl
        | 1, h => cases h; rfl
        | 2, h => cases h; rfl
        | 3, h => cases h; exact congrArg Value.int h9.symm
        | k + 4, h => simp [am_x_b8] at h) ⟨List.forall_mem_cons.mpr ⟨am_sel_ok hs, am_YB_ok _ _⟩, fun _ h => absurd h List.not_mem_nil⟩
    · exact go am_x_clear am_t_clear rfl (fun j v h => by
        match j, h with
        | 0, h => cases h; rfl
        | 1, h => cases h; rfl
        | 2, h => cases h; rfl
        | 3, h => cases h; rfl
        | k + 4, h => simp [am_x_clear] at h) ⟨List.forall_mem_cons.mpr ⟨am_sel_ok hs, fun _ h => absurd h List.not_mem_nil⟩, fun _ h => absurd h List.not_mem_nil⟩
    · by_cases h8 : xr 1 < 0
      · exact go am_x_jlo am_t_jlo rfl (fun j v h => by
        match j, h with
        | 0, h => cases h; rfl
        | 1, h => cases h; rfl
        | 2, h => cases h; rfl
        | 3, h => cases h; rfl
        | k + 4, h => simp [am_x_jlo] at h) ⟨List.forall_mem_cons.mpr ⟨am_sel_ok hs, fun _ h => absurd h List.not_mem_nil⟩, List.forall_mem_cons.mpr ⟨⟨_, _, rfl, rfl, decide_eq_true h8⟩, fun _ h => absurd h List.not_mem_nil⟩⟩
      · by_cases h9 : xr 1 ≤ 2000
        · exact go am_x_jok am_t_jok rfl (fun j v h => by
        match j, h with
        | 0, h => cases h; rfl
        | 1, h => cases h; rfl
        | 2, h => cases h; rfl
        | 3, h => cases h; rfl
        | k + 4, h => simp [am_x_jok] at h) ⟨List.forall_mem_cons.mpr ⟨am_sel_ok hs, fun _ h => absurd h List.not_mem_nil⟩, List.forall_mem_cons.mpr ⟨⟨_, _, rfl, rfl, decide_eq_false h8⟩, List.forall_mem_cons.mpr ⟨⟨_, _, rfl, rfl, decide_eq_true h9⟩, fun _ h => absurd h List.not_mem_nil⟩⟩⟩
        · exact go am_x_jhi am_t_jhi rfl (fun j v h => by
        match j, h with
        | 0, h => cases h; rfl
        | 1, h => cases h; rfl
        | 2, h => cases h; rfl
        | 3, h => cases h; rfl
        | k + 4, h => simp [am_x_jhi] at h) ⟨List.forall_mem_cons.mpr ⟨am_sel_ok hs, fun _ h => absurd h List.not_mem_nil⟩, List.forall_mem_cons.mpr ⟨⟨_, _, rfl, rfl, decide_eq_false h8⟩, List.forall_mem_cons.mpr ⟨⟨_, _, rfl, rfl, decide_eq_false h9⟩, fun _ h => absurd h List.not_mem_nil⟩⟩⟩
    · exact go am_x_events am_t_events rfl (fun j v h => by
        match j, h with
        | 0, h => cases h; rfl
        | 1, h => cases h; rfl
        | 2, h => cases h; rfl
        | 3, h => cases h; rfl
        | k + 4, h => simp [am_x_events] at h) ⟨List.forall_mem_cons.mpr ⟨am_sel_ok hs, fun _ h => absurd h List.not_mem_nil⟩, fun _ h => absurd h List.not_mem_nil⟩
    · rcases am_sp0 (xr 1) with h9 | ⟨h8, h9⟩
      · exact go am_x_elo am_t_elo rfl (fun j v h => by
        match j, h with
        | 0, h => cases h; rfl
        | 1, h => cases h; rfl
        | 2, h => cases h; rfl
        | 3, h => cases h; rfl
        | k + 4, h => simp [am_x_elo] at h) ⟨List.forall_mem_cons.mpr ⟨am_sel_ok hs, fun _ h => absurd h List.not_mem_nil⟩, List.forall_mem_cons.mpr ⟨⟨_, _, rfl, rfl, decide_eq_true h9⟩, fun _ h => absurd h List.not_mem_nil⟩⟩
      · exact go am_x_ehi am_t_ehi rfl (fun j v h => by
        match j, h with
        | 0, h => cases h; rfl
        | 1, h => cases h; rfl
        | 2, h => cases h; rfl
        | 3, h => cases h; rfl
        | k + 4, h => simp [am_x_ehi] at h) ⟨List.forall_mem_cons.mpr ⟨am_sel_ok hs, fun _ h => absurd h List.not_mem_nil⟩, List.forall_mem_cons.mpr ⟨⟨_, _, rfl, rfl, decide_eq_false h8⟩, List.forall_mem_cons.mpr ⟨⟨_, _, rfl, rfl, decide_eq_true h9⟩, fun _ h => absurd h List.not_mem_nil⟩⟩⟩
    · rcases am_sp0 (xr 1) with h9 | ⟨h8, h9⟩
      · exact go am_x_clo am_t_clo rfl (fun j v h => by
        match j, h with
        | 0, h => cases h; rfl
        | 1, h => cases h; rfl
        | 2, h => cases h; rfl
        | 3, h => cases h; rfl
        | k + 4, h => simp [am_x_clo] at h) ⟨List.forall_mem_cons.mpr ⟨am_sel_ok hs, fun _ h => absurd h List.not_mem_nil⟩, List.forall_mem_cons.mpr ⟨⟨_, _, rfl, rfl, decide_eq_true h9⟩, fun _ h => absurd h List.not_mem_nil⟩⟩
      · exact go am_x_chi am_t_chi rfl (fun j v h => by
        match j, h with
        | 0, h => cases h; rfl
        | 1, h => cases h; rfl
        | 2, h => cases h; rfl
        | 3, h => cases h; rfl
        | k + 4, h => simp [am_x_chi] at h) ⟨List.forall_mem_cons.mpr ⟨am_sel_ok hs, fun _ h => absurd h List.not_mem_nil⟩, List.forall_mem_cons.mpr ⟨⟨_, _, rfl, rfl, decide_eq_false h8⟩, List.forall_mem_cons.mpr ⟨⟨_, _, rfl, rfl, decide_eq_true h9⟩, fun _ h => absurd h List.not_mem_nil⟩⟩⟩
    · exact go am_x_cost am_t_cost rfl (fun j v h => by
        match j, h with
        | 0, h => cases h; rfl
        | 1, h => cases h; rfl
        | 2, h => cases h; rfl
        | 3, h => cases h; rfl
        | k + 4, h => simp [am_x_cost] at h) ⟨List.forall_mem_cons.mpr ⟨am_sel_ok hs, fun _ h => absurd h List.not_mem_nil⟩, fun _ h => absurd h List.not_mem_nil⟩
    · rcases am_sp3 (xr 1) with h9 | ⟨h8, h9, h7⟩ | h9 | h9 | h9
      · exact go am_x_nlo am_t_nlo rfl (fun j v h => by
        match j, h with
        | 0, h => cases h; rfl
        | 1, h => cases h; rfl
        | 2, h => cases h; rfl
        | 3, h => cases h; rfl
        | k + 4, h => simp [am_x_nlo] at h) ⟨List.forall_mem_cons.mpr ⟨am_sel_ok hs, fun _ h => absurd h List.not_mem_nil⟩, List.forall_mem_cons.mpr ⟨⟨_, _, rfl, rfl, decide_eq_true h9⟩, fun _ h => absurd h List.not_mem_nil⟩⟩
      · exact go am_x_nhi am_t_nhi rfl (fun j v h => by
        match j, h with
        | 0, h => cases h; rfl
        | 1, h => cases h; rfl
        | 2, h => cases h; rfl
        | 3, h => cases h; rfl
        | k + 4, h => simp [am_x_nhi] at h) ⟨List.forall_mem_cons.mpr ⟨am_sel_ok hs, fun _ h => absurd h List.not_mem_nil⟩, List.forall_mem_cons.mpr ⟨⟨_, _, rfl, rfl, decide_eq_false h8⟩, List.forall_mem_cons.mpr ⟨⟨_, _, rfl, rfl, decide_eq_true h9⟩, List.forall_mem_cons.mpr ⟨⟨_, _, rfl, rfl, decide_eq_true h7⟩, fun _ h => absurd h List.not_mem_nil⟩⟩⟩⟩
      · exact go am_x_n0 am_t_n0 rfl (fun j v h => by
        match j, h with
        | 0, h => cases h; rfl
        | 1, h => cases h; exact congrArg Value.int h9.symm
        | 2, h => cases h; rfl
        | 3, h => cases h; rfl
        | k + 4, h => simp [am_x_n0] at h) ⟨List.forall_mem_cons.mpr ⟨am_sel_ok hs, fun _ h => absurd h List.not_mem_nil⟩, fun _ h => absurd h List.not_mem_nil⟩
      · exact go am_x_n1 am_t_n1 rfl (fun j v h => by
        match j, h with
        | 0, h => cases h; rfl
        | 1, h => cases h; exact congrArg Value.int h9.symm
        | 2, h => cases h; rfl
        | 3, h => cases h; rfl
        | k + 4, h => simp [am_x_n1] at h) ⟨List.forall_mem_cons.mpr ⟨am_sel_ok hs, fun _ h => absurd h List.not_mem_nil⟩, fun _ h => absurd h List.not_mem_nil⟩
      · exact go am_x_n2 am_t_n2 rfl (fun j v h => by
        match j, h with
        | 0, h => cases h; rfl
        | 1, h => cases h; exact congrArg Value.int h9.symm
        | 2, h => cases h; rfl
        | 3, h => cases h; rfl
        | k + 4, h => simp [am_x_n2] at h) ⟨List.forall_mem_cons.mpr ⟨am_sel_ok hs, fun _ h => absurd h List.not_mem_nil⟩, fun _ h => absurd h List.not_mem_nil⟩
set_option maxHeartbeats 4000000 in
theorem lw_walk (l : Launch) (hl0 : l.stackTraces = false) (b : Addr) (xs : List Int32) : MetFree l x (headSpec (Jvm.Cond.code x code maxLocals ret :: tables_1) room_1) (lw_P b xs) (fun _ _ _ _ _ => True) lw_Q := by
  refine MetFree.of_bodyS (code := code) (maxLocals := maxLocals) (ret := ret) (by decide) ?_ ?_
  · intro args s m h hn
    obtain ⟨meth, c, h1, h2, h3, h4, h5, h6, -, -⟩ := Cond.code_spec hn (atoms_spec (ws := Jvm.Cond.code x code maxLocals ret :: tables_1) h _ List.mem_cons_self)
    exact ⟨meth, c, h1, h2, h3, h4, h5, h6⟩
  · intro p e s m args below meth c s₁ B hml0 hP _
    obtain ⟨rfl, hx, hbd, hgv⟩ := hP
    obtain ⟨scr, harrAt, hlist, hof, hsmall⟩ := hx
    obtain ⟨hcb, hkn, -, -⟩ := State.arrayAt?_spec harrAt
    have hown : s.vm.findClass R_law = some m.cls := findClass_of_methodNamed B.named
    have hts0 : ∀ c ∈ (Jvm.Cond.code x code maxLocals ret :: tables_1), c.before #[Value.ref b] s = true := atoms_spec (ws := Jvm.Cond.code x code maxLocals ret :: tables_1) B.pre
    have hts : ∀ w ∈ lw_tbl, w.before #[Value.ref b] s = true := k2_hts_sels lw_privs (fun w hw => hts0 w (List.mem_cons_of_mem _ hw)) lw_privs_ok
    have hml : c.maxLocals = 7 := B.maxLocals_eq (hts0 _ List.mem_cons_self)
    have X₀ : Stand p l e room_1 s m #[Value.ref b] below meth c s₁ [] 0 0 := Stand.of_body B
    have hh0 : s₁.heap = s.heap := by rw [B.state]; rfl
    have hsz : scr.slots.size = xs.length := by rw [← Array.length_toList, hlist, List.length_map]
    have hval : ∀ j : Nat, j < xs.length → scr.slots[j]? = some (.int (xs.getD j 0)) := fun j hj => by
      rw [← Array.getElem?_toList, hlist]
      simp [hj]
    have hbl : b < s.heap.size := (Array.getElem?_eq_some_iff.mp hcb).1
    have hX : va_X b xs.length (fun j => xs.getD j 0) s s.heap := ⟨scr, hcb, hof, hkn, hsz, hval⟩
    have K : W p l e room_1 s m #[Value.ref b] below meth c s₁.heap [] 0 0 (lw_Z below #[Value.ref b] s) (entryFrame m ([Value.ref b] : List Value).toArray 7) := by
      rw [hh0]
      obtain ⟨meth9, c9, m1, m2, -, -, -, -, m7, -⟩ := Cond.code_spec B.named (hts0 _ List.mem_cons_self)
      cases Option.some.inj (m1.symm.trans B.method)
      cases Option.some.inj (m2.symm.trans (Stand.of_body B).code)
      exact am_whole hl0 hbd B.exec B.bytes B.returns hml hown hts hX hbl B.notSynchronized hgv (by rw [Array.isEmpty_iff.mp m7]) (name_of_methodNamed B.named B.method).1
    obtain ⟨t, a1, o, b1, b2, b3⟩ := K s₁ rfl X₀
    exact ⟨t, o, a1, b1, b2, b3⟩
theorem lw_pre_spec {args : Array Value} {s : State} (h : (Jvm.Cond.and given_1 narrow_1).before args s = true) (hr : rest_1_c.before args s = true) : ∃ (b : Addr) (xs : List Int32), lw_P b xs args s := by
  have hs := flat_of_before _ h
  have hq := flat_of_before _ hr
  have hc : (Cond.count 1).before args s = true := hs _ (by decide +kernel)
  have harr : (Cond.arrayOf (.arg 0) .int).before args s = true := hs _ (by decide +kernel)
  have hle : (Cond.le (.length (.arg 0)) (.int 4)).before args s = true := hs _ (by decide +kernel)
  have hlen : (Cond.isInt (.length (.arg 0))).before args s = true := hq _ (by decide +kernel)
  have hall : (Cond.all (.arg 0) (.isInt (.elem (.arg 0) (.index 0)))).before args s = true := hq _ (by decide +kernel)
  obtain ⟨b, xs, hb, hx⟩ := State.ints_of_pre rfl harr hlen hall
  have hsm : xs.length < 2 ^ 31 := hx.choose_spec.2.2.2
  have hev : (Term.length (.arg 0)).eval args s none [] s = some (.int xs.length.toInt32) := hx.length_eval hb
  have hv := Cond.le_ints hev (show (Term.int 4).eval args s none [] s = some (.int 4) from rfl)
  have hd : xs.length.toInt32 ≤ 4 := by
    simpa [Cond.before, Cond.holds, hv] using hle
  have hN : xs.length ≤ 4 := (Int32.ofNat_le_ofNat hsm (by decide)).mp (show Int32.ofNat xs.length ≤ Int32.ofNat 4 from hd)
  exact ⟨b, xs, Cond.one_arg hc (show args[0]? = some (.ref b) from hb), hx, hN, h⟩
theorem lw_comes (l : Launch) (hl0 : l.stackTraces = false) : Comes l x (Jvm.Cond.code x code maxLocals ret :: tables_1) room_1 (fun tb e args s => Calls_1 tb e args s ∧ rest_1 tb e args s ∧ Pre_1 tb e args s)
    (fun _ _ args s o t => lw_Q args s o t) := by
  intro p e ha hc hk s m args below hf hfit hheap happ hpre
  obtain ⟨b, xs, hP⟩ := lw_pre_spec hpre.2.2 hpre.2.1
  obtain ⟨k, o, h1, h2, h3, hQ⟩ := lw_walk l hl0 b xs p e ha hc hk s m args below hf ((Spec.applies_iff_loose hf).mp happ).1 hP trivial
  exact ⟨k, o, h1, h2, h3, hQ⟩
theorem lw_frame {s t : State} {o : Outcome} {args : Array Value} (h : Framed s o t [] 600002 7302232) :
    Framed s o t (fieldLocs frame_1_writes args s ++ arrayLocs frame_1_arrays args s ++ staticLocs frame_1_statics s) 600002 7302232 := h
theorem lw_limb (L : Cond) (hL : ∀ (args : Array Value) (s t : State), L.after args s (.returned (some (.int 1))) t = true) :
    ArmFor flags0 classFile x code maxLocals ret World_1 tables_1 room_1 Calls_1 rest_1 Pre_1
      (fun tb e a s o t => postC L tb e a s o t ∧ Framed s o t (fieldLocs frame_1_writes a s ++ arrayLocs frame_1_arrays a s ++ staticLocs frame_1_statics s) 600002 7302232) := by
  intro l hfl _ _ p e ha hc hk s m args below hf hfit hheap happ hpre
  obtain ⟨k, o, h1, h2, h3, rfl, hF⟩ := lw_comes l (by unfold Launch.stackTraces; rw [hfl]; decide +kernel) p e ha hc hk s m args below hf hfit hheap happ hpre
  exact ⟨k, _, h1, h2, h3, hL args s _, lw_frame hF⟩
theorem i_vc : Claimed_1_1 ∧ Claimed_1_2 := ⟨lw_limb limb_1_1 (fun args s t => by simp [limb_1_1, Cond.after, Cond.holds, Cond.value]), lw_limb limb_1_2 (fun args s t => Cond.after_iff.mpr (by
  first | (rw [show limb_1_2 = Cond.eq .result (.int 1) from rfl, Cond.eq_ints (x := 1) (y := 1) rfl rfl]; simp; done) | (simp [limb_1_2, Cond.value, Term.eval]; done)))⟩
