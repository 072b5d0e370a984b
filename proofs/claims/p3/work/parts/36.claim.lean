/-! THE CLAIM -/
def am_ad (B b : Nat) (adK : Nat → Nat) : Nat → Nat := fun k => if k < 1000000 then B + k else if k = 2000000 then b else adK (k - 1000000)
theorem am_ad0 {B b : Nat} {adK : Nat → Nat} {k : Nat} (hk : k < 1000000) : am_ad B b adK k = B + k := if_pos hk
theorem am_ad1 {B b : Nat} {adK : Nat → Nat} : am_ad B b adK 2000000 = b := by unfold am_ad; rw [if_neg (by decide), if_pos rfl]
theorem am_ad2 {B b : Nat} {adK : Nat → Nat} {i : Nat} (hi : i < 33) : am_ad B b adK (1000000 + i) = adK i := by
  unfold am_ad
  rw [if_neg (by omega), if_neg (by omega), Nat.add_sub_cancel_left]
def R_law : String := "MarkupJudgeLaw"
def lw_P (b : Addr) (xs : List Int32) (args : Array Value) (s : State) : Prop := args = #[.ref b] ∧ s.IntsAt b xs ∧ xs.length ≤ 2048 ∧ (Jvm.Cond.and given_1 narrow_1).before args s = true
def lw_Q (_ : Array Value) (s : State) (o : Outcome) (t : State) : Prop := o = .returned (some (.int 1)) ∧ Framed s o t [] 601024 7293034
def lw_Z (below : List Frame) (a : Array Value) (s : State) : State → Prop := fun t => ∃ o, t.status = .running ∧ Ended t below o ∧ lw_Q a s o t
theorem am_lawW {p : Program} {e : Env} {s : State} {m : MethodId} {below : List Frame} {meth : Method} {c : Code} {l : Launch} {b : Nat} {D : va_G} {dA : Nat → ClassId} {E : aE} {xs : aX} {ls : Array Slot} (hl0 : l.stackTraces = false)
    (Cx : am_Cx am_m183 s.heap.size D dA E xs b p l s m meth c) (hb : E.1 2000000 = b) (hl : lv_has ls 7 [(0, .ref b)]) (hchk : ∃ n h' k j, am_run xs n 30 am_m183 0 [(0, .ref 2000000)] [] [] = some (.inl (some (.int 1)), h', k, j) ∧ k ≤ 601024 ∧ j ≤ 7293034) : W p l e room_1 s m #[Value.ref b] below meth c s.heap [] 0 0 (lw_Z below #[Value.ref b] s) (F0 m 0 ls []) := by
  obtain ⟨n, h', k, j, hrun, hk, hj⟩ := hchk
  refine am_sound hl0 n 30 am_m183 0 [(0, .ref 2000000)] [] [] _ hrun Cx ⟨rfl, fun k c h => by simp at h⟩ va_S.rf ?_ (by decide) (by decide) (by show 0 + k ≤ 601024; omega) (by show 0 + j ≤ 7293034; omega) ?_
  · show lv_has ls 7 [(0, .ref (E.1 2000000))]
    rw [hb]; exact hl
  · intro t o L h1 h2 h3 h4 h5 h6 h7
    obtain ⟨-, -, -, rfl⟩ := h3
    refine ⟨_, h1, h2, rfl, ⟨_, rfl⟩, h5, h6.weaken (fun y hy hlt => absurd (h7 y hy) (Nat.not_le.mpr hlt)) (by show 0 + k ≤ 601024; omega) (by show 0 + j ≤ 7293034; omega)⟩
set_option maxHeartbeats 4000000 in
theorem am_whole {p : Program} {e : Env} {s : State} {m : MethodId} {below : List Frame} {meth : Method} {c : Code} {l : Launch} (hl0 : l.stackTraces = false) {b L : Nat} {xr : Nat → Int32} (hL : L ≤ 2048)
    (hx : p.tables.exec = Jvm.exec) (hcc : c.code = code) (hr : meth.sig.returnType = ret) (hml : c.maxLocals = 7) (hown : s.vm.findClass R_law = some m.cls) (hts : ∀ w ∈ lw_tbl, w.before #[Value.ref b] s = true) (hX : va_X b L xr s s.heap) (hbl : b < s.heap.size) (hlk : meth.locks = false) (hgv : am_pre.before #[Value.ref b] s = true) (htab : c.exceptionTable.toList = []) (hname : meth.name = x.name) :
    W p l e room_1 s m #[Value.ref b] below meth c s.heap [] 0 0 (lw_Z below #[Value.ref b] s) (entryFrame m ([Value.ref b] : List Value).toArray 7) := by
  obtain ⟨D, dA, adK, hG⟩ := am_start hts hX hbl hgv
  have hl := lv_entry ([.ref b]) (n := 7) (Nat.le_of_ble_eq_true rfl)
  rw [lg_entry_eq]
  generalize (lg_sl ([.ref b]) ++ List.replicate (7 - (lg_sl ([.ref b])).length) Slot.unset).toArray = ls at hl ⊢
  have hl : lv_has ls 7 [(0, .ref b)] := hl
  have hlen : ((List.range L).map (fun j => Value.int (xr j))).length = L := by rw [List.length_map, List.length_range]
  have hget : ∀ j : Nat, j < L → ((List.range L).map (fun j => Value.int (xr j)))[j]? = some (.int (xr j)) := fun j hj => by rw [List.getElem?_map, List.getElem?_range hj]; rfl
  have hrun := am_lawrun (X := (List.range L).map (fun j => Value.int (xr j))) (sv := fun x => (xr x.toNat).toInt) (by rw [hlen]; exact hL) (fun x x0 x1 => ⟨by
      rw [hlen] at x1
      rw [hget x.toNat (by omega), am_iv, Int32.ofInt_toInt], am_toI _⟩)
  have G := hG (am_ad s.heap.size b adK, fun _ => 0, fun _ => 0) ((List.range L).map (fun j => Value.int (xr j)), [], []) (fun k hk => am_ad0 (B := s.heap.size) (b := b) (adK := adK) hk) (am_ad1 (B := s.heap.size) (b := b) (adK := adK)) (fun i hi => am_ad2 (B := s.heap.size) (b := b) (adK := adK) hi) hlen (fun j v h => by
      have hj : j < L := by
        have := (List.getElem?_eq_some_iff.mp h).1
        rw [hlen] at this; exact this
      have h : ((List.range L).map (fun j => Value.int (xr j)))[j]? = some v := h
      rw [hget j hj] at h
      cases h
      rfl) ⟨fun _ h => absurd h List.not_mem_nil, fun _ h => absurd h List.not_mem_nil⟩
  exact am_lawW hl0 ⟨hx, hcc, hml, hr, hlk, htab, hown, hname, hl0, am_d183, G, Nat.le_refl _⟩ (am_ad1 (B := s.heap.size) (b := b) (adK := adK)) hl hrun
theorem lw_walk (l : Launch) (hl0 : l.stackTraces = false) (b : Addr) (xs : List Int32) : MetFree l x (headSpec (Jvm.Cond.code x code maxLocals ret :: tables_1) room_1) (lw_P b xs) (fun _ _ _ _ _ => True) lw_Q := by
  refine MetFree.of_bodyS (code := code) (maxLocals := maxLocals) (ret := ret) (by decide) ?_ ?_
  · intro args s m h hn
    obtain ⟨meth, c, h1, h2, h3, h4, h5, h6, -, -⟩ := Cond.code_spec hn (atoms_spec (ws := Jvm.Cond.code x code maxLocals ret :: tables_1) h _ List.mem_cons_self)
    exact ⟨meth, c, h1, h2, h3, h4, h5, h6⟩
  · intro p e s m args below meth c s₁ B hml0 hP _
    obtain ⟨rfl, hx, hbd, hgv⟩ := hP
    obtain ⟨scr, harrAt, hlist, hof, hsmall⟩ := hx
    obtain ⟨hcb, hkn, -, -⟩ := State.arrayAt?_spec harrAt
    have hown : s.vm.findClass R_law = some m.cls := findClass_of_methodNamed B.named
    have hts0 : ∀ c ∈ (Jvm.Cond.code x code maxLocals ret :: tables_1), c.before #[Value.ref b] s = true := atoms_spec (ws := Jvm.Cond.code x code maxLocals ret :: tables_1) B.pre
    have hts : ∀ w ∈ lw_tbl, w.before #[Value.ref b] s = true := k2_hts_sels lw_privs (fun w hw => hts0 w (List.mem_cons_of_mem _ hw)) lw_privs_ok
    have hml : c.maxLocals = 7 := B.maxLocals_eq (hts0 _ List.mem_cons_self)
    have X₀ : Stand p l e room_1 s m #[Value.ref b] below meth c s₁ [] 0 0 := Stand.of_body B
    have hh0 : s₁.heap = s.heap := by rw [B.state]; rfl
    have hsz : scr.slots.size = xs.length := by rw [← Array.length_toList, hlist, List.length_map]
    have hval : ∀ j : Nat, j < xs.length → scr.slots[j]? = some (.int (xs.getD j 0)) := fun j hj => by
      rw [← Array.getElem?_toList, hlist]
      simp [hj]
    have hbl : b < s.heap.size := (Array.getElem?_eq_some_iff.mp hcb).1
    have hX : va_X b xs.length (fun j => xs.getD j 0) s s.heap := ⟨scr, hcb, hof, hkn, hsz, hval⟩
    have K : W p l e room_1 s m #[Value.ref b] below meth c s₁.heap [] 0 0 (lw_Z below #[Value.ref b] s) (entryFrame m ([Value.ref b] : List Value).toArray 7) := by
      rw [hh0]
      obtain ⟨meth9, c9, m1, m2, -, -, -, -, m7, -⟩ := Cond.code_spec B.named (hts0 _ List.mem_cons_self)
      cases Option.some.inj (m1.symm.trans B.method)
      cases Option.some.inj (m2.symm.trans (Stand.of_body B).code)
      exact am_whole hl0 hbd B.exec B.bytes B.returns hml hown hts hX hbl B.notSynchronized hgv (by rw [Array.isEmpty_iff.mp m7]) (name_of_methodNamed B.named B.method).1
    obtain ⟨t, a1, o, b1, b2, b3⟩ := K s₁ rfl X₀
    exact ⟨t, o, a1, b1, b2, b3⟩
theorem lw_pre_spec {args : Array Value} {s : State} (h : (Jvm.Cond.and given_1 narrow_1).before args s = true) (hr : rest_1_c.before args s = true) : ∃ (b : Addr) (xs : List Int32), lw_P b xs args s := by
  have hs := flat_of_before _ h
  have hq := flat_of_before _ hr
  have hc : (Cond.count 1).before args s = true := hs _ (by decide +kernel)
  have harr : (Cond.arrayOf (.arg 0) .int).before args s = true := hs _ (by decide +kernel)
  have hle : (Cond.le (.length (.arg 0)) (.int 2048)).before args s = true := hs _ (by decide +kernel)
  have hlen : (Cond.isInt (.length (.arg 0))).before args s = true := hq _ (by decide +kernel)
  have hall : (Cond.all (.arg 0) (.isInt (.elem (.arg 0) (.index 0)))).before args s = true := hq _ (by decide +kernel)
  obtain ⟨b, xs, hb, hx⟩ := State.ints_of_pre rfl harr hlen hall
  have hsm : xs.length < 2 ^ 31 := hx.choose_spec.2.2.2
  have hev : (Term.length (.arg 0)).eval args s none [] s = some (.int xs.length.toInt32) := hx.length_eval hb
  have hv := Cond.le_ints hev (show (Term.int 2048).eval args s none [] s = some (.int 2048) from rfl)
  have hd : xs.length.toInt32 ≤ 2048 := by
    simpa [Cond.before, Cond.holds, hv] using hle
  have hN : xs.length ≤ 2048 := (Int32.ofNat_le_ofNat hsm (by decide)).mp (show Int32.ofNat xs.length ≤ Int32.ofNat 2048 from hd)
  exact ⟨b, xs, Cond.one_arg hc (show args[0]? = some (.ref b) from hb), hx, hN, h⟩
theorem lw_comes (l : Launch) (hl0 : l.stackTraces = false) : Comes l x (Jvm.Cond.code x code maxLocals ret :: tables_1) room_1 (fun tb e args s => Calls_1 tb e args s ∧ rest_1 tb e args s ∧ Pre_1 tb e args s)
    (fun _ _ args s o t => lw_Q args s o t) := by
  intro p e ha hc hk s m args below hf hfit hheap happ hpre
  obtain ⟨b, xs, hP⟩ := lw_pre_spec hpre.2.2 hpre.2.1
  obtain ⟨k, o, h1, h2, h3, hQ⟩ := lw_walk l hl0 b xs p e ha hc hk s m args below hf ((Spec.applies_iff_loose hf).mp happ).1 hP trivial
  exact ⟨k, o, h1, h2, h3, hQ⟩
theorem lw_frame {s t : State} {o : Outcome} {args : Array Value} (h : Framed s o t [] 601024 7293034) :
    Framed s o t (fieldLocs frame_1_writes args s ++ arrayLocs frame_1_arrays args s ++ staticLocs frame_1_statics s) 601024 7293034 := h
theorem lw_limb (L : Cond) (hL : ∀ (args : Array Value) (s t : State), L.after args s (.returned (some (.int 1))) t = true) :
    ArmFor flags0 classFile x code maxLocals ret World_1 tables_1 room_1 Calls_1 rest_1 Pre_1
      (fun tb e a s o t => postC L tb e a s o t ∧ Framed s o t (fieldLocs frame_1_writes a s ++ arrayLocs frame_1_arrays a s ++ staticLocs frame_1_statics s) 601024 7293034) := by
  intro l hfl _ _ p e ha hc hk s m args below hf hfit hheap happ hpre
  obtain ⟨k, o, h1, h2, h3, rfl, hF⟩ := lw_comes l (by unfold Launch.stackTraces; rw [hfl]; decide +kernel) p e ha hc hk s m args below hf hfit hheap happ hpre
  exact ⟨k, _, h1, h2, h3, hL args s _, lw_frame hF⟩
theorem i_vc : Claimed_1_1 ∧ Claimed_1_2 := ⟨lw_limb limb_1_1 (fun args s t => by simp [limb_1_1, Cond.after, Cond.holds, Cond.value]), lw_limb limb_1_2 (fun args s t => Cond.after_iff.mpr (by
  first | (rw [show limb_1_2 = Cond.eq .result (.int 1) from rfl, Cond.eq_ints (x := 1) (y := 1) rfl rfl]; simp; done) | (simp [limb_1_2, Cond.value, Term.eval]; done)))⟩
