/-! THE ABSTRACT MACHINE IS SOUND, instruction by instruction -/
theorem am_cat (E : aE) (v : Value) : (am_tv E v).category = v.category := by cases v <;> rfl
theorem am_tvI {E : aE} {v : Value} (h : am_isI v = true) : ∃ x, am_tv E v = .int x := by
  cases v <;> first | exact ⟨_, rfl⟩ | cases h
theorem am_tvL {E : aE} {v : Value} (h : am_isL v = true) : ∃ x, am_tv E v = .long x := by
  cases v <;> first | exact ⟨_, rfl⟩ | cases h
theorem am_tvR {v : Value} (h : am_isR v = true) : ∃ k, v = .ref k := by
  cases v <;> first | exact ⟨_, rfl⟩ | cases h
theorem am_look_mem {α : Type} : ∀ {l : List (Nat × α)} {k : Nat} {b : α}, am_look l k = some b → (k, b) ∈ l
  | [], _, _, h => by cases h
  | a :: t, k, b, h => by
    unfold am_look at h
    split at h
    · rename_i h9
      cases h
      have : a.1 = k := Nat.eq_of_beq_eq_true h9
      subst this
      exact List.mem_cons_self
    · exact List.mem_cons_of_mem _ (am_look_mem h)
theorem am_look2_mem {α : Type} : ∀ {l : List (Nat × Nat × α)} {o k : Nat} {b : α}, am_look2 l o k = some b → (o, k, b) ∈ l
  | [], _, _, _, h => by cases h
  | a :: t, o, k, b, h => by
    unfold am_look2 at h
    split at h
    · rename_i h9
      cases h
      simp only [Bool.and_eq_true] at h9
      have h1 : a.1 = o := Nat.eq_of_beq_eq_true h9.1
      have h2 : a.2.1 = k := Nat.eq_of_beq_eq_true h9.2
      subst h1; subst h2
      exact List.mem_cons_self
    · exact List.mem_cons_of_mem _ (am_look2_mem h)
def am_lm (E : aE) (L : aL) : List (Nat × Value) := L.map (fun q => (q.1, am_tv E q.2))
theorem am_lm_at {E : aE} {L : aL} {ls : Array Slot} {nL : Nat} (hl : lv_has ls nL (am_lm E L)) {k : Nat} {v : Value} (h : am_look L k = some v) : ls[k]? = some (.val (am_tv E v)) :=
  hl.2.2 (k, am_tv E v) (List.mem_map.mpr ⟨(k, v), am_look_mem h, rfl⟩)
theorem am_put_lm (E : aE) (L : aL) (i : Nat) (v : Value) : (i, am_tv E v) :: (am_lm E L).filter (fun q => !(q.1 == i) && !(q.1 + 1 == i && q.2.category == 2)) = am_lm E (am_put L i v) := by
  unfold am_put am_lm
  rw [List.map_cons, List.filter_map]
  congr 3
  funext q
  simp only [Function.comp, am_cat]
def am_aty : Nat → FieldType := fun t => match t with
  | 0 => .int
  | 1 => .boolean
  | 2 => .long
  | _ => .object RX4
abbrev am_tys (dA : Nat → ClassId) : List (ClassId × FieldType) := [(dA 0, .int), (dA 1, .boolean), (dA 2, .long), (dA 3, .object RX4)]
abbrev am_A (B : Nat) : Nat → Prop := fun q => B ≤ q
/-- the constants of type String -/
def am_GS (B : Nat) (E : aE) (U : State) : Prop := va_Z "java/lang/String" "COMPACT_STRINGS" "Z" (.int 1) (am_A B) U U.heap ∧ (∀ r ∈ am_st, vk_R (am_R r.1) r.2.1 (am_sx r.2.2) (E.1 (1000000 + r.2.2)) U) ∧
  ∃ adV : Nat → Nat, ∀ i, i < am_sn → va_O "java/lang/String" (E.1 (1000000 + i)) (am_A B) U U.heap ∧ va_OF "java/lang/String" "coder" "B" (.int 0) (E.1 (1000000 + i)) (am_A B) U U.heap ∧ va_OF "java/lang/String" "value" "[B" (.ref (adV i)) (E.1 (1000000 + i)) (am_A B) U U.heap ∧
    va_T .byte (adV i) (am_sl i) (fun j => .int ((am_sB.getD i []).getD j 0)) (am_A B) U U.heap
/-- what is said of symbols is true of what they stand for -/
def am_Yv (E : aE) (q : Instr × Value × Value × Value) : Prop := (q.2.2.1 = .null ∧ ∀ T, am_pure q.1 (am_tv E q.2.1 :: T) = some (am_tv E q.2.2.2 :: T)) ∨ (q.2.2.1 ≠ .null ∧ ∀ T, am_pure q.1 (am_tv E q.2.1 :: am_tv E q.2.2.1 :: T) = some (am_tv E q.2.2.2 :: T))
def am_Ov (E : aE) (q : ClassFile.Cond × Value × Value × Bool) : Prop := ∃ x y : Int32, am_tv E q.2.1 = .int x ∧ am_tv E q.2.2.1 = .int y ∧ am_cnd q.1 x y = q.2.2.2
def am_Yo (E : aE) (xs : aX) : Prop := (∀ q ∈ xs.2.1, am_Yv E q) ∧ ∀ q ∈ xs.2.2, am_Ov E q
/-- the ground: the tables, and what lies below B -/
def am_G (B : Nat) (D : va_G) (dA : Nat → ClassId) (E : aE) (xs : aX) (b : Nat) (U : State) : Prop :=
  (∀ w, am_in w → ∀ a, w.before a U = true) ∧ va_K D vwCl (am_tys dA) U ∧ va_AO RX4 U ∧
  vx_Zq Bundle.tN "UNASSIGNED_STACK" Bundle.steD (am_A B) U U.heap ∧ vx_Zq Bundle.tN "SUPPRESSED_SENTINEL" Bundle.listD (am_A B) U U.heap ∧
  (∃ xr : Nat → Int32, va_X b xs.1.length xr U U.heap ∧ ∀ (j : Nat) (v : Value), xs.1[j]? = some v → am_tv E v = .int (xr j)) ∧ b < B ∧
  (∀ k, k < 1000000 → E.1 k = B + k) ∧ E.1 2000000 = b ∧ (∀ x y, x < 4 → y < 4 → x ≠ y → va_Nc (am_xn x) (am_xn y) U) ∧ am_GS B E U ∧ am_Yo E xs ∧ va_Zq "jdk/internal/util/Preconditions" "SIOOBE_FORMATTER" "Ljava/util/function/BiFunction;" (am_A B) U U.heap
/-- what the abstract cell c says of the cell at a -/
def am_ok (D : va_G) (dA : Nat → ClassId) (E : aE) (a : Nat) (c : aC) (H : Heap) : Prop := match c with
  | (true, tk, l) => tk < 4 ∧ H[a]? = some (arrV (dA tk) l.length (fun j => am_tv E (l.getD j .null)))
  | (false, ci, fs) => ∃ r : vw_C, vwCl[ci]? = some r ∧ r.2.2 = fs.length ∧ t_OB a (D.1 ci) r.2.2 (D.2 ci) H (fun j => am_tv E (fs.getD j .null))
theorem am_ok.kept {D : va_G} {dA : Nat → ClassId} {E : aE} {a : Nat} {c : aC} {H H1 : Heap} (h : am_ok D dA E a c H) (hq : H1[a]? = H[a]?) : am_ok D dA E a c H1 := by
  obtain ⟨b, n, l⟩ := c
  cases b with
  | true => exact ⟨h.1, hq.trans h.2⟩
  | false =>
    obtain ⟨r, h1, h2, h3⟩ := h
    exact ⟨r, h1, h2, h3.kept hq⟩
def am_Rel (B : Nat) (D : va_G) (dA : Nat → ClassId) (E : aE) (h : aH) (H : Heap) : Prop :=
  H.size = B + h.length ∧ ∀ (k : Nat) (c : aC), h[k]? = some (some c) → am_ok D dA E (B + k) c H
theorem am_get_ok {h : aH} {k : Nat} {c : aC} (hg : am_get h k = some c) : k < 1000000 ∧ h[k]? = some (some c) := by
  unfold am_get at hg
  split at hg
  · rename_i h9
    split at hg
    · rename_i h8
      cases hg
      exact ⟨by simpa using h9, h8⟩
    · cases hg
  · cases hg
theorem am_Rel.set {B : Nat} {D : va_G} {dA : Nat → ClassId} {E : aE} {h : aH} {H H1 : Heap} (hR : am_Rel B D dA E h H) {k : Nat} {c c' : aC} (hk : h[k]? = some (some c)) (hz : H1.size = H.size) (ho : ∀ q, q ≠ B + k → H1[q]? = H[q]?) (hc : am_ok D dA E (B + k) c' H1) :
    am_Rel B D dA E (h.set k (some c')) H1 := by
  have hl := (List.getElem?_eq_some_iff.mp hk).1
  refine ⟨by rw [hz, hR.1, List.length_set], fun j d hj => ?_⟩
  by_cases hjk : j = k
  · subst hjk
    rw [List.getElem?_set_self hl] at hj
    cases hj
    exact hc
  · rw [List.getElem?_set_ne (Ne.symm hjk)] at hj
    exact (hR.2 j d hj).kept (ho _ (by omega))
theorem am_Rel.push {B : Nat} {D : va_G} {dA : Nat → ClassId} {E : aE} {h : aH} {H H1 : Heap} (hR : am_Rel B D dA E h H) {c : Option aC} (hz : H1.size = H.size + 1) (ho : ∀ q, q < H.size → H1[q]? = H[q]?) (hc : ∀ c', c = some c' → am_ok D dA E (B + h.length) c' H1) :
    am_Rel B D dA E (h ++ [c]) H1 := by
  refine ⟨by rw [hz, hR.1, List.length_append]; rfl, fun j d hj => ?_⟩
  by_cases hl : j < h.length
  · rw [List.getElem?_append_left hl] at hj
    exact (hR.2 j d hj).kept (ho _ (by rw [hR.1]; omega))
  · rw [List.getElem?_append_right (by omega)] at hj
    have h1 : j - h.length < 1 := (List.getElem?_eq_some_iff.mp hj).1
    have h2 : j = h.length := by omega
    subst h2
    rw [Nat.sub_self] at hj
    exact hc d (Option.some.inj hj)
/-- the method at work -/
def am_Cx (r : aM) (B : Nat) (D : va_G) (dA : Nat → ClassId) (E : aE) (xs : aX) (b : Nat) (p : Program) (l : Launch) (s : State) (m : MethodId) (meth : Method) (c : Code) : Prop :=
  p.tables.exec = Jvm.exec ∧ c.code = r.2.1 ∧ c.maxLocals = r.2.2.1 ∧ meth.sig.returnType = r.2.2.2.1 ∧ meth.locks = false ∧ c.exceptionTable.toList = am_tb r.2.2.2.2.2.1 ∧ s.vm.findClass (am_R r.2.2.2.2.1) = some m.cls ∧ meth.name = r.1.name ∧ l.stackTraces = false ∧ am_okI r ∧ am_G B D dA E xs b s ∧ B ≤ s.heap.size
section AmSound
variable {p : Program} {l : Launch} {e : Env} {R : Room} {s : State} {m : MethodId} {args : Array Value} {below : List Frame} {meth : Method} {c : Code} {H : Heap} {locs : List Loc} {cells slots : Nat} {Q : State → Prop}
variable {r : aM} {B : Nat} {D : va_G} {dA : Nat → ClassId} {E : aE} {xs : aX} {b : Nat} {pc : Nat} {ls : Array Slot} {L : aL} {S : List Value} {h : aH}
theorem am_ii_ok {f : Int32 → Int32 → Int32} {S' : List Value} (h : am_ii f S = some S') : ∃ x y T, S = .int y :: .int x :: T ∧ S' = .int (f x y) :: T := by
  unfold am_ii at h
  split at h
  · cases h; exact ⟨_, _, _, rfl, rfl⟩
  · cases h
theorem am_ll_ok {f : Int64 → Int64 → Int64} {S' : List Value} (h : am_ll f S = some S') : ∃ x y T, S = .long y :: .long x :: T ∧ S' = .long (f x y) :: T := by
  unfold am_ll at h
  split at h
  · cases h; exact ⟨_, _, _, rfl, rfl⟩
  · cases h
theorem am_li_ok {f : Int64 → Int32 → Int64} {S' : List Value} (h : am_li f S = some S') : ∃ x y T, S = .int y :: .long x :: T ∧ S' = .long (f x y) :: T := by
  unfold am_li at h
  split at h
  · cases h; exact ⟨_, _, _, rfl, rfl⟩
  · cases h
set_option maxHeartbeats 1000000 in
theorem am_pure_ok (hx : p.tables.exec = Jvm.exec) (hb : c.code = r.2.1) {i : Instr} {S' : List Value} (h : am_pure i S = some S') (hd : decode r.2.1 pc = .ok (i, am_ilen i))
    (k : W p l e R s m args below meth c H locs cells slots Q (F0 m (pc + am_ilen i) ls (S'.map (am_tv E)))) : W p l e R s m args below meth c H locs cells slots Q (F0 m pc ls (S.map (am_tv E))) := by
  cases i <;> try (cases h; done)
  case iconst n => cases h; exact lv_iconst hx hb hd rfl k
  case bipush n => cases h; exact lv_bipush hx hb hd rfl k
  case sipush n => cases h; exact lv_sipush hx hb hd rfl k
  case iadd => obtain ⟨x, y, T, rfl, rfl⟩ := am_ii_ok h; exact lv_iadd hx hb hd k
  case isub => obtain ⟨x, y, T, rfl, rfl⟩ := am_ii_ok h; exact lv_isub hx hb hd k
  case imul => obtain ⟨x, y, T, rfl, rfl⟩ := am_ii_ok h; exact lv_imul hx hb hd k
  case iand => obtain ⟨x, y, T, rfl, rfl⟩ := am_ii_ok h; exact lv_iand hx hb hd k
  case ior => obtain ⟨x, y, T, rfl, rfl⟩ := am_ii_ok h; exact lv_ior hx hb hd k
  case ishl => obtain ⟨x, y, T, rfl, rfl⟩ := am_ii_ok h; exact lv_ishl hx hb hd k
  case ishr => obtain ⟨x, y, T, rfl, rfl⟩ := am_ii_ok h; exact lv_ishr hx hb hd k
  case land => obtain ⟨x, y, T, rfl, rfl⟩ := am_ll_ok h; exact lv_land hx hb hd k
  case lor => obtain ⟨x, y, T, rfl, rfl⟩ := am_ll_ok h; exact lv_lor hx hb hd k
  case lshl => obtain ⟨x, y, T, rfl, rfl⟩ := am_li_ok h; exact lv_lshl hx hb hd rfl k
  case lshr => obtain ⟨x, y, T, rfl, rfl⟩ := am_li_ok h; exact lv_lshr hx hb hd rfl k
  case ineg =>
    change am_neg S = some S' at h
    unfold am_neg at h
    split at h
    · cases h; exact lv_ineg hx hb hd k
    · cases h
  case i2l =>
    change am_i2l S = some S' at h
    unfold am_i2l at h
    split at h
    · cases h; exact lv_i2l hx hb hd rfl k
    · cases h
  case l2i =>
    change am_l2i S = some S' at h
    unfold am_l2i at h
    split at h
    · cases h; exact lv_l2i hx hb hd rfl k
    · cases h
  case lcmp =>
    change am_lcmp S = some S' at h
    unfold am_lcmp at h
    split at h
    · cases h; exact W.lcmp hx hb hd k
    · cases h
  case dup =>
    change am_dup S = some S' at h
    unfold am_dup at h
    split at h
    · split at h
      · rename_i h9
        cases h
        exact lv_dup hx hb hd (by rw [am_cat]; exact Nat.eq_of_beq_eq_true h9) k
      · cases h
    · cases h
  case pop =>
    change am_pop S = some S' at h
    unfold am_pop at h
    split at h
    · split at h
      · rename_i h9
        cases h
        exact lv_pop hx hb hd (by rw [am_cat]; exact Nat.eq_of_beq_eq_true h9) k
      · cases h
    · cases h
  case dup2 =>
    change am_dup2 S = some S' at h
    unfold am_dup2 at h
    split at h
    · split at h
      · rename_i h9
        cases h
        simp only [Bool.and_eq_true] at h9
        exact lv_dup2_11 hx hb hd (by rw [am_cat]; exact Nat.eq_of_beq_eq_true h9.1) (by rw [am_cat]; exact Nat.eq_of_beq_eq_true h9.2) k
      · cases h
    · cases h
theorem am_go_ok {t : Bool} {off : Int} {q : Nat × List Value} (h : am_go t pc off S = some q) : ∃ g : Nat, (pc : Int) + off = (g : Int) ∧ q = (bif t then g else pc + 3, S) := by
  unfold am_go at h
  split at h
  · rename_i t9 h9
    cases h
    refine ⟨t9, ?_, rfl⟩
    unfold am_tgt at h9
    split at h9
    · rename_i h8; cases h9; exact h8
    · cases h9
  · cases h
theorem am_if1 (hx : p.tables.exec = Jvm.exec) (hb : c.code = r.2.1) {cd : ClassFile.Cond} {off : Int} {x : Int32} {T : List Value} {g : Nat} (hd : decode r.2.1 pc = .ok (.ifCond cd off, 3)) (h2 : (pc : Int) + off = (g : Int))
    (k : W p l e R s m args below meth c H locs cells slots Q (F0 m (bif am_cnd cd x 0 then g else pc + 3) ls T)) : W p l e R s m args below meth c H locs cells slots Q (F0 m pc ls (.int x :: T)) := by
  cases cd
  · exact lv_if_eq hx hb hd h2 (fun h9 => by rw [show am_cnd .eq _ 0 = true from decide_eq_true h9] at k; exact k) (fun h9 => by rw [show am_cnd .eq _ 0 = false from decide_eq_false h9] at k; exact k)
  · exact lv_if_ne hx hb hd h2 (fun h9 => by rw [show am_cnd .ne _ 0 = true from decide_eq_true h9] at k; exact k) (fun h9 => by rw [show am_cnd .ne _ 0 = false from decide_eq_false (fun q => q h9)] at k; exact k)
  · exact lv_if_lt hx hb hd h2 (fun h9 => by rw [show am_cnd .lt _ 0 = true from decide_eq_true h9] at k; exact k) (fun h9 => by rw [show am_cnd .lt _ 0 = false from decide_eq_false h9] at k; exact k)
  · exact lv_if_ge hx hb hd h2 (fun h9 => by rw [show am_cnd .ge _ 0 = true from decide_eq_true h9] at k; exact k) (fun h9 => by rw [show am_cnd .ge _ 0 = false from decide_eq_false h9] at k; exact k)
  · exact lv_if_gt hx hb hd h2 (fun h9 => by rw [show am_cnd .gt _ 0 = true from decide_eq_true h9] at k; exact k) (fun h9 => by rw [show am_cnd .gt _ 0 = false from decide_eq_false h9] at k; exact k)
  · exact lv_if_le hx hb hd h2 (fun h9 => by rw [show am_cnd .le _ 0 = true from decide_eq_true h9] at k; exact k) (fun h9 => by rw [show am_cnd .le _ 0 = false from decide_eq_false h9] at k; exact k)
theorem am_if2 (hx : p.tables.exec = Jvm.exec) (hb : c.code = r.2.1) {cd : ClassFile.Cond} {off : Int} {x y : Int32} {T : List Value} {g : Nat} (hd : decode r.2.1 pc = .ok (.if_icmp cd off, 3)) (h2 : (pc : Int) + off = (g : Int))
    (k : W p l e R s m args below meth c H locs cells slots Q (F0 m (bif am_cnd cd x y then g else pc + 3) ls T)) : W p l e R s m args below meth c H locs cells slots Q (F0 m pc ls (.int y :: .int x :: T)) := by
  cases cd
  · exact lv_icmp_eq hx hb hd h2 (fun h9 => by rw [show am_cnd .eq _ _ = true from decide_eq_true h9] at k; exact k) (fun h9 => by rw [show am_cnd .eq _ _ = false from decide_eq_false h9] at k; exact k)
  · exact lv_icmp_ne hx hb hd h2 (fun h9 => by rw [show am_cnd .ne _ _ = true from decide_eq_true h9] at k; exact k) (fun h9 => by rw [show am_cnd .ne _ _ = false from decide_eq_false (fun q => q h9)] at k; exact k)
  · exact lv_icmp_lt hx hb hd h2 (fun h9 => by rw [show am_cnd .lt _ _ = true from decide_eq_true h9] at k; exact k) (fun h9 => by rw [show am_cnd .lt _ _ = false from decide_eq_false h9] at k; exact k)
  · exact lv_icmp_ge hx hb hd h2 (fun h9 => by rw [show am_cnd .ge _ _ = true from decide_eq_true h9] at k; exact k) (fun h9 => by rw [show am_cnd .ge _ _ = false from decide_eq_false h9] at k; exact k)
  · exact lv_icmp_gt hx hb hd h2 (fun h9 => by rw [show am_cnd .gt _ _ = true from decide_eq_true h9] at k; exact k) (fun h9 => by rw [show am_cnd .gt _ _ = false from decide_eq_false h9] at k; exact k)
  · exact lv_icmp_le hx hb hd h2 (fun h9 => by rw [show am_cnd .le _ _ = true from decide_eq_true h9] at k; exact k) (fun h9 => by rw [show am_cnd .le _ _ = false from decide_eq_false h9] at k; exact k)
theorem am_fo_mem : ∀ {O : List (ClassFile.Cond × Value × Value × Bool)} {c : ClassFile.Cond} {a b : Value} {t : Bool}, am_fo O c a b = some t → (c, a, b, t) ∈ O
  | [], _, _, _, _, h => by cases h
  | q :: u, c, a, b, t, h => by
    unfold am_fo at h
    split at h
    · rename_i h9
      cases h
      simp only [Bool.and_eq_true, decide_eq_true_eq] at h9
      obtain ⟨⟨h1, h2⟩, h3⟩ := h9
      subst h1; subst h2; subst h3
      exact List.mem_cons_self
    · exact List.mem_cons_of_mem _ (am_fo_mem h)
theorem am_fy_mem : ∀ {Y : List (Instr × Value × Value × Value)} {i : Instr} {a b v : Value}, am_fy Y i a b = some v → (i, a, b, v) ∈ Y
  | [], _, _, _, _, h => by cases h
  | q :: u, i, a, b, t, h => by
    unfold am_fy at h
    split at h
    · rename_i h9
      cases h
      simp only [Bool.and_eq_true, decide_eq_true_eq] at h9
      obtain ⟨⟨h1, h2⟩, h3⟩ := h9
      subst h1; subst h2; subst h3
      exact List.mem_cons_self
    · exact List.mem_cons_of_mem _ (am_fy_mem h)
set_option maxHeartbeats 1000000 in
theorem am_obr_ok (hY : am_Yo E xs) (hx : p.tables.exec = Jvm.exec) (hb : c.code = r.2.1) {i : Instr} {len : Nat} {q : Nat × List Value} (h : am_obr xs.2.2 i pc S = some q) (hd : decode r.2.1 pc = .ok (i, len)) (hlen : len = am_ilen i ∨ ∃ d lo hi offs, i = .tableswitch d lo hi offs)
    (k : W p l e R s m args below meth c H locs cells slots Q (F0 m q.1 ls (q.2.map (am_tv E)))) : W p l e R s m args below meth c H locs cells slots Q (F0 m pc ls (S.map (am_tv E))) := by
  cases i <;> try (cases h; done)
  case ifCond cd off =>
    have hlen : len = 3 := by rcases hlen with h9 | ⟨_, _, _, _, h9⟩; exact h9; cases h9
    subst hlen
    change am_ob1 xs.2.2 cd off pc S = some q at h
    unfold am_ob1 at h
    split at h
    · split at h
      · rename_i t ht
        obtain ⟨g, h2, rfl⟩ := am_go_ok h
        obtain ⟨x, y, v1, v2, v3⟩ := hY.2 _ (am_fo_mem ht)
        dsimp only at v1 v2 v3
        cases v2
        rw [List.map_cons, v1]
        refine am_if1 hx hb hd h2 ?_
        rw [v3]; exact k
      · cases h
    · cases h
  case if_icmp cd off =>
    have hlen : len = 3 := by rcases hlen with h9 | ⟨_, _, _, _, h9⟩; exact h9; cases h9
    subst hlen
    change am_ob2 xs.2.2 cd off pc S = some q at h
    unfold am_ob2 at h
    split at h
    · split at h
      · rename_i t ht
        obtain ⟨g, h2, rfl⟩ := am_go_ok h
        obtain ⟨x, y, v1, v2, v3⟩ := hY.2 _ (am_fo_mem ht)
        dsimp only at v1 v2 v3
        rw [List.map_cons, List.map_cons, v1, v2]
        refine am_if2 hx hb hd h2 ?_
        rw [v3]; exact k
      · cases h
    · cases h
  case tableswitch d lo hi offs =>
    change am_osw xs.2.2 d lo hi pc S = some q at h
    unfold am_osw at h
    split at h
    · split at h
      · rename_i hb9
        simp only [Bool.and_eq_true, decide_eq_true_eq] at hb9
        split at h
        · rename_i ht
          obtain ⟨g, h2, rfl⟩ := am_go_ok h
          obtain ⟨x, y, v1, v2, v3⟩ := hY.2 _ (am_fo_mem ht)
          dsimp only at v1 v2 v3
          cases v2
          have h8 : x < Int32.ofInt lo := of_decide_eq_true v3
          rw [Int32.lt_iff_toInt_lt, hb9.1] at h8
          rw [List.map_cons, v1]
          exact lv_tableOut hx hb hd (Or.inl h8) h2 k
        · split at h
          · rename_i ht
            obtain ⟨g, h2, rfl⟩ := am_go_ok h
            obtain ⟨x, y, v1, v2, v3⟩ := hY.2 _ (am_fo_mem ht)
            dsimp only at v1 v2 v3
            cases v2
            have h8 : Int32.ofInt hi < x := of_decide_eq_true v3
            rw [Int32.lt_iff_toInt_lt, hb9.2] at h8
            rw [List.map_cons, v1]
            exact lv_tableOut hx hb hd (Or.inr h8) h2 k
          · cases h
      · cases h
    · cases h
theorem am_tv_id (v : Value) : am_tv (fun k => k, fun _ => 0, fun _ => 0) (am_tv E v) = am_tv E v := by cases v <;> rfl
theorem am_map_id (T : List Value) : (T.map (am_tv E)).map (am_tv (fun k => k, fun _ => 0, fun _ => 0)) = T.map (am_tv E) := by
  rw [List.map_map]
  apply List.map_congr_left
  intro v _
  exact am_tv_id v
theorem am_sym_ok (hY : am_Yo E xs) (hx : p.tables.exec = Jvm.exec) (hb : c.code = r.2.1) {i : Instr} {S' : List Value} (h : am_sym xs.2.1 i S = some S') (hd : decode r.2.1 pc = .ok (i, am_ilen i))
    (k : W p l e R s m args below meth c H locs cells slots Q (F0 m (pc + am_ilen i) ls (S'.map (am_tv E)))) : W p l e R s m args below meth c H locs cells slots Q (F0 m pc ls (S.map (am_tv E))) := by
  have key : am_pure i (S.map (am_tv E)) = some (S'.map (am_tv E)) := by
    unfold am_sym at h
    split at h
    · rename_i h9
      cases h
      unfold am_sym2 at h9
      split at h9
      · split at h9
        · cases h9
        · rename_i hn
          split at h9
          · rename_i ht
            cases h9
            rcases hY.1 _ (am_fy_mem ht) with ⟨h1, -⟩ | ⟨-, h2⟩
            · exact absurd h1 (of_decide_eq_false hn)
            · exact h2 _
          · cases h9
      · cases h9
    · unfold am_sym1 at h
      split at h
      · split at h
        · rename_i ht
          cases h
          rcases hY.1 _ (am_fy_mem ht) with ⟨-, h2⟩ | ⟨h1, -⟩
          · exact h2 _
          · exact absurd rfl h1
        · cases h
      · cases h
  have k' : W p l e R s m args below meth c H locs cells slots Q (F0 m (pc + am_ilen i) ls ((S'.map (am_tv E)).map (am_tv (fun k => k, fun _ => 0, fun _ => 0)))) := by rw [am_map_id]; exact k
  have h9 := am_pure_ok hx hb key hd k'
  rw [am_map_id] at h9
  exact h9
set_option maxHeartbeats 1000000 in
theorem am_br_ok (hx : p.tables.exec = Jvm.exec) (hb : c.code = r.2.1) {i : Instr} {len : Nat} {q : Nat × List Value} (h : am_br i pc S = some q) (hd : decode r.2.1 pc = .ok (i, len)) (hlen : len = am_ilen i ∨ ∃ d lo hi offs, i = .tableswitch d lo hi offs)
    (k : W p l e R s m args below meth c H locs cells slots Q (F0 m q.1 ls (q.2.map (am_tv E)))) : W p l e R s m args below meth c H locs cells slots Q (F0 m pc ls (S.map (am_tv E))) := by
  cases i <;> try (cases h; done)
  case goto off =>
    have hlen : len = 3 := by rcases hlen with h9 | ⟨_, _, _, _, h9⟩; exact h9; cases h9
    subst hlen
    obtain ⟨g, h2, rfl⟩ := am_go_ok h
    exact lv_goto hx hb hd h2 k
  case ifCond cd off =>
    have hlen : len = 3 := by rcases hlen with h9 | ⟨_, _, _, _, h9⟩; exact h9; cases h9
    subst hlen
    change am_b1 cd off pc S = some q at h
    unfold am_b1 at h
    split at h
    · obtain ⟨g, h2, rfl⟩ := am_go_ok h
      cases cd
      · exact lv_if_eq hx hb hd h2 (fun h9 => by rw [show am_cnd .eq _ 0 = true from decide_eq_true h9] at k; exact k) (fun h9 => by rw [show am_cnd .eq _ 0 = false from decide_eq_false h9] at k; exact k)
      · exact lv_if_ne hx hb hd h2 (fun h9 => by rw [show am_cnd .ne _ 0 = true from decide_eq_true h9] at k; exact k) (fun h9 => by rw [show am_cnd .ne _ 0 = false from decide_eq_false (fun q => q h9)] at k; exact k)
      · exact lv_if_lt hx hb hd h2 (fun h9 => by rw [show am_cnd .lt _ 0 = true from decide_eq_true h9] at k; exact k) (fun h9 => by rw [show am_cnd .lt _ 0 = false from decide_eq_false h9] at k; exact k)
      · exact lv_if_ge hx hb hd h2 (fun h9 => by rw [show am_cnd .ge _ 0 = true from decide_eq_true h9] at k; exact k) (fun h9 => by rw [show am_cnd .ge _ 0 = false from decide_eq_false h9] at k; exact k)
      · exact lv_if_gt hx hb hd h2 (fun h9 => by rw [show am_cnd .gt _ 0 = true from decide_eq_true h9] at k; exact k) (fun h9 => by rw [show am_cnd .gt _ 0 = false from decide_eq_false h9] at k; exact k)
      · exact lv_if_le hx hb hd h2 (fun h9 => by rw [show am_cnd .le _ 0 = true from decide_eq_true h9] at k; exact k) (fun h9 => by rw [show am_cnd .le _ 0 = false from decide_eq_false h9] at k; exact k)
    · cases h
  case if_icmp cd off =>
    have hlen : len = 3 := by rcases hlen with h9 | ⟨_, _, _, _, h9⟩; exact h9; cases h9
    subst hlen
    change am_b2 cd off pc S = some q at h
    unfold am_b2 at h
    split at h
    · obtain ⟨g, h2, rfl⟩ := am_go_ok h
      cases cd
      · exact lv_icmp_eq hx hb hd h2 (fun h9 => by rw [show am_cnd .eq _ _ = true from decide_eq_true h9] at k; exact k) (fun h9 => by rw [show am_cnd .eq _ _ = false from decide_eq_false h9] at k; exact k)
      · exact lv_icmp_ne hx hb hd h2 (fun h9 => by rw [show am_cnd .ne _ _ = true from decide_eq_true h9] at k; exact k) (fun h9 => by rw [show am_cnd .ne _ _ = false from decide_eq_false (fun q => q h9)] at k; exact k)
      · exact lv_icmp_lt hx hb hd h2 (fun h9 => by rw [show am_cnd .lt _ _ = true from decide_eq_true h9] at k; exact k) (fun h9 => by rw [show am_cnd .lt _ _ = false from decide_eq_false h9] at k; exact k)
      · exact lv_icmp_ge hx hb hd h2 (fun h9 => by rw [show am_cnd .ge _ _ = true from decide_eq_true h9] at k; exact k) (fun h9 => by rw [show am_cnd .ge _ _ = false from decide_eq_false h9] at k; exact k)
      · exact lv_icmp_gt hx hb hd h2 (fun h9 => by rw [show am_cnd .gt _ _ = true from decide_eq_true h9] at k; exact k) (fun h9 => by rw [show am_cnd .gt _ _ = false from decide_eq_false h9] at k; exact k)
      · exact lv_icmp_le hx hb hd h2 (fun h9 => by rw [show am_cnd .le _ _ = true from decide_eq_true h9] at k; exact k) (fun h9 => by rw [show am_cnd .le _ _ = false from decide_eq_false h9] at k; exact k)
    · cases h
  case tableswitch d lo hi offs =>
    change am_sw d lo hi offs pc S = some q at h
    unfold am_sw at h
    split at h
    · split at h
      · rename_i h9
        obtain ⟨g, h2, rfl⟩ := am_go_ok h
        exact lv_tableOut hx hb hd (of_decide_eq_true h9) h2 k
      · rename_i h9
        have h8 := of_decide_eq_false h9
        split at h
        · rename_i o ho
          obtain ⟨g, h2, rfl⟩ := am_go_ok h
          exact lv_tableIn hx hb hd (fun q => h8 (Or.inl q)) (fun q => h8 (Or.inr q)) ho h2 k
        · cases h
    · cases h
theorem am_chk_ok {t : Value → Bool} {o : Option Value} {v : Value} (h : am_chk t o = some v) : o = some v ∧ t v = true := by
  unfold am_chk at h
  split at h
  · split at h
    · rename_i h9; cases h; exact ⟨rfl, h9⟩
    · cases h
  · cases h
theorem am_ld_ok (hx : p.tables.exec = Jvm.exec) (hb : c.code = r.2.1) {nL : Nat} (hl : lv_has ls nL (am_lm E L)) {i : Instr} {v : Value} (h : am_ld i L = some v) (hd : decode r.2.1 pc = .ok (i, am_ilen i))
    (k : W p l e R s m args below meth c H locs cells slots Q (F0 m (pc + am_ilen i) ls (am_tv E v :: S.map (am_tv E)))) : W p l e R s m args below meth c H locs cells slots Q (F0 m pc ls (S.map (am_tv E))) := by
  cases i <;> try (cases h; done)
  case iload j =>
    obtain ⟨h1, h2⟩ := am_chk_ok h
    obtain ⟨x, hv⟩ := am_tvI (E := E) h2
    rw [hv] at k
    exact lv_iload hx hb hd (by rw [← hv]; exact am_lm_at hl h1) k
  case iload_n j =>
    obtain ⟨h1, h2⟩ := am_chk_ok h
    obtain ⟨x, hv⟩ := am_tvI (E := E) h2
    rw [hv] at k
    exact lv_iload_n hx hb hd rfl (by rw [← hv]; exact am_lm_at hl h1) k
  case aload j =>
    obtain ⟨h1, h2⟩ := am_chk_ok h
    obtain ⟨x, rfl⟩ := am_tvR h2
    exact lv_aload hx hb hd (am_lm_at hl h1) k
  case aload_n j =>
    obtain ⟨h1, h2⟩ := am_chk_ok h
    obtain ⟨x, rfl⟩ := am_tvR h2
    exact lv_aload_n hx hb hd rfl (am_lm_at hl h1) k
  case lload_n j =>
    obtain ⟨h1, h2⟩ := am_chk_ok h
    obtain ⟨x, hv⟩ := am_tvL (E := E) h2
    rw [hv] at k
    exact lv_lload_n hx hb hd rfl (by rw [← hv]; exact am_lm_at hl h1) k
theorem am_hd_ok {t : Value → Bool} {j : Nat} {q : Nat × Value × List Value} (h : am_hd t j S = some q) : S = q.2.1 :: q.2.2 ∧ q.1 = j ∧ t q.2.1 = true := by
  unfold am_hd at h
  split at h
  · split at h
    · rename_i h9; cases h; exact ⟨rfl, rfl, h9⟩
    · cases h
  · cases h
theorem am_sto_ok (hx : p.tables.exec = Jvm.exec) (hb : c.code = r.2.1) {nL : Nat} (hl : lv_has ls nL (am_lm E L)) {i : Instr} {q : Nat × Value × List Value} (h : am_sto i L S = some q) (hn : q.1 < nL) (hd : decode r.2.1 pc = .ok (i, am_ilen i))
    (k : ∀ ls' : Array Slot, lv_has ls' nL (am_lm E (am_put L q.1 q.2.1)) → W p l e R s m args below meth c H locs cells slots Q (F0 m (pc + am_ilen i) ls' (q.2.2.map (am_tv E)))) : W p l e R s m args below meth c H locs cells slots Q (F0 m pc ls (S.map (am_tv E))) := by
  have hp := am_put_lm E L q.1 q.2.1
  cases i <;> try (cases h; done)
  case istore j =>
    obtain ⟨h1, h2, h3⟩ := am_hd_ok h
    obtain ⟨x, hv⟩ := am_tvI (E := E) h3
    rw [h1, List.map_cons, hv]
    rw [hv] at hp
    subst h2
    exact lv_istore hx hb hd hl hn hp k
  case istore_n j =>
    obtain ⟨h1, h2, h3⟩ := am_hd_ok h
    obtain ⟨x, hv⟩ := am_tvI (E := E) h3
    rw [h1, List.map_cons, hv]
    rw [hv] at hp
    exact lv_istore_n hx hb hd h2.symm hl hn hp k
  case astore j =>
    obtain ⟨h1, h2, h3⟩ := am_hd_ok h
    obtain ⟨x, hv⟩ := am_tvR h3
    rw [h1, List.map_cons, hv]
    rw [hv] at hp
    subst h2
    exact lv_astore hx hb hd hl hn hp (by rw [← hv]; exact k)
  case astore_n j =>
    obtain ⟨h1, h2, h3⟩ := am_hd_ok h
    obtain ⟨x, hv⟩ := am_tvR h3
    rw [h1, List.map_cons, hv]
    rw [hv] at hp
    exact lv_astore_n hx hb hd h2.symm hl hn hp (by rw [← hv]; exact k)
  case iinc j n =>
    change am_inc j n S (am_look L j) = some q at h
    generalize h9 : am_look L j = o at h
    unfold am_inc at h
    split at h
    · rename_i x
      cases h
      obtain ⟨i9, hi9⟩ := List.getElem?_of_mem (List.mem_map.mpr ⟨_, am_look_mem h9, rfl⟩ : (j, am_tv E (.int x)) ∈ am_lm E L)
      exact lv_iinc hx hb hd hl hi9 rfl hn hp k
    · cases h
end AmSound
