/-! STRINGS AND OTHER WORDS (by program) -/
def am_sn : Nat := 33
def am_sx : Nat → String := fun i => (["<!--", "-->", "--", "--->", "<!DOCTYPE", "SYSTEM", "PUBLIC", "[", "]", "<!ELEMENT", "EMPTY", "ANY", "#PCDATA", ")", "*", "(", "<!ATTLIST", "CDATA", "IDREF", "ID", "NMTOKEN", "|", "#REQUIRED", "#IMPLIED", "#FIXED", "&#", "&lt;", "&amp;", "<!ENTITY", "\"", "&#", "/", "</"] : List String).getD i ""
def am_sl : Nat → Nat := fun i => ([4, 3, 2, 4, 9, 6, 6, 1, 1, 9, 5, 3, 7, 1, 1, 1, 9, 5, 5, 2, 7, 1, 9, 8, 6, 2, 4, 5, 8, 1, 2, 1, 2] : List Nat).getD i 0
def am_sB : List (List Int32) := [[60, 33, 45, 45], [45, 45, 62], [45, 45], [45, 45, 45, 62], [60, 33, 68, 79, 67, 84, 89, 80, 69], [83, 89, 83, 84, 69, 77], [80, 85, 66, 76, 73, 67], [91], [93], [60, 33, 69, 76, 69, 77, 69, 78, 84], [69, 77, 80, 84, 89], [65, 78, 89], [35, 80, 67, 68, 65, 84, 65], [41], [42], [40], [60, 33, 65, 84, 84, 76, 73, 83, 84], [67, 68, 65, 84, 65], [73, 68, 82, 69, 70], [73, 68], [78, 77, 84, 79, 75, 69, 78], [124], [35, 82, 69, 81, 85, 73, 82, 69, 68], [35, 73, 77, 80, 76, 73, 69, 68], [35, 70, 73, 88, 69, 68], [38, 35], [38, 108, 116, 59], [38, 97, 109, 112, 59], [60, 33, 69, 78, 84, 73, 84, 89], [34], [38, 35], [47], [60, 47]]
def am_st : List (Nat × Nat × Nat) := [(7, 74, 0), (7, 80, 1), (7, 82, 2), (7, 84, 3), (3, 58, 4), (3, 121, 5), (3, 126, 6), (3, 119, 7), (3, 69, 8), (3, 71, 9), (5, 15, 10), (5, 29, 11), (5, 38, 12), (5, 70, 13), (5, 79, 14), (5, 93, 15), (3, 76, 16), (3, 205, 17), (3, 207, 18), (3, 209, 19), (3, 211, 20), (3, 219, 21), (3, 221, 22), (3, 223, 23), (3, 225, 24), (7, 92, 25), (7, 97, 26), (7, 99, 27), (3, 81, 28), (3, 147, 29), (3, 149, 30), (8, 114, 31), (8, 65, 32)]
def am_okO (r : Nat × Nat × Nat) : Prop := am_in (.methodLink (am_R r.1) r.2.1 Lib.objectInit)
theorem am_o0 : am_okO (10, 3, 0) := am_inP 30 (by decide +kernel) rfl
theorem am_o1 : am_okO (7, 3, 0) := am_inP 38 (by decide +kernel) rfl
theorem am_o2 : am_okO (6, 3, 0) := am_inP 64 (by decide +kernel) rfl
theorem am_o3 : am_okO (9, 3, 0) := am_inP 101 (by decide +kernel) rfl
theorem am_o4 : am_okO (3, 3, 0) := am_inP 124 (by decide +kernel) rfl
theorem am_o5 : am_okO (4, 3, 0) := am_inP 131 (by decide +kernel) rfl
theorem am_o6 : am_okO (0, 3, 0) := am_inP 161 (by decide +kernel) rfl
theorem am_o7 : am_okO (5, 3, 0) := am_inP 217 (by decide +kernel) rfl
theorem am_o8 : am_okO (1, 3, 0) := am_inP 269 (by decide +kernel) rfl
theorem am_o9 : am_okO (8, 3, 0) := am_inP 313 (by decide +kernel) rfl
theorem am_o10 : am_okO (2, 3, 0) := am_inP 335 (by decide +kernel) rfl
theorem am_o11 : am_okO (11, 1, 0) := am_inP 1078 (by decide +kernel) rfl
def am_oiT_0 : List (Nat × Nat × Nat) := [(10, 3, 0), (7, 3, 0), (6, 3, 0), (9, 3, 0), (3, 3, 0), (4, 3, 0), (0, 3, 0), (5, 3, 0), (1, 3, 0), (8, 3, 0), (2, 3, 0), (11, 1, 0)]
theorem am_oiT_k0 : ∀ r ∈ am_oiT_0, am_okO r := List.forall_mem_cons.mpr ⟨am_o0, List.forall_mem_cons.mpr ⟨am_o1, List.forall_mem_cons.mpr ⟨am_o2, List.forall_mem_cons.mpr ⟨am_o3, List.forall_mem_cons.mpr ⟨am_o4, List.forall_mem_cons.mpr ⟨am_o5, List.forall_mem_cons.mpr ⟨am_o6, List.forall_mem_cons.mpr ⟨am_o7, List.forall_mem_cons.mpr ⟨am_o8, List.forall_mem_cons.mpr ⟨am_o9, List.forall_mem_cons.mpr ⟨am_o10, List.forall_mem_cons.mpr ⟨am_o11, fun _ h => absurd h List.not_mem_nil⟩⟩⟩⟩⟩⟩⟩⟩⟩⟩⟩⟩
def am_oiT : List (Nat × Nat × Nat) := am_oiT_0
theorem am_oiT_ok : ∀ r ∈ am_oiT, am_okO r := am_oiT_k0
theorem am_oI : am_in (.instanceMethod Lib.objectInit) := am_inP 31 (by decide +kernel) rfl
theorem am_oC : am_in (.code Lib.objectInit ⟨#[0xb1]⟩ 1 none) := am_inP 32 (by decide +kernel) rfl
def am_okSl (r : Nat × Nat × Nat) : Prop := am_in (.methodLink (am_R r.1) r.2.1 yJ0_length_8abf5)
theorem am_sq0 : am_okSl (7, 50, 0) := am_inP 579 (by decide +kernel) rfl
def am_sli_0 : List (Nat × Nat × Nat) := [(7, 50, 0)]
theorem am_sli_k0 : ∀ r ∈ am_sli_0, am_okSl r := List.forall_mem_cons.mpr ⟨am_sq0, fun _ h => absurd h List.not_mem_nil⟩
def am_sli : List (Nat × Nat × Nat) := am_sli_0
theorem am_sli_ok : ∀ r ∈ am_sli, am_okSl r := am_sli_k0
theorem am_s1 : am_in (.instanceMethod yJ0_length_8abf5) := am_inP 580 (by decide +kernel) rfl
theorem am_s2 : am_in (.selects RJ0 yJ0_length_8abf5 yJ0_length_8abf5) := am_inP 581 (by decide +kernel) rfl
theorem am_s3 : am_in (.initialized RJ0) := am_inP 18 (by decide +kernel) rfl
theorem am_s4 : am_in (.fieldLink RJ0 9 "java/lang/String" "value" "[B") := am_inP 1565 (by decide +kernel) rfl
theorem am_s5 : am_in (.methodLink RJ0 335 yJ0_coder_7d493) := am_inP 583 (by decide +kernel) rfl
theorem am_s6 : am_in (.instanceMethod yJ0_coder_7d493) := am_inP 584 (by decide +kernel) rfl
theorem am_s7 : am_in (.selects RJ0 yJ0_coder_7d493 yJ0_coder_7d493) := am_inP 585 (by decide +kernel) rfl
theorem am_s8 : am_in (.fieldLink RJ0 38 "java/lang/String" "COMPACT_STRINGS" "Z") := am_inP 587 (by decide +kernel) rfl
theorem am_s9 : am_in (.fieldLink RJ0 15 "java/lang/String" "coder" "B") := am_inP 1566 (by decide +kernel) rfl
theorem am_s10 : am_in (.code yJ0_length_8abf5 cJ0_length_8abf5 1 (some .int)) := am_inP 582 (by decide +kernel) rfl
theorem am_s11 : am_in (.code yJ0_coder_7d493 cJ0_coder_7d493 1 (some .byte)) := am_inP 586 (by decide +kernel) rfl
theorem dJ0_length_8abf5_0 : decode cJ0_length_8abf5 0 = .ok (.aload_n 0, 1) := by decide +kernel
theorem dJ0_length_8abf5_1 : decode cJ0_length_8abf5 1 = .ok (.getfield 9, 3) := by decide +kernel
theorem dJ0_length_8abf5_4 : decode cJ0_length_8abf5 4 = .ok (.arraylength, 1) := by decide +kernel
theorem dJ0_length_8abf5_5 : decode cJ0_length_8abf5 5 = .ok (.aload_n 0, 1) := by decide +kernel
theorem dJ0_length_8abf5_6 : decode cJ0_length_8abf5 6 = .ok (.invokevirtual 335, 3) := by decide +kernel
theorem dJ0_length_8abf5_9 : decode cJ0_length_8abf5 9 = .ok (.ishr, 1) := by decide +kernel
theorem dJ0_length_8abf5_10 : decode cJ0_length_8abf5 10 = .ok (.ireturn, 1) := by decide +kernel
theorem dJ0_coder_7d493_0 : decode cJ0_coder_7d493 0 = .ok (.getstatic 38, 3) := by decide +kernel
theorem dJ0_coder_7d493_3 : decode cJ0_coder_7d493 3 = .ok (.ifCond .eq 10, 3) := by decide +kernel
theorem dJ0_coder_7d493_6 : decode cJ0_coder_7d493 6 = .ok (.aload_n 0, 1) := by decide +kernel
theorem dJ0_coder_7d493_7 : decode cJ0_coder_7d493 7 = .ok (.getfield 15, 3) := by decide +kernel
theorem dJ0_coder_7d493_10 : decode cJ0_coder_7d493 10 = .ok (.goto 4, 3) := by decide +kernel
theorem dJ0_coder_7d493_13 : decode cJ0_coder_7d493 13 = .ok (.iconst 1, 1) := by decide +kernel
theorem dJ0_coder_7d493_14 : decode cJ0_coder_7d493 14 = .ok (.ireturn, 1) := by decide +kernel
theorem am_wI : am_in (.arrayClass .int) := am_inP 58 (by decide +kernel) rfl
theorem am_wZ : am_in (.arrayClass .boolean) := am_inP 1275 (by decide +kernel) rfl
theorem am_wJ : am_in (.arrayClass .long) := am_inP 1563 (by decide +kernel) rfl
