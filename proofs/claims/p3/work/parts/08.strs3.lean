/-! String.charAt OF A CONSTANT, System.arraycopy: words (by program) -/
def am_okSc (r : Nat × Nat × Nat) : Prop := am_in (.methodLink (am_R r.1) r.2.1 yJ0_charAt_5068e)
theorem am_sr0 : am_okSc (7, 56, 0) := am_inP 589 (by decide +kernel) rfl
def am_sci_0 : List (Nat × Nat × Nat) := [(7, 56, 0)]
theorem am_sci_k0 : ∀ r ∈ am_sci_0, am_okSc r := List.forall_mem_cons.mpr ⟨am_sr0, fun _ h => absurd h List.not_mem_nil⟩
def am_sci : List (Nat × Nat × Nat) := am_sci_0
theorem am_sci_ok : ∀ r ∈ am_sci, am_okSc r := am_sci_k0
def am_okAc (r : Nat × Nat × Nat) : Prop := am_in (.methodLink (am_R r.1) r.2.1 arraycopyName)
theorem am_ac0 : am_okAc (0, 49, 0) := am_inP 854 (by decide +kernel) rfl
theorem am_ac1 : am_okAc (1, 44, 0) := am_inP 913 (by decide +kernel) rfl
def am_acT_0 : List (Nat × Nat × Nat) := [(0, 49, 0), (1, 44, 0)]
theorem am_acT_k0 : ∀ r ∈ am_acT_0, am_okAc r := List.forall_mem_cons.mpr ⟨am_ac0, List.forall_mem_cons.mpr ⟨am_ac1, fun _ h => absurd h List.not_mem_nil⟩⟩
def am_acT : List (Nat × Nat × Nat) := am_acT_0
theorem am_acT_ok : ∀ r ∈ am_acT, am_okAc r := am_acT_k0
theorem am_aN : am_in (.native arraycopyName) := am_inP 856 (by decide +kernel) rfl
theorem am_aS : am_in (.static arraycopyName) := am_inP 855 (by decide +kernel) rfl
theorem am_aI : am_in (.initialized "java/lang/System") := am_inP 23 (by decide +kernel) rfl
def RJ1 : String := "java/lang/StringLatin1"
def RJ3 : String := "jdk/internal/util/Preconditions"
theorem am_C0c : am_in (.code yJ0_charAt_5068e cJ0_charAt_5068e 2 (some .char)) := am_inP 592 (by decide +kernel) rfl
theorem dJ0_charAt_5068e_0 : decode cJ0_charAt_5068e 0 = .ok (.aload_n 0, 1) := by decide +kernel
theorem dJ0_charAt_5068e_1 : decode cJ0_charAt_5068e 1 = .ok (.invokevirtual 492, 3) := by decide +kernel
theorem dJ0_charAt_5068e_4 : decode cJ0_charAt_5068e 4 = .ok (.ifCond .eq 12, 3) := by decide +kernel
theorem dJ0_charAt_5068e_7 : decode cJ0_charAt_5068e 7 = .ok (.aload_n 0, 1) := by decide +kernel
theorem dJ0_charAt_5068e_8 : decode cJ0_charAt_5068e 8 = .ok (.getfield 9, 3) := by decide +kernel
theorem dJ0_charAt_5068e_11 : decode cJ0_charAt_5068e 11 = .ok (.iload_n 1, 1) := by decide +kernel
theorem dJ0_charAt_5068e_12 : decode cJ0_charAt_5068e 12 = .ok (.invokestatic 495, 3) := by decide +kernel
theorem dJ0_charAt_5068e_15 : decode cJ0_charAt_5068e 15 = .ok (.ireturn, 1) := by decide +kernel
theorem dJ0_charAt_5068e_16 : decode cJ0_charAt_5068e 16 = .ok (.aload_n 0, 1) := by decide +kernel
theorem dJ0_charAt_5068e_17 : decode cJ0_charAt_5068e 17 = .ok (.getfield 9, 3) := by decide +kernel
theorem dJ0_charAt_5068e_20 : decode cJ0_charAt_5068e 20 = .ok (.iload_n 1, 1) := by decide +kernel
theorem dJ0_charAt_5068e_21 : decode cJ0_charAt_5068e 21 = .ok (.invokestatic 498, 3) := by decide +kernel
theorem dJ0_charAt_5068e_24 : decode cJ0_charAt_5068e 24 = .ok (.ireturn, 1) := by decide +kernel
abbrev cJ0_isLatin1_aae02 : ByteArray := prog_19_method_154_code
def yJ0_isLatin1_aae02 : MethodName := ⟨RJ0, "isLatin1", "()Z"⟩
theorem am_ILc : am_in (.code yJ0_isLatin1_aae02 cJ0_isLatin1_aae02 1 (some .boolean)) := am_inP 596 (by decide +kernel) rfl
theorem dJ0_isLatin1_aae02_0 : decode cJ0_isLatin1_aae02 0 = .ok (.getstatic 38, 3) := by decide +kernel
theorem dJ0_isLatin1_aae02_3 : decode cJ0_isLatin1_aae02 3 = .ok (.ifCond .eq 14, 3) := by decide +kernel
theorem dJ0_isLatin1_aae02_6 : decode cJ0_isLatin1_aae02 6 = .ok (.aload_n 0, 1) := by decide +kernel
theorem dJ0_isLatin1_aae02_7 : decode cJ0_isLatin1_aae02 7 = .ok (.getfield 15, 3) := by decide +kernel
theorem dJ0_isLatin1_aae02_10 : decode cJ0_isLatin1_aae02 10 = .ok (.ifCond .ne 7, 3) := by decide +kernel
theorem dJ0_isLatin1_aae02_13 : decode cJ0_isLatin1_aae02 13 = .ok (.iconst 1, 1) := by decide +kernel
theorem dJ0_isLatin1_aae02_14 : decode cJ0_isLatin1_aae02 14 = .ok (.goto 4, 3) := by decide +kernel
theorem dJ0_isLatin1_aae02_17 : decode cJ0_isLatin1_aae02 17 = .ok (.iconst 0, 1) := by decide +kernel
theorem dJ0_isLatin1_aae02_18 : decode cJ0_isLatin1_aae02 18 = .ok (.ireturn, 1) := by decide +kernel
abbrev cJ1_charAt_3b067 : ByteArray := prog_20_method_2_code
def yJ1_charAt_3b067 : MethodName := ⟨RJ1, "charAt", "([BI)C"⟩
theorem am_LCc : am_in (.code yJ1_charAt_3b067 cJ1_charAt_3b067 2 (some .char)) := am_inP 599 (by decide +kernel) rfl
theorem dJ1_charAt_3b067_0 : decode cJ1_charAt_3b067 0 = .ok (.iload_n 1, 1) := by decide +kernel
theorem dJ1_charAt_3b067_1 : decode cJ1_charAt_3b067 1 = .ok (.aload_n 0, 1) := by decide +kernel
theorem dJ1_charAt_3b067_2 : decode cJ1_charAt_3b067 2 = .ok (.arraylength, 1) := by decide +kernel
theorem dJ1_charAt_3b067_3 : decode cJ1_charAt_3b067 3 = .ok (.invokestatic 9, 3) := by decide +kernel
theorem dJ1_charAt_3b067_6 : decode cJ1_charAt_3b067 6 = .ok (.aload_n 0, 1) := by decide +kernel
theorem dJ1_charAt_3b067_7 : decode cJ1_charAt_3b067 7 = .ok (.iload_n 1, 1) := by decide +kernel
theorem dJ1_charAt_3b067_8 : decode cJ1_charAt_3b067 8 = .ok (.baload, 1) := by decide +kernel
theorem dJ1_charAt_3b067_9 : decode cJ1_charAt_3b067 9 = .ok (.sipush 255, 3) := by decide +kernel
theorem dJ1_charAt_3b067_12 : decode cJ1_charAt_3b067 12 = .ok (.iand, 1) := by decide +kernel
theorem dJ1_charAt_3b067_13 : decode cJ1_charAt_3b067 13 = .ok (.i2c, 1) := by decide +kernel
theorem dJ1_charAt_3b067_14 : decode cJ1_charAt_3b067 14 = .ok (.ireturn, 1) := by decide +kernel
abbrev cJ0_checkIndex_df160 : ByteArray := prog_19_method_155_code
def yJ0_checkIndex_df160 : MethodName := ⟨RJ0, "checkIndex", "(II)V"⟩
theorem am_CIc : am_in (.code yJ0_checkIndex_df160 cJ0_checkIndex_df160 2 (none)) := am_inP 602 (by decide +kernel) rfl
theorem dJ0_checkIndex_df160_0 : decode cJ0_checkIndex_df160 0 = .ok (.iload_n 0, 1) := by decide +kernel
theorem dJ0_checkIndex_df160_1 : decode cJ0_checkIndex_df160 1 = .ok (.iload_n 1, 1) := by decide +kernel
theorem dJ0_checkIndex_df160_2 : decode cJ0_checkIndex_df160 2 = .ok (.getstatic 1053, 3) := by decide +kernel
theorem dJ0_checkIndex_df160_5 : decode cJ0_checkIndex_df160 5 = .ok (.invokestatic 1059, 3) := by decide +kernel
theorem dJ0_checkIndex_df160_8 : decode cJ0_checkIndex_df160 8 = .ok (.pop, 1) := by decide +kernel
theorem dJ0_checkIndex_df160_9 : decode cJ0_checkIndex_df160 9 = .ok (.return_, 1) := by decide +kernel
abbrev cJ3_checkIndex_8e157 : ByteArray := prog_25_method_11_code
def yJ3_checkIndex_8e157 : MethodName := ⟨RJ3, "checkIndex", "(IILjava/util/function/BiFunction;)I"⟩
theorem am_PCc : am_in (.code yJ3_checkIndex_8e157 cJ3_checkIndex_8e157 3 (some .int)) := am_inP 607 (by decide +kernel) rfl
theorem dJ3_checkIndex_8e157_0 : decode cJ3_checkIndex_8e157 0 = .ok (.iload_n 0, 1) := by decide +kernel
theorem dJ3_checkIndex_8e157_1 : decode cJ3_checkIndex_8e157 1 = .ok (.ifCond .lt 8, 3) := by decide +kernel
theorem dJ3_checkIndex_8e157_4 : decode cJ3_checkIndex_8e157 4 = .ok (.iload_n 0, 1) := by decide +kernel
theorem dJ3_checkIndex_8e157_5 : decode cJ3_checkIndex_8e157 5 = .ok (.iload_n 1, 1) := by decide +kernel
theorem dJ3_checkIndex_8e157_6 : decode cJ3_checkIndex_8e157 6 = .ok (.if_icmp .lt 10, 3) := by decide +kernel
theorem dJ3_checkIndex_8e157_9 : decode cJ3_checkIndex_8e157 9 = .ok (.aload_n 2, 1) := by decide +kernel
theorem dJ3_checkIndex_8e157_10 : decode cJ3_checkIndex_8e157 10 = .ok (.iload_n 0, 1) := by decide +kernel
theorem dJ3_checkIndex_8e157_11 : decode cJ3_checkIndex_8e157 11 = .ok (.iload_n 1, 1) := by decide +kernel
theorem dJ3_checkIndex_8e157_12 : decode cJ3_checkIndex_8e157 12 = .ok (.invokestatic 95, 3) := by decide +kernel
theorem dJ3_checkIndex_8e157_15 : decode cJ3_checkIndex_8e157 15 = .ok (.athrow, 1) := by decide +kernel
theorem dJ3_checkIndex_8e157_16 : decode cJ3_checkIndex_8e157 16 = .ok (.iload_n 0, 1) := by decide +kernel
theorem dJ3_checkIndex_8e157_17 : decode cJ3_checkIndex_8e157 17 = .ok (.ireturn, 1) := by decide +kernel
theorem am_C0i : am_in (.instanceMethod yJ0_charAt_5068e) := am_inP 590 (by decide +kernel) rfl
theorem am_C0s : am_in (.selects RJ0 yJ0_charAt_5068e yJ0_charAt_5068e) := am_inP 591 (by decide +kernel) rfl
theorem am_ILl : am_in (.methodLink RJ0 492 yJ0_isLatin1_aae02) := am_inP 593 (by decide +kernel) rfl
theorem am_ILi : am_in (.instanceMethod yJ0_isLatin1_aae02) := am_inP 594 (by decide +kernel) rfl
theorem am_ILs : am_in (.selects RJ0 yJ0_isLatin1_aae02 yJ0_isLatin1_aae02) := am_inP 595 (by decide +kernel) rfl
theorem am_LCl : am_in (.methodLink RJ0 495 yJ1_charAt_3b067) := am_inP 597 (by decide +kernel) rfl
theorem am_LCs : am_in (.static yJ1_charAt_3b067) := am_inP 598 (by decide +kernel) rfl
theorem am_CIl : am_in (.methodLink RJ1 9 yJ0_checkIndex_df160) := am_inP 600 (by decide +kernel) rfl
theorem am_CIs : am_in (.static yJ0_checkIndex_df160) := am_inP 601 (by decide +kernel) rfl
theorem am_PCl : am_in (.methodLink RJ0 1059 yJ3_checkIndex_8e157) := am_inP 605 (by decide +kernel) rfl
theorem am_PCs : am_in (.static yJ3_checkIndex_8e157) := am_inP 606 (by decide +kernel) rfl
theorem am_LCn : am_in (.initialized RJ1) := am_inP 19 (by decide +kernel) rfl
theorem am_PCn : am_in (.initialized RJ3) := am_inP 20 (by decide +kernel) rfl
theorem am_SF : am_in (.fieldLink RJ0 1053 "jdk/internal/util/Preconditions" "SIOOBE_FORMATTER" "Ljava/util/function/BiFunction;") := am_inP 603 (by decide +kernel) rfl
