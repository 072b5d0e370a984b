/-! THE HEAP AT THE LAW'S LOOP as a function of its ints (f, by 100 times the cell and the field), its arrays (a, by the cell), the long of out; e exceptions lie behind (by program) -/
def am_ud {α : Type} (f : Nat → α) (k : Nat) (v : α) : Nat → α := fun j => bif Nat.beq j k then v else f j
theorem am_ud_eq {α : Type} (f : Nat → α) (k : Nat) (v : α) : am_ud f k v k = v := by simp [am_ud]
theorem am_ud_ne {α : Type} (f : Nat → α) {k j : Nat} (v : α) (h : j ≠ k) : am_ud f k v j = f j := by
  unfold am_ud
  cases e : Nat.beq j k with
  | false => rfl
  | true => exact absurd (Nat.eq_of_beq_eq_true e) h
def am_cells (f : Nat → Int) (a : Nat → List Int) (w : Value) : aH := [some (false, 10, [.ref 1, am_iv (f 1), am_iv (f 2), am_iv (f 3), am_iv (f 4), am_iv (f 5), .ref 2, .ref 4, .ref 12, .ref 106, .ref 113, .ref 114]),
  some (true, 0, (a 1).map am_iv),
  some (false, 7, [.ref 3, am_iv (f 201), am_iv (f 202), am_iv (f 203)]),
  some (true, 0, (a 3).map am_iv),
  some (false, 6, [.ref 2, .ref 5, .ref 6, .ref 7, .ref 8, .ref 9, am_iv (f 406), am_iv (f 407), am_iv (f 408)]),
  some (true, 0, (a 5).map am_iv),
  some (true, 0, (a 6).map am_iv),
  some (true, 0, (a 7).map am_iv),
  some (true, 0, (a 8).map am_iv),
  some (true, 0, (a 9).map am_iv),
  some (false, 9, [.ref 2, .ref 4, .ref 11, am_iv (f 1003)]),
  some (true, 0, (a 11).map am_iv),
  some (false, 3, [.ref 2, .ref 4, .ref 10, .ref 27, .ref 13, .ref 14, .ref 17, am_iv (f 1207), am_iv (f 1208)]),
  some (true, 3, [.ref 28, .ref 31, .ref 34, .ref 37, .ref 40, .ref 43, .ref 46, .ref 49, .ref 52, .ref 55, .ref 58, .ref 61, .ref 64, .ref 67, .ref 70, .ref 73, .ref 76, .ref 79, .ref 82, .ref 85, .ref 88, .ref 91, .ref 94, .ref 97, .ref 100, .ref 103]),
  some (false, 4, [am_iv (f 1400), am_iv (f 1401), am_iv (f 1402), .ref 15, .ref 16, am_iv (f 1405)]),
  some (true, 0, (a 15).map am_iv),
  some (true, 0, (a 16).map am_iv),
  some (false, 0, [.ref 18, .ref 19, .ref 20, .ref 21, .ref 22, .ref 23, .ref 24, .ref 25, .ref 26, am_iv (f 1709), am_iv (f 1710)]),
  some (true, 0, (a 18).map am_iv),
  some (true, 0, (a 19).map am_iv),
  some (true, 0, (a 20).map am_iv),
  some (true, 0, (a 21).map am_iv),
  some (true, 0, (a 22).map am_iv),
  some (true, 0, (a 23).map am_iv),
  some (true, 0, (a 24).map am_iv),
  some (true, 0, (a 25).map am_iv),
  some (true, 0, (a 26).map am_iv),
  some (false, 5, [.ref 2, am_iv (f 2701), am_iv (f 2702), am_iv (f 2703)]),
  some (false, 4, [am_iv (f 2800), am_iv (f 2801), am_iv (f 2802), .ref 29, .ref 30, am_iv (f 2805)]),
  some (true, 0, (a 29).map am_iv),
  some (true, 0, (a 30).map am_iv),
  some (false, 4, [am_iv (f 3100), am_iv (f 3101), am_iv (f 3102), .ref 32, .ref 33, am_iv (f 3105)]),
  some (true, 0, (a 32).map am_iv),
  some (true, 0, (a 33).map am_iv),
  some (false, 4, [am_iv (f 3400), am_iv (f 3401), am_iv (f 3402), .ref 35, .ref 36, am_iv (f 3405)]),
  some (true, 0, (a 35).map am_iv),
  some (true, 0, (a 36).map am_iv),
  some (false, 4, [am_iv (f 3700), am_iv (f 3701), am_iv (f 3702), .ref 38, .ref 39, am_iv (f 3705)]),
  some (true, 0, (a 38).map am_iv),
  some (true, 0, (a 39).map am_iv),
  some (false, 4, [am_iv (f 4000), am_iv (f 4001), am_iv (f 4002), .ref 41, .ref 42, am_iv (f 4005)]),
  some (true, 0, (a 41).map am_iv),
  some (true, 0, (a 42).map am_iv),
  some (false, 4, [am_iv (f 4300), am_iv (f 4301), am_iv (f 4302), .ref 44, .ref 45, am_iv (f 4305)]),
  some (true, 0, (a 44).map am_iv),
  some (true, 0, (a 45).map am_iv),
  some (false, 4, [am_iv (f 4600), am_iv (f 4601), am_iv (f 4602), .ref 47, .ref 48, am_iv (f 4605)]),
  some (true, 0, (a 47).map am_iv),
  some (true, 0, (a 48).map am_iv),
  some (false, 4, [am_iv (f 4900), am_iv (f 4901), am_iv (f 4902), .ref 50, .ref 51, am_iv (f 4905)]),
  some (true, 0, (a 50).map am_iv),
  some (true, 0, (a 51).map am_iv),
  some (false, 4, [am_iv (f 5200), am_iv (f 5201), am_iv (f 5202), .ref 53, .ref 54, am_iv (f 5205)]),
  some (true, 0, (a 53).map am_iv),
  some (true, 0, (a 54).map am_iv),
  some (false, 4, [am_iv (f 5500), am_iv (f 5501), am_iv (f 5502), .ref 56, .ref 57, am_iv (f 5505)]),
  some (true, 0, (a 56).map am_iv),
  some (true, 0, (a 57).map am_iv),
  some (false, 4, [am_iv (f 5800), am_iv (f 5801), am_iv (f 5802), .ref 59, .ref 60, am_iv (f 5805)]),
  some (true, 0, (a 59).map am_iv),
  some (true, 0, (a 60).map am_iv),
  some (false, 4, [am_iv (f 6100), am_iv (f 6101), am_iv (f 6102), .ref 62, .ref 63, am_iv (f 6105)]),
  some (true, 0, (a 62).map am_iv),
  some (true, 0, (a 63).map am_iv),
  some (false, 4, [am_iv (f 6400), am_iv (f 6401), am_iv (f 6402), .ref 65, .ref 66, am_iv (f 6405)]),
  some (true, 0, (a 65).map am_iv),
  some (true, 0, (a 66).map am_iv),
  some (false, 4, [am_iv (f 6700), am_iv (f 6701), am_iv (f 6702), .ref 68, .ref 69, am_iv (f 6705)]),
  some (true, 0, (a 68).map am_iv),
  some (true, 0, (a 69).map am_iv),
  some (false, 4, [am_iv (f 7000), am_iv (f 7001), am_iv (f 7002), .ref 71, .ref 72, am_iv (f 7005)]),
  some (true, 0, (a 71).map am_iv),
  some (true, 0, (a 72).map am_iv),
  some (false, 4, [am_iv (f 7300), am_iv (f 7301), am_iv (f 7302), .ref 74, .ref 75, am_iv (f 7305)]),
  some (true, 0, (a 74).map am_iv),
  some (true, 0, (a 75).map am_iv),
  some (false, 4, [am_iv (f 7600), am_iv (f 7601), am_iv (f 7602), .ref 77, .ref 78, am_iv (f 7605)]),
  some (true, 0, (a 77).map am_iv),
  some (true, 0, (a 78).map am_iv),
  some (false, 4, [am_iv (f 7900), am_iv (f 7901), am_iv (f 7902), .ref 80, .ref 81, am_iv (f 7905)]),
  some (true, 0, (a 80).map am_iv),
  some (true, 0, (a 81).map am_iv),
  some (false, 4, [am_iv (f 8200), am_iv (f 8201), am_iv (f 8202), .ref 83, .ref 84, am_iv (f 8205)]),
  some (true, 0, (a 83).map am_iv),
  some (true, 0, (a 84).map am_iv),
  some (false, 4, [am_iv (f 8500), am_iv (f 8501), am_iv (f 8502), .ref 86, .ref 87, am_iv (f 8505)]),
  some (true, 0, (a 86).map am_iv),
  some (true, 0, (a 87).map am_iv),
  some (false, 4, [am_iv (f 8800), am_iv (f 8801), am_iv (f 8802), .ref 89, .ref 90, am_iv (f 8805)]),
  some (true, 0, (a 89).map am_iv),
  some (true, 0, (a 90).map am_iv),
  some (false, 4, [am_iv (f 9100), am_iv (f 9101), am_iv (f 9102), .ref 92, .ref 93, am_iv (f 9105)]),
  some (true, 0, (a 92).map am_iv),
  some (true, 0, (a 93).map am_iv),
  some (false, 4, [am_iv (f 9400), am_iv (f 9401), am_iv (f 9402), .ref 95, .ref 96, am_iv (f 9405)]),
  some (true, 0, (a 95).map am_iv),
  some (true, 0, (a 96).map am_iv),
  some (false, 4, [am_iv (f 9700), am_iv (f 9701), am_iv (f 9702), .ref 98, .ref 99, am_iv (f 9705)]),
  some (true, 0, (a 98).map am_iv),
  some (true, 0, (a 99).map am_iv),
  some (false, 4, [am_iv (f 10000), am_iv (f 10001), am_iv (f 10002), .ref 101, .ref 102, am_iv (f 10005)]),
  some (true, 0, (a 101).map am_iv),
  some (true, 0, (a 102).map am_iv),
  some (false, 4, [am_iv (f 10300), am_iv (f 10301), am_iv (f 10302), .ref 104, .ref 105, am_iv (f 10305)]),
  some (true, 0, (a 104).map am_iv),
  some (true, 0, (a 105).map am_iv),
  some (false, 1, [.ref 107, .ref 108, .ref 109, .ref 110, .ref 111, .ref 112, am_iv (f 10606), am_iv (f 10607)]),
  some (true, 0, (a 107).map am_iv),
  some (true, 0, (a 108).map am_iv),
  some (true, 0, (a 109).map am_iv),
  some (true, 0, (a 110).map am_iv),
  some (true, 0, (a 111).map am_iv),
  some (true, 0, (a 112).map am_iv),
  some (false, 8, [.ref 2, .ref 4, .ref 10, .ref 17, .ref 106]),
  some (false, 2, [.ref 2, .ref 12, .ref 17, .ref 106, .ref 115, .ref 116, am_iv (f 11406), am_iv (f 11407)]),
  some (true, 0, (a 115).map am_iv),
  some (true, 0, (a 116).map am_iv),
  some (false, 11, [am_iv (f 11700), am_iv (f 11701), am_iv (f 11702), am_iv (f 11703), am_iv (f 11704), .ref 118, .ref 119, am_iv (f 11707), .ref 120, am_iv (f 11709), .ref 121, .ref 122, .ref 123, am_iv (f 11713), .ref 124, .ref 125, .ref 126, .ref 127, am_iv (f 11718), .ref 128, .ref 129, .ref 130, .ref 131, am_iv (f 11723), am_iv (f 11724), .ref 132, .ref 133, .ref 134, .ref 135, .ref 136, .ref 137, .ref 138, .ref 139, .ref 140, .ref 141, .ref 142, .ref 143, .ref 144, am_iv (f 11738), am_iv (f 11739), am_iv (f 11740), am_iv (f 11741), .ref 145, .ref 146, .ref 147, .ref 148, .ref 149, .ref 150, .ref 151, .ref 152, am_iv (f 11750), .ref 153, .ref 154, am_iv (f 11753), .ref 155, am_iv (f 11755), .ref 156, am_iv (f 11757), .ref 157, .ref 158, .ref 159, .ref 160, .ref 161, am_iv (f 11763), .ref 162]),
  some (true, 0, (a 118).map am_iv),
  some (true, 0, (a 119).map am_iv),
  some (true, 0, (a 120).map am_iv),
  some (true, 0, (a 121).map am_iv),
  some (true, 0, (a 122).map am_iv),
  some (true, 1, (a 123).map am_iv),
  some (true, 0, (a 124).map am_iv),
  some (true, 0, (a 125).map am_iv),
  some (true, 0, (a 126).map am_iv),
  some (true, 0, (a 127).map am_iv),
  some (true, 0, (a 128).map am_iv),
  some (true, 0, (a 129).map am_iv),
  some (true, 0, (a 130).map am_iv),
  some (true, 1, (a 131).map am_iv),
  some (true, 0, (a 132).map am_iv),
  some (true, 0, (a 133).map am_iv),
  some (true, 0, (a 134).map am_iv),
  some (true, 0, (a 135).map am_iv),
  some (true, 0, (a 136).map am_iv),
  some (true, 0, (a 137).map am_iv),
  some (true, 0, (a 138).map am_iv),
  some (true, 1, (a 139).map am_iv),
  some (true, 0, (a 140).map am_iv),
  some (true, 0, (a 141).map am_iv),
  some (true, 0, (a 142).map am_iv),
  some (true, 1, (a 143).map am_iv),
  some (true, 1, (a 144).map am_iv),
  some (true, 0, (a 145).map am_iv),
  some (true, 0, (a 146).map am_iv),
  some (true, 0, (a 147).map am_iv),
  some (true, 0, (a 148).map am_iv),
  some (true, 0, (a 149).map am_iv),
  some (true, 0, (a 150).map am_iv),
  some (true, 0, (a 151).map am_iv),
  some (true, 0, (a 152).map am_iv),
  some (true, 0, (a 153).map am_iv),
  some (true, 0, (a 154).map am_iv),
  some (true, 0, (a 155).map am_iv),
  some (true, 0, (a 156).map am_iv),
  some (true, 0, (a 157).map am_iv),
  some (true, 0, (a 158).map am_iv),
  some (true, 0, (a 159).map am_iv),
  some (true, 0, (a 160).map am_iv),
  some (true, 0, (a 161).map am_iv),
  some (true, 0, (a 162).map am_iv),
  some (true, 2, [w])]
def am_enc (f : Nat → Int) (a : Nat → List Int) (w : Value) (e : Nat) : aH := am_cells f a w ++ List.replicate e none
section AmEnc
variable {f : Nat → Int} {a : Nat → List Int} {w : Value} {e : Nat}
theorem am_enc_len : (am_enc f a w e).length = 164 + e := by unfold am_enc; rw [List.length_append, List.length_replicate]; rfl
theorem am_enc_none : am_enc f a w e ++ [none] = am_enc f a w (e + 1) := by unfold am_enc; rw [List.append_assoc, List.replicate_succ']
theorem am_ge0 : am_get (am_enc f a w e) 0 = some (false, 10, [.ref 1, am_iv (f 1), am_iv (f 2), am_iv (f 3), am_iv (f 4), am_iv (f 5), .ref 2, .ref 4, .ref 12, .ref 106, .ref 113, .ref 114]) := rfl
set_option maxRecDepth 100000 in
theorem am_sf1 (v : Int) : (am_enc f a w e).set 0 (some (false, 10, [.ref 1, am_iv v, am_iv (f 2), am_iv (f 3), am_iv (f 4), am_iv (f 5), .ref 2, .ref 4, .ref 12, .ref 106, .ref 113, .ref 114])) = am_enc (am_ud f 1 v) a w e := rfl
set_option maxRecDepth 100000 in
theorem am_sf2 (v : Int) : (am_enc f a w e).set 0 (some (false, 10, [.ref 1, am_iv (f 1), am_iv v, am_iv (f 3), am_iv (f 4), am_iv (f 5), .ref 2, .ref 4, .ref 12, .ref 106, .ref 113, .ref 114])) = am_enc (am_ud f 2 v) a w e := rfl
set_option maxRecDepth 100000 in
theorem am_sf3 (v : Int) : (am_enc f a w e).set 0 (some (false, 10, [.ref 1, am_iv (f 1), am_iv (f 2), am_iv v, am_iv (f 4), am_iv (f 5), .ref 2, .ref 4, .ref 12, .ref 106, .ref 113, .ref 114])) = am_enc (am_ud f 3 v) a w e := rfl
set_option maxRecDepth 100000 in
theorem am_sf4 (v : Int) : (am_enc f a w e).set 0 (some (false, 10, [.ref 1, am_iv (f 1), am_iv (f 2), am_iv (f 3), am_iv v, am_iv (f 5), .ref 2, .ref 4, .ref 12, .ref 106, .ref 113, .ref 114])) = am_enc (am_ud f 4 v) a w e := rfl
set_option maxRecDepth 100000 in
theorem am_sf5 (v : Int) : (am_enc f a w e).set 0 (some (false, 10, [.ref 1, am_iv (f 1), am_iv (f 2), am_iv (f 3), am_iv (f 4), am_iv v, .ref 2, .ref 4, .ref 12, .ref 106, .ref 113, .ref 114])) = am_enc (am_ud f 5 v) a w e := rfl
theorem am_ge1 : am_get (am_enc f a w e) 1 = some (true, 0, (a 1).map am_iv) := rfl
set_option maxRecDepth 100000 in
theorem am_sa1 (l : List Int) : (am_enc f a w e).set 1 (some (true, 0, l.map am_iv)) = am_enc f (am_ud a 1 l) w e := rfl
theorem am_ge2 : am_get (am_enc f a w e) 2 = some (false, 7, [.ref 3, am_iv (f 201), am_iv (f 202), am_iv (f 203)]) := rfl
set_option maxRecDepth 100000 in
theorem am_sf201 (v : Int) : (am_enc f a w e).set 2 (some (false, 7, [.ref 3, am_iv v, am_iv (f 202), am_iv (f 203)])) = am_enc (am_ud f 201 v) a w e := rfl
set_option maxRecDepth 100000 in
theorem am_sf202 (v : Int) : (am_enc f a w e).set 2 (some (false, 7, [.ref 3, am_iv (f 201), am_iv v, am_iv (f 203)])) = am_enc (am_ud f 202 v) a w e := rfl
set_option maxRecDepth 100000 in
theorem am_sf203 (v : Int) : (am_enc f a w e).set 2 (some (false, 7, [.ref 3, am_iv (f 201), am_iv (f 202), am_iv v])) = am_enc (am_ud f 203 v) a w e := rfl
theorem am_ge3 : am_get (am_enc f a w e) 3 = some (true, 0, (a 3).map am_iv) := rfl
set_option maxRecDepth 100000 in
theorem am_sa3 (l : List Int) : (am_enc f a w e).set 3 (some (true, 0, l.map am_iv)) = am_enc f (am_ud a 3 l) w e := rfl
theorem am_ge4 : am_get (am_enc f a w e) 4 = some (false, 6, [.ref 2, .ref 5, .ref 6, .ref 7, .ref 8, .ref 9, am_iv (f 406), am_iv (f 407), am_iv (f 408)]) := rfl
set_option maxRecDepth 100000 in
theorem am_sf406 (v : Int) : (am_enc f a w e).set 4 (some (false, 6, [.ref 2, .ref 5, .ref 6, .ref 7, .ref 8, .ref 9, am_iv v, am_iv (f 407), am_iv (f 408)])) = am_enc (am_ud f 406 v) a w e := rfl
set_option maxRecDepth 100000 in
theorem am_sf407 (v : Int) : (am_enc f a w e).set 4 (some (false, 6, [.ref 2, .ref 5, .ref 6, .ref 7, .ref 8, .ref 9, am_iv (f 406), am_iv v, am_iv (f 408)])) = am_enc (am_ud f 407 v) a w e := rfl
set_option maxRecDepth 100000 in
theorem am_sf408 (v : Int) : (am_enc f a w e).set 4 (some (false, 6, [.ref 2, .ref 5, .ref 6, .ref 7, .ref 8, .ref 9, am_iv (f 406), am_iv (f 407), am_iv v])) = am_enc (am_ud f 408 v) a w e := rfl
theorem am_ge5 : am_get (am_enc f a w e) 5 = some (true, 0, (a 5).map am_iv) := rfl
set_option maxRecDepth 100000 in
theorem am_sa5 (l : List Int) : (am_enc f a w e).set 5 (some (true, 0, l.map am_iv)) = am_enc f (am_ud a 5 l) w e := rfl
theorem am_ge6 : am_get (am_enc f a w e) 6 = some (true, 0, (a 6).map am_iv) := rfl
set_option maxRecDepth 100000 in
theorem am_sa6 (l : List Int) : (am_enc f a w e).set 6 (some (true, 0, l.map am_iv)) = am_enc f (am_ud a 6 l) w e := rfl
theorem am_ge7 : am_get (am_enc f a w e) 7 = some (true, 0, (a 7).map am_iv) := rfl
set_option maxRecDepth 100000 in
theorem am_sa7 (l : List Int) : (am_enc f a w e).set 7 (some (true, 0, l.map am_iv)) = am_enc f (am_ud a 7 l) w e := rfl
theorem am_ge8 : am_get (am_enc f a w e) 8 = some (true, 0, (a 8).map am_iv) := rfl
set_option maxRecDepth 100000 in
theorem am_sa8 (l : List Int) : (am_enc f a w e).set 8 (some (true, 0, l.map am_iv)) = am_enc f (am_ud a 8 l) w e := rfl
theorem am_ge9 : am_get (am_enc f a w e) 9 = some (true, 0, (a 9).map am_iv) := rfl
set_option maxRecDepth 100000 in
theorem am_sa9 (l : List Int) : (am_enc f a w e).set 9 (some (true, 0, l.map am_iv)) = am_enc f (am_ud a 9 l) w e := rfl
theorem am_ge10 : am_get (am_enc f a w e) 10 = some (false, 9, [.ref 2, .ref 4, .ref 11, am_iv (f 1003)]) := rfl
set_option maxRecDepth 100000 in
theorem am_sf1003 (v : Int) : (am_enc f a w e).set 10 (some (false, 9, [.ref 2, .ref 4, .ref 11, am_iv v])) = am_enc (am_ud f 1003 v) a w e := rfl
theorem am_ge11 : am_get (am_enc f a w e) 11 = some (true, 0, (a 11).map am_iv) := rfl
set_option maxRecDepth 100000 in
theorem am_sa11 (l : List Int) : (am_enc f a w e).set 11 (some (true, 0, l.map am_iv)) = am_enc f (am_ud a 11 l) w e := rfl
theorem am_ge12 : am_get (am_enc f a w e) 12 = some (false, 3, [.ref 2, .ref 4, .ref 10, .ref 27, .ref 13, .ref 14, .ref 17, am_iv (f 1207), am_iv (f 1208)]) := rfl
set_option maxRecDepth 100000 in
theorem am_sf1207 (v : Int) : (am_enc f a w e).set 12 (some (false, 3, [.ref 2, .ref 4, .ref 10, .ref 27, .ref 13, .ref 14, .ref 17, am_iv v, am_iv (f 1208)])) = am_enc (am_ud f 1207 v) a w e := rfl
set_option maxRecDepth 100000 in
theorem am_sf1208 (v : Int) : (am_enc f a w e).set 12 (some (false, 3, [.ref 2, .ref 4, .ref 10, .ref 27, .ref 13, .ref 14, .ref 17, am_iv (f 1207), am_iv v])) = am_enc (am_ud f 1208 v) a w e := rfl
theorem am_ge13 : am_get (am_enc f a w e) 13 = some (true, 3, [.ref 28, .ref 31, .ref 34, .ref 37, .ref 40, .ref 43, .ref 46, .ref 49, .ref 52, .ref 55, .ref 58, .ref 61, .ref 64, .ref 67, .ref 70, .ref 73, .ref 76, .ref 79, .ref 82, .ref 85, .ref 88, .ref 91, .ref 94, .ref 97, .ref 100, .ref 103]) := rfl
theorem am_ge14 : am_get (am_enc f a w e) 14 = some (false, 4, [am_iv (f 1400), am_iv (f 1401), am_iv (f 1402), .ref 15, .ref 16, am_iv (f 1405)]) := rfl
set_option maxRecDepth 100000 in
theorem am_sf1400 (v : Int) : (am_enc f a w e).set 14 (some (false, 4, [am_iv v, am_iv (f 1401), am_iv (f 1402), .ref 15, .ref 16, am_iv (f 1405)])) = am_enc (am_ud f 1400 v) a w e := rfl
set_option maxRecDepth 100000 in
theorem am_sf1401 (v : Int) : (am_enc f a w e).set 14 (some (false, 4, [am_iv (f 1400), am_iv v, am_iv (f 1402), .ref 15, .ref 16, am_iv (f 1405)])) = am_enc (am_ud f 1401 v) a w e := rfl
set_option maxRecDepth 100000 in
theorem am_sf1402 (v : Int) : (am_enc f a w e).set 14 (some (false, 4, [am_iv (f 1400), am_iv (f 1401), am_iv v, .ref 15, .ref 16, am_iv (f 1405)])) = am_enc (am_ud f 1402 v) a w e := rfl
set_option maxRecDepth 100000 in
theorem am_sf1405 (v : Int) : (am_enc f a w e).set 14 (some (false, 4, [am_iv (f 1400), am_iv (f 1401), am_iv (f 1402), .ref 15, .ref 16, am_iv v])) = am_enc (am_ud f 1405 v) a w e := rfl
theorem am_ge15 : am_get (am_enc f a w e) 15 = some (true, 0, (a 15).map am_iv) := rfl
set_option maxRecDepth 100000 in
theorem am_sa15 (l : List Int) : (am_enc f a w e).set 15 (some (true, 0, l.map am_iv)) = am_enc f (am_ud a 15 l) w e := rfl
theorem am_ge16 : am_get (am_enc f a w e) 16 = some (true, 0, (a 16).map am_iv) := rfl
set_option maxRecDepth 100000 in
theorem am_sa16 (l : List Int) : (am_enc f a w e).set 16 (some (true, 0, l.map am_iv)) = am_enc f (am_ud a 16 l) w e := rfl
theorem am_ge17 : am_get (am_enc f a w e) 17 = some (false, 0, [.ref 18, .ref 19, .ref 20, .ref 21, .ref 22, .ref 23, .ref 24, .ref 25, .ref 26, am_iv (f 1709), am_iv (f 1710)]) := rfl
set_option maxRecDepth 100000 in
theorem am_sf1709 (v : Int) : (am_enc f a w e).set 17 (some (false, 0, [.ref 18, .ref 19, .ref 20, .ref 21, .ref 22, .ref 23, .ref 24, .ref 25, .ref 26, am_iv v, am_iv (f 1710)])) = am_enc (am_ud f 1709 v) a w e := rfl
set_option maxRecDepth 100000 in
theorem am_sf1710 (v : Int) : (am_enc f a w e).set 17 (some (false, 0, [.ref 18, .ref 19, .ref 20, .ref 21, .ref 22, .ref 23, .ref 24, .ref 25, .ref 26, am_iv (f 1709), am_iv v])) = am_enc (am_ud f 1710 v) a w e := rfl
theorem am_ge18 : am_get (am_enc f a w e) 18 = some (true, 0, (a 18).map am_iv) := rfl
set_option maxRecDepth 100000 in
theorem am_sa18 (l : List Int) : (am_enc f a w e).set 18 (some (true, 0, l.map am_iv)) = am_enc f (am_ud a 18 l) w e := rfl
theorem am_ge19 : am_get (am_enc f a w e) 19 = some (true, 0, (a 19).map am_iv) := rfl
set_option maxRecDepth 100000 in
theorem am_sa19 (l : List Int) : (am_enc f a w e).set 19 (some (true, 0, l.map am_iv)) = am_enc f (am_ud a 19 l) w e := rfl
theorem am_ge20 : am_get (am_enc f a w e) 20 = some (true, 0, (a 20).map am_iv) := rfl
set_option maxRecDepth 100000 in
theorem am_sa20 (l : List Int) : (am_enc f a w e).set 20 (some (true, 0, l.map am_iv)) = am_enc f (am_ud a 20 l) w e := rfl
theorem am_ge21 : am_get (am_enc f a w e) 21 = some (true, 0, (a 21).map am_iv) := rfl
set_option maxRecDepth 100000 in
theorem am_sa21 (l : List Int) : (am_enc f a w e).set 21 (some (true, 0, l.map am_iv)) = am_enc f (am_ud a 21 l) w e := rfl
theorem am_ge22 : am_get (am_enc f a w e) 22 = some (true, 0, (a 22).map am_iv) := rfl
set_option maxRecDepth 100000 in
theorem am_sa22 (l : List Int) : (am_enc f a w e).set 22 (some (true, 0, l.map am_iv)) = am_enc f (am_ud a 22 l) w e := rfl
theorem am_ge23 : am_get (am_enc f a w e) 23 = some (true, 0, (a 23).map am_iv) := rfl
set_option maxRecDepth 100000 in
theorem am_sa23 (l : List Int) : (am_enc f a w e).set 23 (some (true, 0, l.map am_iv)) = am_enc f (am_ud a 23 l) w e := rfl
theorem am_ge24 : am_get (am_enc f a w e) 24 = some (true, 0, (a 24).map am_iv) := rfl
set_option maxRecDepth 100000 in
theorem am_sa24 (l : List Int) : (am_enc f a w e).set 24 (some (true, 0, l.map am_iv)) = am_enc f (am_ud a 24 l) w e := rfl
theorem am_ge25 : am_get (am_enc f a w e) 25 = some (true, 0, (a 25).map am_iv) := rfl
set_option maxRecDepth 100000 in
theorem am_sa25 (l : List Int) : (am_enc f a w e).set 25 (some (true, 0, l.map am_iv)) = am_enc f (am_ud a 25 l) w e := rfl
theorem am_ge26 : am_get (am_enc f a w e) 26 = some (true, 0, (a 26).map am_iv) := rfl
set_option maxRecDepth 100000 in
theorem am_sa26 (l : List Int) : (am_enc f a w e).set 26 (some (true, 0, l.map am_iv)) = am_enc f (am_ud a 26 l) w e := rfl
theorem am_ge27 : am_get (am_enc f a w e) 27 = some (false, 5, [.ref 2, am_iv (f 2701), am_iv (f 2702), am_iv (f 2703)]) := rfl
set_option maxRecDepth 100000 in
theorem am_sf2701 (v : Int) : (am_enc f a w e).set 27 (some (false, 5, [.ref 2, am_iv v, am_iv (f 2702), am_iv (f 2703)])) = am_enc (am_ud f 2701 v) a w e := rfl
set_option maxRecDepth 100000 in
theorem am_sf2702 (v : Int) : (am_enc f a w e).set 27 (some (false, 5, [.ref 2, am_iv (f 2701), am_iv v, am_iv (f 2703)])) = am_enc (am_ud f 2702 v) a w e := rfl
set_option maxRecDepth 100000 in
theorem am_sf2703 (v : Int) : (am_enc f a w e).set 27 (some (false, 5, [.ref 2, am_iv (f 2701), am_iv (f 2702), am_iv v])) = am_enc (am_ud f 2703 v) a w e := rfl
theorem am_ge28 : am_get (am_enc f a w e) 28 = some (false, 4, [am_iv (f 2800), am_iv (f 2801), am_iv (f 2802), .ref 29, .ref 30, am_iv (f 2805)]) := rfl
set_option maxRecDepth 100000 in
theorem am_sf2800 (v : Int) : (am_enc f a w e).set 28 (some (false, 4, [am_iv v, am_iv (f 2801), am_iv (f 2802), .ref 29, .ref 30, am_iv (f 2805)])) = am_enc (am_ud f 2800 v) a w e := rfl
set_option maxRecDepth 100000 in
theorem am_sf2801 (v : Int) : (am_enc f a w e).set 28 (some (false, 4, [am_iv (f 2800), am_iv v, am_iv (f 2802), .ref 29, .ref 30, am_iv (f 2805)])) = am_enc (am_ud f 2801 v) a w e := rfl
set_option maxRecDepth 100000 in
theorem am_sf2802 (v : Int) : (am_enc f a w e).set 28 (some (false, 4, [am_iv (f 2800), am_iv (f 2801), am_iv v, .ref 29, .ref 30, am_iv (f 2805)])) = am_enc (am_ud f 2802 v) a w e := rfl
set_option maxRecDepth 100000 in
theorem am_sf2805 (v : Int) : (am_enc f a w e).set 28 (some (false, 4, [am_iv (f 2800), am_iv (f 2801), am_iv (f 2802), .ref 29, .ref 30, am_iv v])) = am_enc (am_ud f 2805 v) a w e := rfl
theorem am_ge29 : am_get (am_enc f a w e) 29 = some (true, 0, (a 29).map am_iv) := rfl
set_option maxRecDepth 100000 in
theorem am_sa29 (l : List Int) : (am_enc f a w e).set 29 (some (true, 0, l.map am_iv)) = am_enc f (am_ud a 29 l) w e := rfl
theorem am_ge30 : am_get (am_enc f a w e) 30 = some (true, 0, (a 30).map am_iv) := rfl
set_option maxRecDepth 100000 in
theorem am_sa30 (l : List Int) : (am_enc f a w e).set 30 (some (true, 0, l.map am_iv)) = am_enc f (am_ud a 30 l) w e := rfl
theorem am_ge31 : am_get (am_enc f a w e) 31 = some (false, 4, [am_iv (f 3100), am_iv (f 3101), am_iv (f 3102), .ref 32, .ref 33, am_iv (f 3105)]) := rfl
set_option maxRecDepth 100000 in
theorem am_sf3100 (v : Int) : (am_enc f a w e).set 31 (some (false, 4, [am_iv v, am_iv (f 3101), am_iv (f 3102), .ref 32, .ref 33, am_iv (f 3105)])) = am_enc (am_ud f 3100 v) a w e := rfl
set_option maxRecDepth 100000 in
theorem am_sf3101 (v : Int) : (am_enc f a w e).set 31 (some (false, 4, [am_iv (f 3100), am_iv v, am_iv (f 3102), .ref 32, .ref 33, am_iv (f 3105)])) = am_enc (am_ud f 3101 v) a w e := rfl
set_option maxRecDepth 100000 in
theorem am_sf3102 (v : Int) : (am_enc f a w e).set 31 (some (false, 4, [am_iv (f 3100), am_iv (f 3101), am_iv v, .ref 32, .ref 33, am_iv (f 3105)])) = am_enc (am_ud f 3102 v) a w e := rfl
set_option maxRecDepth 100000 in
theorem am_sf3105 (v : Int) : (am_enc f a w e).set 31 (some (false, 4, [am_iv (f 3100), am_iv (f 3101), am_iv (f 3102), .ref 32, .ref 33, am_iv v])) = am_enc (am_ud f 3105 v) a w e := rfl
theorem am_ge32 : am_get (am_enc f a w e) 32 = some (true, 0, (a 32).map am_iv) := rfl
set_option maxRecDepth 100000 in
theorem am_sa32 (l : List Int) : (am_enc f a w e).set 32 (some (true, 0, l.map am_iv)) = am_enc f (am_ud a 32 l) w e := rfl
theorem am_ge33 : am_get (am_enc f a w e) 33 = some (true, 0, (a 33).map am_iv) := rfl
set_option maxRecDepth 100000 in
theorem am_sa33 (l : List Int) : (am_enc f a w e).set 33 (some (true, 0, l.map am_iv)) = am_enc f (am_ud a 33 l) w e := rfl
theorem am_ge34 : am_get (am_enc f a w e) 34 = some (false, 4, [am_iv (f 3400), am_iv (f 3401), am_iv (f 3402), .ref 35, .ref 36, am_iv (f 3405)]) := rfl
set_option maxRecDepth 100000 in
theorem am_sf3400 (v : Int) : (am_enc f a w e).set 34 (some (false, 4, [am_iv v, am_iv (f 3401), am_iv (f 3402), .ref 35, .ref 36, am_iv (f 3405)])) = am_enc (am_ud f 3400 v) a w e := rfl
set_option maxRecDepth 100000 in
theorem am_sf3401 (v : Int) : (am_enc f a w e).set 34 (some (false, 4, [am_iv (f 3400), am_iv v, am_iv (f 3402), .ref 35, .ref 36, am_iv (f 3405)])) = am_enc (am_ud f 3401 v) a w e := rfl
set_option maxRecDepth 100000 in
theorem am_sf3402 (v : Int) : (am_enc f a w e).set 34 (some (false, 4, [am_iv (f 3400), am_iv (f 3401), am_iv v, .ref 35, .ref 36, am_iv (f 3405)])) = am_enc (am_ud f 3402 v) a w e := rfl
set_option maxRecDepth 100000 in
theorem am_sf3405 (v : Int) : (am_enc f a w e).set 34 (some (false, 4, [am_iv (f 3400), am_iv (f 3401), am_iv (f 3402), .ref 35, .ref 36, am_iv v])) = am_enc (am_ud f 3405 v) a w e := rfl
theorem am_ge35 : am_get (am_enc f a w e) 35 = some (true, 0, (a 35).map am_iv) := rfl
set_option maxRecDepth 100000 in
theorem am_sa35 (l : List Int) : (am_enc f a w e).set 35 (some (true, 0, l.map am_iv)) = am_enc f (am_ud a 35 l) w e := rfl
theorem am_ge36 : am_get (am_enc f a w e) 36 = some (true, 0, (a 36).map am_iv) := rfl
set_option maxRecDepth 100000 in
theorem am_sa36 (l : List Int) : (am_enc f a w e).set 36 (some (true, 0, l.map am_iv)) = am_enc f (am_ud a 36 l) w e := rfl
theorem am_ge37 : am_get (am_enc f a w e) 37 = some (false, 4, [am_iv (f 3700), am_iv (f 3701), am_iv (f 3702), .ref 38, .ref 39, am_iv (f 3705)]) := rfl
set_option maxRecDepth 100000 in
theorem am_sf3700 (v : Int) : (am_enc f a w e).set 37 (some (false, 4, [am_iv v, am_iv (f 3701), am_iv (f 3702), .ref 38, .ref 39, am_iv (f 3705)])) = am_enc (am_ud f 3700 v) a w e := rfl
set_option maxRecDepth 100000 in
theorem am_sf3701 (v : Int) : (am_enc f a w e).set 37 (some (false, 4, [am_iv (f 3700), am_iv v, am_iv (f 3702), .ref 38, .ref 39, am_iv (f 3705)])) = am_enc (am_ud f 3701 v) a w e := rfl
set_option maxRecDepth 100000 in
theorem am_sf3702 (v : Int) : (am_enc f a w e).set 37 (some (false, 4, [am_iv (f 3700), am_iv (f 3701), am_iv v, .ref 38, .ref 39, am_iv (f 3705)])) = am_enc (am_ud f 3702 v) a w e := rfl
set_option maxRecDepth 100000 in
theorem am_sf3705 (v : Int) : (am_enc f a w e).set 37 (some (false, 4, [am_iv (f 3700), am_iv (f 3701), am_iv (f 3702), .ref 38, .ref 39, am_iv v])) = am_enc (am_ud f 3705 v) a w e := rfl
theorem am_ge38 : am_get (am_enc f a w e) 38 = some (true, 0, (a 38).map am_iv) := rfl
set_option maxRecDepth 100000 in
theorem am_sa38 (l : List Int) : (am_enc f a w e).set 38 (some (true, 0, l.map am_iv)) = am_enc f (am_ud a 38 l) w e := rfl
theorem am_ge39 : am_get (am_enc f a w e) 39 = some (true, 0, (a 39).map am_iv) := rfl
set_option maxRecDepth 100000 in
theorem am_sa39 (l : List Int) : (am_enc f a w e).set 39 (some (true, 0, l.map am_iv)) = am_enc f (am_ud a 39 l) w e := rfl
theorem am_ge40 : am_get (am_enc f a w e) 40 = some (false, 4, [am_iv (f 4000), am_iv (f 4001), am_iv (f 4002), .ref 41, .ref 42, am_iv (f 4005)]) := rfl
set_option maxRecDepth 100000 in
theorem am_sf4000 (v : Int) : (am_enc f a w e).set 40 (some (false, 4, [am_iv v, am_iv (f 4001), am_iv (f 4002), .ref 41, .ref 42, am_iv (f 4005)])) = am_enc (am_ud f 4000 v) a w e := rfl
set_option maxRecDepth 100000 in
theorem am_sf4001 (v : Int) : (am_enc f a w e).set 40 (some (false, 4, [am_iv (f 4000), am_iv v, am_iv (f 4002), .ref 41, .ref 42, am_iv (f 4005)])) = am_enc (am_ud f 4001 v) a w e := rfl
set_option maxRecDepth 100000 in
theorem am_sf4002 (v : Int) : (am_enc f a w e).set 40 (some (false, 4, [am_iv (f 4000), am_iv (f 4001), am_iv v, .ref 41, .ref 42, am_iv (f 4005)])) = am_enc (am_ud f 4002 v) a w e := rfl
set_option maxRecDepth 100000 in
theorem am_sf4005 (v : Int) : (am_enc f a w e).set 40 (some (false, 4, [am_iv (f 4000), am_iv (f 4001), am_iv (f 4002), .ref 41, .ref 42, am_iv v])) = am_enc (am_ud f 4005 v) a w e := rfl
theorem am_ge41 : am_get (am_enc f a w e) 41 = some (true, 0, (a 41).map am_iv) := rfl
set_option maxRecDepth 100000 in
theorem am_sa41 (l : List Int) : (am_enc f a w e).set 41 (some (true, 0, l.map am_iv)) = am_enc f (am_ud a 41 l) w e := rfl
theorem am_ge42 : am_get (am_enc f a w e) 42 = some (true, 0, (a 42).map am_iv) := rfl
set_option maxRecDepth 100000 in
theorem am_sa42 (l : List Int) : (am_enc f a w e).set 42 (some (true, 0, l.map am_iv)) = am_enc f (am_ud a 42 l) w e := rfl
theorem am_ge43 : am_get (am_enc f a w e) 43 = some (false, 4, [am_iv (f 4300), am_iv (f 4301), am_iv (f 4302), .ref 44, .ref 45, am_iv (f 4305)]) := rfl
set_option maxRecDepth 100000 in
theorem am_sf4300 (v : Int) : (am_enc f a w e).set 43 (some (false, 4, [am_iv v, am_iv (f 4301), am_iv (f 4302), .ref 44, .ref 45, am_iv (f 4305)])) = am_enc (am_ud f 4300 v) a w e := rfl
set_option maxRecDepth 100000 in
theorem am_sf4301 (v : Int) : (am_enc f a w e).set 43 (some (false, 4, [am_iv (f 4300), am_iv v, am_iv (f 4302), .ref 44, .ref 45, am_iv (f 4305)])) = am_enc (am_ud f 4301 v) a w e := rfl
set_option maxRecDepth 100000 in
theorem am_sf4302 (v : Int) : (am_enc f a w e).set 43 (some (false, 4, [am_iv (f 4300), am_iv (f 4301), am_iv v, .ref 44, .ref 45, am_iv (f 4305)])) = am_enc (am_ud f 4302 v) a w e := rfl
set_option maxRecDepth 100000 in
theorem am_sf4305 (v : Int) : (am_enc f a w e).set 43 (some (false, 4, [am_iv (f 4300), am_iv (f 4301), am_iv (f 4302), .ref 44, .ref 45, am_iv v])) = am_enc (am_ud f 4305 v) a w e := rfl
theorem am_ge44 : am_get (am_enc f a w e) 44 = some (true, 0, (a 44).map am_iv) := rfl
set_option maxRecDepth 100000 in
theorem am_sa44 (l : List Int) : (am_enc f a w e).set 44 (some (true, 0, l.map am_iv)) = am_enc f (am_ud a 44 l) w e := rfl
theorem am_ge45 : am_get (am_enc f a w e) 45 = some (true, 0, (a 45).map am_iv) := rfl
set_option maxRecDepth 100000 in
theorem am_sa45 (l : List Int) : (am_enc f a w e).set 45 (some (true, 0, l.map am_iv)) = am_enc f (am_ud a 45 l) w e := rfl
theorem am_ge46 : am_get (am_enc f a w e) 46 = some (false, 4, [am_iv (f 4600), am_iv (f 4601), am_iv (f 4602), .ref 47, .ref 48, am_iv (f 4605)]) := rfl
set_option maxRecDepth 100000 in
theorem am_sf4600 (v : Int) : (am_enc f a w e).set 46 (some (false, 4, [am_iv v, am_iv (f 4601), am_iv (f 4602), .ref 47, .ref 48, am_iv (f 4605)])) = am_enc (am_ud f 4600 v) a w e := rfl
set_option maxRecDepth 100000 in
theorem am_sf4601 (v : Int) : (am_enc f a w e).set 46 (some (false, 4, [am_iv (f 4600), am_iv v, am_iv (f 4602), .ref 47, .ref 48, am_iv (f 4605)])) = am_enc (am_ud f 4601 v) a w e := rfl
set_option maxRecDepth 100000 in
theorem am_sf4602 (v : Int) : (am_enc f a w e).set 46 (some (false, 4, [am_iv (f 4600), am_iv (f 4601), am_iv v, .ref 47, .ref 48, am_iv (f 4605)])) = am_enc (am_ud f 4602 v) a w e := rfl
set_option maxRecDepth 100000 in
theorem am_sf4605 (v : Int) : (am_enc f a w e).set 46 (some (false, 4, [am_iv (f 4600), am_iv (f 4601), am_iv (f 4602), .ref 47, .ref 48, am_iv v])) = am_enc (am_ud f 4605 v) a w e := rfl
theorem am_ge47 : am_get (am_enc f a w e) 47 = some (true, 0, (a 47).map am_iv) := rfl
set_option maxRecDepth 100000 in
theorem am_sa47 (l : List Int) : (am_enc f a w e).set 47 (some (true, 0, l.map am_iv)) = am_enc f (am_ud a 47 l) w e := rfl
theorem am_ge48 : am_get (am_enc f a w e) 48 = some (true, 0, (a 48).map am_iv) := rfl
set_option maxRecDepth 100000 in
theorem am_sa48 (l : List Int) : (am_enc f a w e).set 48 (some (true, 0, l.map am_iv)) = am_enc f (am_ud a 48 l) w e := rfl
theorem am_ge49 : am_get (am_enc f a w e) 49 = some (false, 4, [am_iv (f 4900), am_iv (f 4901), am_iv (f 4902), .ref 50, .ref 51, am_iv (f 4905)]) := rfl
set_option maxRecDepth 100000 in
theorem am_sf4900 (v : Int) : (am_enc f a w e).set 49 (some (false, 4, [am_iv v, am_iv (f 4901), am_iv (f 4902), .ref 50, .ref 51, am_iv (f 4905)])) = am_enc (am_ud f 4900 v) a w e := rfl
set_option maxRecDepth 100000 in
theorem am_sf4901 (v : Int) : (am_enc f a w e).set 49 (some (false, 4, [am_iv (f 4900), am_iv v, am_iv (f 4902), .ref 50, .ref 51, am_iv (f 4905)])) = am_enc (am_ud f 4901 v) a w e := rfl
set_option maxRecDepth 100000 in
theorem am_sf4902 (v : Int) : (am_enc f a w e).set 49 (some (false, 4, [am_iv (f 4900), am_iv (f 4901), am_iv v, .ref 50, .ref 51, am_iv (f 4905)])) = am_enc (am_ud f 4902 v) a w e := rfl
set_option maxRecDepth 100000 in
theorem am_sf4905 (v : Int) : (am_enc f a w e).set 49 (some (false, 4, [am_iv (f 4900), am_iv (f 4901), am_iv (f 4902), .ref 50, .ref 51, am_iv v])) = am_enc (am_ud f 4905 v) a w e := rfl
theorem am_ge50 : am_get (am_enc f a w e) 50 = some (true, 0, (a 50).map am_iv) := rfl
set_option maxRecDepth 100000 in
theorem am_sa50 (l : List Int) : (am_enc f a w e).set 50 (some (true, 0, l.map am_iv)) = am_enc f (am_ud a 50 l) w e := rfl
theorem am_ge51 : am_get (am_enc f a w e) 51 = some (true, 0, (a 51).map am_iv) := rfl
set_option maxRecDepth 100000 in
theorem am_sa51 (l : List Int) : (am_enc f a w e).set 51 (some (true, 0, l.map am_iv)) = am_enc f (am_ud a 51 l) w e := rfl
theorem am_ge52 : am_get (am_enc f a w e) 52 = some (false, 4, [am_iv (f 5200), am_iv (f 5201), am_iv (f 5202), .ref 53, .ref 54, am_iv (f 5205)]) := rfl
set_option maxRecDepth 100000 in
theorem am_sf5200 (v : Int) : (am_enc f a w e).set 52 (some (false, 4, [am_iv v, am_iv (f 5201), am_iv (f 5202), .ref 53, .ref 54, am_iv (f 5205)])) = am_enc (am_ud f 5200 v) a w e := rfl
set_option maxRecDepth 100000 in
theorem am_sf5201 (v : Int) : (am_enc f a w e).set 52 (some (false, 4, [am_iv (f 5200), am_iv v, am_iv (f 5202), .ref 53, .ref 54, am_iv (f 5205)])) = am_enc (am_ud f 5201 v) a w e := rfl
set_option maxRecDepth 100000 in
theorem am_sf5202 (v : Int) : (am_enc f a w e).set 52 (some (false, 4, [am_iv (f 5200), am_iv (f 5201), am_iv v, .ref 53, .ref 54, am_iv (f 5205)])) = am_enc (am_ud f 5202 v) a w e := rfl
set_option maxRecDepth 100000 in
theorem am_sf5205 (v : Int) : (am_enc f a w e).set 52 (some (false, 4, [am_iv (f 5200), am_iv (f 5201), am_iv (f 5202), .ref 53, .ref 54, am_iv v])) = am_enc (am_ud f 5205 v) a w e := rfl
theorem am_ge53 : am_get (am_enc f a w e) 53 = some (true, 0, (a 53).map am_iv) := rfl
set_option maxRecDepth 100000 in
theorem am_sa53 (l : List Int) : (am_enc f a w e).set 53 (some (true, 0, l.map am_iv)) = am_enc f (am_ud a 53 l) w e := rfl
theorem am_ge54 : am_get (am_enc f a w e) 54 = some (true, 0, (a 54).map am_iv) := rfl
set_option maxRecDepth 100000 in
theorem am_sa54 (l : List Int) : (am_enc f a w e).set 54 (some (true, 0, l.map am_iv)) = am_enc f (am_ud a 54 l) w e := rfl
theorem am_ge55 : am_get (am_enc f a w e) 55 = some (false, 4, [am_iv (f 5500), am_iv (f 5501), am_iv (f 5502), .ref 56, .ref 57, am_iv (f 5505)]) := rfl
set_option maxRecDepth 100000 in
theorem am_sf5500 (v : Int) : (am_enc f a w e).set 55 (some (false, 4, [am_iv v, am_iv (f 5501), am_iv (f 5502), .ref 56, .ref 57, am_iv (f 5505)])) = am_enc (am_ud f 5500 v) a w e := rfl
set_option maxRecDepth 100000 in
theorem am_sf5501 (v : Int) : (am_enc f a w e).set 55 (some (false, 4, [am_iv (f 5500), am_iv v, am_iv (f 5502), .ref 56, .ref 57, am_iv (f 5505)])) = am_enc (am_ud f 5501 v) a w e := rfl
set_option maxRecDepth 100000 in
theorem am_sf5502 (v : Int) : (am_enc f a w e).set 55 (some (false, 4, [am_iv (f 5500), am_iv (f 5501), am_iv v, .ref 56, .ref 57, am_iv (f 5505)])) = am_enc (am_ud f 5502 v) a w e := rfl
set_option maxRecDepth 100000 in
theorem am_sf5505 (v : Int) : (am_enc f a w e).set 55 (some (false, 4, [am_iv (f 5500), am_iv (f 5501), am_iv (f 5502), .ref 56, .ref 57, am_iv v])) = am_enc (am_ud f 5505 v) a w e := rfl
theorem am_ge56 : am_get (am_enc f a w e) 56 = some (true, 0, (a 56).map am_iv) := rfl
set_option maxRecDepth 100000 in
theorem am_sa56 (l : List Int) : (am_enc f a w e).set 56 (some (true, 0, l.map am_iv)) = am_enc f (am_ud a 56 l) w e := rfl
theorem am_ge57 : am_get (am_enc f a w e) 57 = some (true, 0, (a 57).map am_iv) := rfl
set_option maxRecDepth 100000 in
theorem am_sa57 (l : List Int) : (am_enc f a w e).set 57 (some (true, 0, l.map am_iv)) = am_enc f (am_ud a 57 l) w e := rfl
theorem am_ge58 : am_get (am_enc f a w e) 58 = some (false, 4, [am_iv (f 5800), am_iv (f 5801), am_iv (f 5802), .ref 59, .ref 60, am_iv (f 5805)]) := rfl
set_option maxRecDepth 100000 in
theorem am_sf5800 (v : Int) : (am_enc f a w e).set 58 (some (false, 4, [am_iv v, am_iv (f 5801), am_iv (f 5802), .ref 59, .ref 60, am_iv (f 5805)])) = am_enc (am_ud f 5800 v) a w e := rfl
set_option maxRecDepth 100000 in
theorem am_sf5801 (v : Int) : (am_enc f a w e).set 58 (some (false, 4, [am_iv (f 5800), am_iv v, am_iv (f 5802), .ref 59, .ref 60, am_iv (f 5805)])) = am_enc (am_ud f 5801 v) a w e := rfl
set_option maxRecDepth 100000 in
theorem am_sf5802 (v : Int) : (am_enc f a w e).set 58 (some (false, 4, [am_iv (f 5800), am_iv (f 5801), am_iv v, .ref 59, .ref 60, am_iv (f 5805)])) = am_enc (am_ud f 5802 v) a w e := rfl
set_option maxRecDepth 100000 in
theorem am_sf5805 (v : Int) : (am_enc f a w e).set 58 (some (false, 4, [am_iv (f 5800), am_iv (f 5801), am_iv (f 5802), .ref 59, .ref 60, am_iv v])) = am_enc (am_ud f 5805 v) a w e := rfl
theorem am_ge59 : am_get (am_enc f a w e) 59 = some (true, 0, (a 59).map am_iv) := rfl
set_option maxRecDepth 100000 in
theorem am_sa59 (l : List Int) : (am_enc f a w e).set 59 (some (true, 0, l.map am_iv)) = am_enc f (am_ud a 59 l) w e := rfl
theorem am_ge60 : am_get (am_enc f a w e) 60 = some (true, 0, (a 60).map am_iv) := rfl
set_option maxRecDepth 100000 in
theorem am_sa60 (l : List Int) : (am_enc f a w e).set 60 (some (true, 0, l.map am_iv)) = am_enc f (am_ud a 60 l) w e := rfl
theorem am_ge61 : am_get (am_enc f a w e) 61 = some (false, 4, [am_iv (f 6100), am_iv (f 6101), am_iv (f 6102), .ref 62, .ref 63, am_iv (f 6105)]) := rfl
set_option maxRecDepth 100000 in
theorem am_sf6100 (v : Int) : (am_enc f a w e).set 61 (some (false, 4, [am_iv v, am_iv (f 6101), am_iv (f 6102), .ref 62, .ref 63, am_iv (f 6105)])) = am_enc (am_ud f 6100 v) a w e := rfl
set_option maxRecDepth 100000 in
theorem am_sf6101 (v : Int) : (am_enc f a w e).set 61 (some (false, 4, [am_iv (f 6100), am_iv v, am_iv (f 6102), .ref 62, .ref 63, am_iv (f 6105)])) = am_enc (am_ud f 6101 v) a w e := rfl
set_option maxRecDepth 100000 in
theorem am_sf6102 (v : Int) : (am_enc f a w e).set 61 (some (false, 4, [am_iv (f 6100), am_iv (f 6101), am_iv v, .ref 62, .ref 63, am_iv (f 6105)])) = am_enc (am_ud f 6102 v) a w e := rfl
set_option maxRecDepth 100000 in
theorem am_sf6105 (v : Int) : (am_enc f a w e).set 61 (some (false, 4, [am_iv (f 6100), am_iv (f 6101), am_iv (f 6102), .ref 62, .ref 63, am_iv v])) = am_enc (am_ud f 6105 v) a w e := rfl
theorem am_ge62 : am_get (am_enc f a w e) 62 = some (true, 0, (a 62).map am_iv) := rfl
set_option maxRecDepth 100000 in
theorem am_sa62 (l : List Int) : (am_enc f a w e).set 62 (some (true, 0, l.map am_iv)) = am_enc f (am_ud a 62 l) w e := rfl
theorem am_ge63 : am_get (am_enc f a w e) 63 = some (true, 0, (a 63).map am_iv) := rfl
set_option maxRecDepth 100000 in
theorem am_sa63 (l : List Int) : (am_enc f a w e).set 63 (some (true, 0, l.map am_iv)) = am_enc f (am_ud a 63 l) w e := rfl
theorem am_ge64 : am_get (am_enc f a w e) 64 = some (false, 4, [am_iv (f 6400), am_iv (f 6401), am_iv (f 6402), .ref 65, .ref 66, am_iv (f 6405)]) := rfl
set_option maxRecDepth 100000 in
theorem am_sf6400 (v : Int) : (am_enc f a w e).set 64 (some (false, 4, [am_iv v, am_iv (f 6401), am_iv (f 6402), .ref 65, .ref 66, am_iv (f 6405)])) = am_enc (am_ud f 6400 v) a w e := rfl
set_option maxRecDepth 100000 in
theorem am_sf6401 (v : Int) : (am_enc f a w e).set 64 (some (false, 4, [am_iv (f 6400), am_iv v, am_iv (f 6402), .ref 65, .ref 66, am_iv (f 6405)])) = am_enc (am_ud f 6401 v) a w e := rfl
set_option maxRecDepth 100000 in
theorem am_sf6402 (v : Int) : (am_enc f a w e).set 64 (some (false, 4, [am_iv (f 6400), am_iv (f 6401), am_iv v, .ref 65, .ref 66, am_iv (f 6405)])) = am_enc (am_ud f 6402 v) a w e := rfl
set_option maxRecDepth 100000 in
theorem am_sf6405 (v : Int) : (am_enc f a w e).set 64 (some (false, 4, [am_iv (f 6400), am_iv (f 6401), am_iv (f 6402), .ref 65, .ref 66, am_iv v])) = am_enc (am_ud f 6405 v) a w e := rfl
theorem am_ge65 : am_get (am_enc f a w e) 65 = some (true, 0, (a 65).map am_iv) := rfl
set_option maxRecDepth 100000 in
theorem am_sa65 (l : List Int) : (am_enc f a w e).set 65 (some (true, 0, l.map am_iv)) = am_enc f (am_ud a 65 l) w e := rfl
theorem am_ge66 : am_get (am_enc f a w e) 66 = some (true, 0, (a 66).map am_iv) := rfl
set_option maxRecDepth 100000 in
theorem am_sa66 (l : List Int) : (am_enc f a w e).set 66 (some (true, 0, l.map am_iv)) = am_enc f (am_ud a 66 l) w e := rfl
theorem am_ge67 : am_get (am_enc f a w e) 67 = some (false, 4, [am_iv (f 6700), am_iv (f 6701), am_iv (f 6702), .ref 68, .ref 69, am_iv (f 6705)]) := rfl
set_option maxRecDepth 100000 in
theorem am_sf6700 (v : Int) : (am_enc f a w e).set 67 (some (false, 4, [am_iv v, am_iv (f 6701), am_iv (f 6702), .ref 68, .ref 69, am_iv (f 6705)])) = am_enc (am_ud f 6700 v) a w e := rfl
set_option maxRecDepth 100000 in
theorem am_sf6701 (v : Int) : (am_enc f a w e).set 67 (some (false, 4, [am_iv (f 6700), am_iv v, am_iv (f 6702), .ref 68, .ref 69, am_iv (f 6705)])) = am_enc (am_ud f 6701 v) a w e := rfl
set_option maxRecDepth 100000 in
theorem am_sf6702 (v : Int) : (am_enc f a w e).set 67 (some (false, 4, [am_iv (f 6700), am_iv (f 6701), am_iv v, .ref 68, .ref 69, am_iv (f 6705)])) = am_enc (am_ud f 6702 v) a w e := rfl
set_option maxRecDepth 100000 in
theorem am_sf6705 (v : Int) : (am_enc f a w e).set 67 (some (false, 4, [am_iv (f 6700), am_iv (f 6701), am_iv (f 6702), .ref 68, .ref 69, am_iv v])) = am_enc (am_ud f 6705 v) a w e := rfl
theorem am_ge68 : am_get (am_enc f a w e) 68 = some (true, 0, (a 68).map am_iv) := rfl
set_option maxRecDepth 100000 in
theorem am_sa68 (l : List Int) : (am_enc f a w e).set 68 (some (true, 0, l.map am_iv)) = am_enc f (am_ud a 68 l) w e := rfl
theorem am_ge69 : am_get (am_enc f a w e) 69 = some (true, 0, (a 69).map am_iv) := rfl
set_option maxRecDepth 100000 in
theorem am_sa69 (l : List Int) : (am_enc f a w e).set 69 (some (true, 0, l.map am_iv)) = am_enc f (am_ud a 69 l) w e := rfl
theorem am_ge70 : am_get (am_enc f a w e) 70 = some (false, 4, [am_iv (f 7000), am_iv (f 7001), am_iv (f 7002), .ref 71, .ref 72, am_iv (f 7005)]) := rfl
set_option maxRecDepth 100000 in
theorem am_sf7000 (v : Int) : (am_enc f a w e).set 70 (some (false, 4, [am_iv v, am_iv (f 7001), am_iv (f 7002), .ref 71, .ref 72, am_iv (f 7005)])) = am_enc (am_ud f 7000 v) a w e := rfl
set_option maxRecDepth 100000 in
theorem am_sf7001 (v : Int) : (am_enc f a w e).set 70 (some (false, 4, [am_iv (f 7000), am_iv v, am_iv (f 7002), .ref 71, .ref 72, am_iv (f 7005)])) = am_enc (am_ud f 7001 v) a w e := rfl
set_option maxRecDepth 100000 in
theorem am_sf7002 (v : Int) : (am_enc f a w e).set 70 (some (false, 4, [am_iv (f 7000), am_iv (f 7001), am_iv v, .ref 71, .ref 72, am_iv (f 7005)])) = am_enc (am_ud f 7002 v) a w e := rfl
set_option maxRecDepth 100000 in
theorem am_sf7005 (v : Int) : (am_enc f a w e).set 70 (some (false, 4, [am_iv (f 7000), am_iv (f 7001), am_iv (f 7002), .ref 71, .ref 72, am_iv v])) = am_enc (am_ud f 7005 v) a w e := rfl
theorem am_ge71 : am_get (am_enc f a w e) 71 = some (true, 0, (a 71).map am_iv) := rfl
set_option maxRecDepth 100000 in
theorem am_sa71 (l : List Int) : (am_enc f a w e).set 71 (some (true, 0, l.map am_iv)) = am_enc f (am_ud a 71 l) w e := rfl
theorem am_ge72 : am_get (am_enc f a w e) 72 = some (true, 0, (a 72).map am_iv) := rfl
set_option maxRecDepth 100000 in
theorem am_sa72 (l : List Int) : (am_enc f a w e).set 72 (some (true, 0, l.map am_iv)) = am_enc f (am_ud a 72 l) w e := rfl
theorem am_ge73 : am_get (am_enc f a w e) 73 = some (false, 4, [am_iv (f 7300), am_iv (f 7301), am_iv (f 7302), .ref 74, .ref 75, am_iv (f 7305)]) := rfl
set_option maxRecDepth 100000 in
theorem am_sf7300 (v : Int) : (am_enc f a w e).set 73 (some (false, 4, [am_iv v, am_iv (f 7301), am_iv (f 7302), .ref 74, .ref 75, am_iv (f 7305)])) = am_enc (am_ud f 7300 v) a w e := rfl
set_option maxRecDepth 100000 in
theorem am_sf7301 (v : Int) : (am_enc f a w e).set 73 (some (false, 4, [am_iv (f 7300), am_iv v, am_iv (f 7302), .ref 74, .ref 75, am_iv (f 7305)])) = am_enc (am_ud f 7301 v) a w e := rfl
set_option maxRecDepth 100000 in
theorem am_sf7302 (v : Int) : (am_enc f a w e).set 73 (some (false, 4, [am_iv (f 7300), am_iv (f 7301), am_iv v, .ref 74, .ref 75, am_iv (f 7305)])) = am_enc (am_ud f 7302 v) a w e := rfl
set_option maxRecDepth 100000 in
theorem am_sf7305 (v : Int) : (am_enc f a w e).set 73 (some (false, 4, [am_iv (f 7300), am_iv (f 7301), am_iv (f 7302), .ref 74, .ref 75, am_iv v])) = am_enc (am_ud f 7305 v) a w e := rfl
theorem am_ge74 : am_get (am_enc f a w e) 74 = some (true, 0, (a 74).map am_iv) := rfl
set_option maxRecDepth 100000 in
theorem am_sa74 (l : List Int) : (am_enc f a w e).set 74 (some (true, 0, l.map am_iv)) = am_enc f (am_ud a 74 l) w e := rfl
theorem am_ge75 : am_get (am_enc f a w e) 75 = some (true, 0, (a 75).map am_iv) := rfl
set_option maxRecDepth 100000 in
theorem am_sa75 (l : List Int) : (am_enc f a w e).set 75 (some (true, 0, l.map am_iv)) = am_enc f (am_ud a 75 l) w e := rfl
theorem am_ge76 : am_get (am_enc f a w e) 76 = some (false, 4, [am_iv (f 7600), am_iv (f 7601), am_iv (f 7602), .ref 77, .ref 78, am_iv (f 7605)]) := rfl
set_option maxRecDepth 100000 in
theorem am_sf7600 (v : Int) : (am_enc f a w e).set 76 (some (false, 4, [am_iv v, am_iv (f 7601), am_iv (f 7602), .ref 77, .ref 78, am_iv (f 7605)])) = am_enc (am_ud f 7600 v) a w e := rfl
set_option maxRecDepth 100000 in
theorem am_sf7601 (v : Int) : (am_enc f a w e).set 76 (some (false, 4, [am_iv (f 7600), am_iv v, am_iv (f 7602), .ref 77, .ref 78, am_iv (f 7605)])) = am_enc (am_ud f 7601 v) a w e := rfl
set_option maxRecDepth 100000 in
theorem am_sf7602 (v : Int) : (am_enc f a w e).set 76 (some (false, 4, [am_iv (f 7600), am_iv (f 7601), am_iv v, .ref 77, .ref 78, am_iv (f 7605)])) = am_enc (am_ud f 7602 v) a w e := rfl
set_option maxRecDepth 100000 in
theorem am_sf7605 (v : Int) : (am_enc f a w e).set 76 (some (false, 4, [am_iv (f 7600), am_iv (f 7601), am_iv (f 7602), .ref 77, .ref 78, am_iv v])) = am_enc (am_ud f 7605 v) a w e := rfl
theorem am_ge77 : am_get (am_enc f a w e) 77 = some (true, 0, (a 77).map am_iv) := rfl
set_option maxRecDepth 100000 in
theorem am_sa77 (l : List Int) : (am_enc f a w e).set 77 (some (true, 0, l.map am_iv)) = am_enc f (am_ud a 77 l) w e := rfl
theorem am_ge78 : am_get (am_enc f a w e) 78 = some (true, 0, (a 78).map am_iv) := rfl
set_option maxRecDepth 100000 in
theorem am_sa78 (l : List Int) : (am_enc f a w e).set 78 (some (true, 0, l.map am_iv)) = am_enc f (am_ud a 78 l) w e := rfl
theorem am_ge79 : am_get (am_enc f a w e) 79 = some (false, 4, [am_iv (f 7900), am_iv (f 7901), am_iv (f 7902), .ref 80, .ref 81, am_iv (f 7905)]) := rfl
set_option maxRecDepth 100000 in
theorem am_sf7900 (v : Int) : (am_enc f a w e).set 79 (some (false, 4, [am_iv v, am_iv (f 7901), am_iv (f 7902), .ref 80, .ref 81, am_iv (f 7905)])) = am_enc (am_ud f 7900 v) a w e := rfl
set_option maxRecDepth 100000 in
theorem am_sf7901 (v : Int) : (am_enc f a w e).set 79 (some (false, 4, [am_iv (f 7900), am_iv v, am_iv (f 7902), .ref 80, .ref 81, am_iv (f 7905)])) = am_enc (am_ud f 7901 v) a w e := rfl
set_option maxRecDepth 100000 in
theorem am_sf7902 (v : Int) : (am_enc f a w e).set 79 (some (false, 4, [am_iv (f 7900), am_iv (f 7901), am_iv v, .ref 80, .ref 81, am_iv (f 7905)])) = am_enc (am_ud f 7902 v) a w e := rfl
set_option maxRecDepth 100000 in
theorem am_sf7905 (v : Int) : (am_enc f a w e).set 79 (some (false, 4, [am_iv (f 7900), am_iv (f 7901), am_iv (f 7902), .ref 80, .ref 81, am_iv v])) = am_enc (am_ud f 7905 v) a w e := rfl
theorem am_ge80 : am_get (am_enc f a w e) 80 = some (true, 0, (a 80).map am_iv) := rfl
set_option maxRecDepth 100000 in
theorem am_sa80 (l : List Int) : (am_enc f a w e).set 80 (some (true, 0, l.map am_iv)) = am_enc f (am_ud a 80 l) w e := rfl
theorem am_ge81 : am_get (am_enc f a w e) 81 = some (true, 0, (a 81).map am_iv) := rfl
set_option maxRecDepth 100000 in
theorem am_sa81 (l : List Int) : (am_enc f a w e).set 81 (some (true, 0, l.map am_iv)) = am_enc f (am_ud a 81 l) w e := rfl
theorem am_ge82 : am_get (am_enc f a w e) 82 = some (false, 4, [am_iv (f 8200), am_iv (f 8201), am_iv (f 8202), .ref 83, .ref 84, am_iv (f 8205)]) := rfl
set_option maxRecDepth 100000 in
theorem am_sf8200 (v : Int) : (am_enc f a w e).set 82 (some (false, 4, [am_iv v, am_iv (f 8201), am_iv (f 8202), .ref 83, .ref 84, am_iv (f 8205)])) = am_enc (am_ud f 8200 v) a w e := rfl
set_option maxRecDepth 100000 in
theorem am_sf8201 (v : Int) : (am_enc f a w e).set 82 (some (false, 4, [am_iv (f 8200), am_iv v, am_iv (f 8202), .ref 83, .ref 84, am_iv (f 8205)])) = am_enc (am_ud f 8201 v) a w e := rfl
set_option maxRecDepth 100000 in
theorem am_sf8202 (v : Int) : (am_enc f a w e).set 82 (some (false, 4, [am_iv (f 8200), am_iv (f 8201), am_iv v, .ref 83, .ref 84, am_iv (f 8205)])) = am_enc (am_ud f 8202 v) a w e := rfl
set_option maxRecDepth 100000 in
theorem am_sf8205 (v : Int) : (am_enc f a w e).set 82 (some (false, 4, [am_iv (f 8200), am_iv (f 8201), am_iv (f 8202), .ref 83, .ref 84, am_iv v])) = am_enc (am_ud f 8205 v) a w e := rfl
theorem am_ge83 : am_get (am_enc f a w e) 83 = some (true, 0, (a 83).map am_iv) := rfl
set_option maxRecDepth 100000 in
theorem am_sa83 (l : List Int) : (am_enc f a w e).set 83 (some (true, 0, l.map am_iv)) = am_enc f (am_ud a 83 l) w e := rfl
theorem am_ge84 : am_get (am_enc f a w e) 84 = some (true, 0, (a 84).map am_iv) := rfl
set_option maxRecDepth 100000 in
theorem am_sa84 (l : List Int) : (am_enc f a w e).set 84 (some (true, 0, l.map am_iv)) = am_enc f (am_ud a 84 l) w e := rfl
theorem am_ge85 : am_get (am_enc f a w e) 85 = some (false, 4, [am_iv (f 8500), am_iv (f 8501), am_iv (f 8502), .ref 86, .ref 87, am_iv (f 8505)]) := rfl
set_option maxRecDepth 100000 in
theorem am_sf8500 (v : Int) : (am_enc f a w e).set 85 (some (false, 4, [am_iv v, am_iv (f 8501), am_iv (f 8502), .ref 86, .ref 87, am_iv (f 8505)])) = am_enc (am_ud f 8500 v) a w e := rfl
set_option maxRecDepth 100000 in
theorem am_sf8501 (v : Int) : (am_enc f a w e).set 85 (some (false, 4, [am_iv (f 8500), am_iv v, am_iv (f 8502), .ref 86, .ref 87, am_iv (f 8505)])) = am_enc (am_ud f 8501 v) a w e := rfl
set_option maxRecDepth 100000 in
theorem am_sf8502 (v : Int) : (am_enc f a w e).set 85 (some (false, 4, [am_iv (f 8500), am_iv (f 8501), am_iv v, .ref 86, .ref 87, am_iv (f 8505)])) = am_enc (am_ud f 8502 v) a w e := rfl
set_option maxRecDepth 100000 in
theorem am_sf8505 (v : Int) : (am_enc f a w e).set 85 (some (false, 4, [am_iv (f 8500), am_iv (f 8501), am_iv (f 8502), .ref 86, .ref 87, am_iv v])) = am_enc (am_ud f 8505 v) a w e := rfl
theorem am_ge86 : am_get (am_enc f a w e) 86 = some (true, 0, (a 86).map am_iv) := rfl
set_option maxRecDepth 100000 in
theorem am_sa86 (l : List Int) : (am_enc f a w e).set 86 (some (true, 0, l.map am_iv)) = am_enc f (am_ud a 86 l) w e := rfl
theorem am_ge87 : am_get (am_enc f a w e) 87 = some (true, 0, (a 87).map am_iv) := rfl
set_option maxRecDepth 100000 in
theorem am_sa87 (l : List Int) : (am_enc f a w e).set 87 (some (true, 0, l.map am_iv)) = am_enc f (am_ud a 87 l) w e := rfl
theorem am_ge88 : am_get (am_enc f a w e) 88 = some (false, 4, [am_iv (f 8800), am_iv (f 8801), am_iv (f 8802), .ref 89, .ref 90, am_iv (f 8805)]) := rfl
set_option maxRecDepth 100000 in
theorem am_sf8800 (v : Int) : (am_enc f a w e).set 88 (some (false, 4, [am_iv v, am_iv (f 8801), am_iv (f 8802), .ref 89, .ref 90, am_iv (f 8805)])) = am_enc (am_ud f 8800 v) a w e := rfl
set_option maxRecDepth 100000 in
theorem am_sf8801 (v : Int) : (am_enc f a w e).set 88 (some (false, 4, [am_iv (f 8800), am_iv v, am_iv (f 8802), .ref 89, .ref 90, am_iv (f 8805)])) = am_enc (am_ud f 8801 v) a w e := rfl
set_option maxRecDepth 100000 in
theorem am_sf8802 (v : Int) : (am_enc f a w e).set 88 (some (false, 4, [am_iv (f 8800), am_iv (f 8801), am_iv v, .ref 89, .ref 90, am_iv (f 8805)])) = am_enc (am_ud f 8802 v) a w e := rfl
set_option maxRecDepth 100000 in
theorem am_sf8805 (v : Int) : (am_enc f a w e).set 88 (some (false, 4, [am_iv (f 8800), am_iv (f 8801), am_iv (f 8802), .ref 89, .ref 90, am_iv v])) = am_enc (am_ud f 8805 v) a w e := rfl
theorem am_ge89 : am_get (am_enc f a w e) 89 = some (true, 0, (a 89).map am_iv) := rfl
set_option maxRecDepth 100000 in
theorem am_sa89 (l : List Int) : (am_enc f a w e).set 89 (some (true, 0, l.map am_iv)) = am_enc f (am_ud a 89 l) w e := rfl
theorem am_ge90 : am_get (am_enc f a w e) 90 = some (true, 0, (a 90).map am_iv) := rfl
set_option maxRecDepth 100000 in
theorem am_sa90 (l : List Int) : (am_enc f a w e).set 90 (some (true, 0, l.map am_iv)) = am_enc f (am_ud a 90 l) w e := rfl
theorem am_ge91 : am_get (am_enc f a w e) 91 = some (false, 4, [am_iv (f 9100), am_iv (f 9101), am_iv (f 9102), .ref 92, .ref 93, am_iv (f 9105)]) := rfl
set_option maxRecDepth 100000 in
theorem am_sf9100 (v : Int) : (am_enc f a w e).set 91 (some (false, 4, [am_iv v, am_iv (f 9101), am_iv (f 9102), .ref 92, .ref 93, am_iv (f 9105)])) = am_enc (am_ud f 9100 v) a w e := rfl
set_option maxRecDepth 100000 in
theorem am_sf9101 (v : Int) : (am_enc f a w e).set 91 (some (false, 4, [am_iv (f 9100), am_iv v, am_iv (f 9102), .ref 92, .ref 93, am_iv (f 9105)])) = am_enc (am_ud f 9101 v) a w e := rfl
set_option maxRecDepth 100000 in
theorem am_sf9102 (v : Int) : (am_enc f a w e).set 91 (some (false, 4, [am_iv (f 9100), am_iv (f 9101), am_iv v, .ref 92, .ref 93, am_iv (f 9105)])) = am_enc (am_ud f 9102 v) a w e := rfl
set_option maxRecDepth 100000 in
theorem am_sf9105 (v : Int) : (am_enc f a w e).set 91 (some (false, 4, [am_iv (f 9100), am_iv (f 9101), am_iv (f 9102), .ref 92, .ref 93, am_iv v])) = am_enc (am_ud f 9105 v) a w e := rfl
theorem am_ge92 : am_get (am_enc f a w e) 92 = some (true, 0, (a 92).map am_iv) := rfl
set_option maxRecDepth 100000 in
theorem am_sa92 (l : List Int) : (am_enc f a w e).set 92 (some (true, 0, l.map am_iv)) = am_enc f (am_ud a 92 l) w e := rfl
theorem am_ge93 : am_get (am_enc f a w e) 93 = some (true, 0, (a 93).map am_iv) := rfl
set_option maxRecDepth 100000 in
theorem am_sa93 (l : List Int) : (am_enc f a w e).set 93 (some (true, 0, l.map am_iv)) = am_enc f (am_ud a 93 l) w e := rfl
theorem am_ge94 : am_get (am_enc f a w e) 94 = some (false, 4, [am_iv (f 9400), am_iv (f 9401), am_iv (f 9402), .ref 95, .ref 96, am_iv (f 9405)]) := rfl
set_option maxRecDepth 100000 in
theorem am_sf9400 (v : Int) : (am_enc f a w e).set 94 (some (false, 4, [am_iv v, am_iv (f 9401), am_iv (f 9402), .ref 95, .ref 96, am_iv (f 9405)])) = am_enc (am_ud f 9400 v) a w e := rfl
set_option maxRecDepth 100000 in
theorem am_sf9401 (v : Int) : (am_enc f a w e).set 94 (some (false, 4, [am_iv (f 9400), am_iv v, am_iv (f 9402), .ref 95, .ref 96, am_iv (f 9405)])) = am_enc (am_ud f 9401 v) a w e := rfl
set_option maxRecDepth 100000 in
theorem am_sf9402 (v : Int) : (am_enc f a w e).set 94 (some (false, 4, [am_iv (f 9400), am_iv (f 9401), am_iv v, .ref 95, .ref 96, am_iv (f 9405)])) = am_enc (am_ud f 9402 v) a w e := rfl
set_option maxRecDepth 100000 in
theorem am_sf9405 (v : Int) : (am_enc f a w e).set 94 (some (false, 4, [am_iv (f 9400), am_iv (f 9401), am_iv (f 9402), .ref 95, .ref 96, am_iv v])) = am_enc (am_ud f 9405 v) a w e := rfl
theorem am_ge95 : am_get (am_enc f a w e) 95 = some (true, 0, (a 95).map am_iv) := rfl
set_option maxRecDepth 100000 in
theorem am_sa95 (l : List Int) : (am_enc f a w e).set 95 (some (true, 0, l.map am_iv)) = am_enc f (am_ud a 95 l) w e := rfl
theorem am_ge96 : am_get (am_enc f a w e) 96 = some (true, 0, (a 96).map am_iv) := rfl
set_option maxRecDepth 100000 in
theorem am_sa96 (l : List Int) : (am_enc f a w e).set 96 (some (true, 0, l.map am_iv)) = am_enc f (am_ud a 96 l) w e := rfl
theorem am_ge97 : am_get (am_enc f a w e) 97 = some (false, 4, [am_iv (f 9700), am_iv (f 9701), am_iv (f 9702), .ref 98, .ref 99, am_iv (f 9705)]) := rfl
set_option maxRecDepth 100000 in
theorem am_sf9700 (v : Int) : (am_enc f a w e).set 97 (some (false, 4, [am_iv v, am_iv (f 9701), am_iv (f 9702), .ref 98, .ref 99, am_iv (f 9705)])) = am_enc (am_ud f 9700 v) a w e := rfl
set_option maxRecDepth 100000 in
theorem am_sf9701 (v : Int) : (am_enc f a w e).set 97 (some (false, 4, [am_iv (f 9700), am_iv v, am_iv (f 9702), .ref 98, .ref 99, am_iv (f 9705)])) = am_enc (am_ud f 9701 v) a w e := rfl
set_option maxRecDepth 100000 in
theorem am_sf9702 (v : Int) : (am_enc f a w e).set 97 (some (false, 4, [am_iv (f 9700), am_iv (f 9701), am_iv v, .ref 98, .ref 99, am_iv (f 9705)])) = am_enc (am_ud f 9702 v) a w e := rfl
set_option maxRecDepth 100000 in
theorem am_sf9705 (v : Int) : (am_enc f a w e).set 97 (some (false, 4, [am_iv (f 9700), am_iv (f 9701), am_iv (f 9702), .ref 98, .ref 99, am_iv v])) = am_enc (am_ud f 9705 v) a w e := rfl
theorem am_ge98 : am_get (am_enc f a w e) 98 = some (true, 0, (a 98).map am_iv) := rfl
set_option maxRecDepth 100000 in
theorem am_sa98 (l : List Int) : (am_enc f a w e).set 98 (some (true, 0, l.map am_iv)) = am_enc f (am_ud a 98 l) w e := rfl
theorem am_ge99 : am_get (am_enc f a w e) 99 = some (true, 0, (a 99).map am_iv) := rfl
set_option maxRecDepth 100000 in
theorem am_sa99 (l : List Int) : (am_enc f a w e).set 99 (some (true, 0, l.map am_iv)) = am_enc f (am_ud a 99 l) w e := rfl
theorem am_ge100 : am_get (am_enc f a w e) 100 = some (false, 4, [am_iv (f 10000), am_iv (f 10001), am_iv (f 10002), .ref 101, .ref 102, am_iv (f 10005)]) := rfl
set_option maxRecDepth 100000 in
theorem am_sf10000 (v : Int) : (am_enc f a w e).set 100 (some (false, 4, [am_iv v, am_iv (f 10001), am_iv (f 10002), .ref 101, .ref 102, am_iv (f 10005)])) = am_enc (am_ud f 10000 v) a w e := rfl
set_option maxRecDepth 100000 in
theorem am_sf10001 (v : Int) : (am_enc f a w e).set 100 (some (false, 4, [am_iv (f 10000), am_iv v, am_iv (f 10002), .ref 101, .ref 102, am_iv (f 10005)])) = am_enc (am_ud f 10001 v) a w e := rfl
set_option maxRecDepth 100000 in
theorem am_sf10002 (v : Int) : (am_enc f a w e).set 100 (some (false, 4, [am_iv (f 10000), am_iv (f 10001), am_iv v, .ref 101, .ref 102, am_iv (f 10005)])) = am_enc (am_ud f 10002 v) a w e := rfl
set_option maxRecDepth 100000 in
theorem am_sf10005 (v : Int) : (am_enc f a w e).set 100 (some (false, 4, [am_iv (f 10000), am_iv (f 10001), am_iv (f 10002), .ref 101, .ref 102, am_iv v])) = am_enc (am_ud f 10005 v) a w e := rfl
theorem am_ge101 : am_get (am_enc f a w e) 101 = some (true, 0, (a 101).map am_iv) := rfl
set_option maxRecDepth 100000 in
theorem am_sa101 (l : List Int) : (am_enc f a w e).set 101 (some (true, 0, l.map am_iv)) = am_enc f (am_ud a 101 l) w e := rfl
theorem am_ge102 : am_get (am_enc f a w e) 102 = some (true, 0, (a 102).map am_iv) := rfl
set_option maxRecDepth 100000 in
theorem am_sa102 (l : List Int) : (am_enc f a w e).set 102 (some (true, 0, l.map am_iv)) = am_enc f (am_ud a 102 l) w e := rfl
theorem am_ge103 : am_get (am_enc f a w e) 103 = some (false, 4, [am_iv (f 10300), am_iv (f 10301), am_iv (f 10302), .ref 104, .ref 105, am_iv (f 10305)]) := rfl
set_option maxRecDepth 100000 in
theorem am_sf10300 (v : Int) : (am_enc f a w e).set 103 (some (false, 4, [am_iv v, am_iv (f 10301), am_iv (f 10302), .ref 104, .ref 105, am_iv (f 10305)])) = am_enc (am_ud f 10300 v) a w e := rfl
set_option maxRecDepth 100000 in
theorem am_sf10301 (v : Int) : (am_enc f a w e).set 103 (some (false, 4, [am_iv (f 10300), am_iv v, am_iv (f 10302), .ref 104, .ref 105, am_iv (f 10305)])) = am_enc (am_ud f 10301 v) a w e := rfl
set_option maxRecDepth 100000 in
theorem am_sf10302 (v : Int) : (am_enc f a w e).set 103 (some (false, 4, [am_iv (f 10300), am_iv (f 10301), am_iv v, .ref 104, .ref 105, am_iv (f 10305)])) = am_enc (am_ud f 10302 v) a w e := rfl
set_option maxRecDepth 100000 in
theorem am_sf10305 (v : Int) : (am_enc f a w e).set 103 (some (false, 4, [am_iv (f 10300), am_iv (f 10301), am_iv (f 10302), .ref 104, .ref 105, am_iv v])) = am_enc (am_ud f 10305 v) a w e := rfl
theorem am_ge104 : am_get (am_enc f a w e) 104 = some (true, 0, (a 104).map am_iv) := rfl
set_option maxRecDepth 100000 in
theorem am_sa104 (l : List Int) : (am_enc f a w e).set 104 (some (true, 0, l.map am_iv)) = am_enc f (am_ud a 104 l) w e := rfl
theorem am_ge105 : am_get (am_enc f a w e) 105 = some (true, 0, (a 105).map am_iv) := rfl
set_option maxRecDepth 100000 in
theorem am_sa105 (l : List Int) : (am_enc f a w e).set 105 (some (true, 0, l.map am_iv)) = am_enc f (am_ud a 105 l) w e := rfl
theorem am_ge106 : am_get (am_enc f a w e) 106 = some (false, 1, [.ref 107, .ref 108, .ref 109, .ref 110, .ref 111, .ref 112, am_iv (f 10606), am_iv (f 10607)]) := rfl
set_option maxRecDepth 100000 in
theorem am_sf10606 (v : Int) : (am_enc f a w e).set 106 (some (false, 1, [.ref 107, .ref 108, .ref 109, .ref 110, .ref 111, .ref 112, am_iv v, am_iv (f 10607)])) = am_enc (am_ud f 10606 v) a w e := rfl
set_option maxRecDepth 100000 in
theorem am_sf10607 (v : Int) : (am_enc f a w e).set 106 (some (false, 1, [.ref 107, .ref 108, .ref 109, .ref 110, .ref 111, .ref 112, am_iv (f 10606), am_iv v])) = am_enc (am_ud f 10607 v) a w e := rfl
theorem am_ge107 : am_get (am_enc f a w e) 107 = some (true, 0, (a 107).map am_iv) := rfl
set_option maxRecDepth 100000 in
theorem am_sa107 (l : List Int) : (am_enc f a w e).set 107 (some (true, 0, l.map am_iv)) = am_enc f (am_ud a 107 l) w e := rfl
theorem am_ge108 : am_get (am_enc f a w e) 108 = some (true, 0, (a 108).map am_iv) := rfl
set_option maxRecDepth 100000 in
theorem am_sa108 (l : List Int) : (am_enc f a w e).set 108 (some (true, 0, l.map am_iv)) = am_enc f (am_ud a 108 l) w e := rfl
theorem am_ge109 : am_get (am_enc f a w e) 109 = some (true, 0, (a 109).map am_iv) := rfl
set_option maxRecDepth 100000 in
theorem am_sa109 (l : List Int) : (am_enc f a w e).set 109 (some (true, 0, l.map am_iv)) = am_enc f (am_ud a 109 l) w e := rfl
theorem am_ge110 : am_get (am_enc f a w e) 110 = some (true, 0, (a 110).map am_iv) := rfl
set_option maxRecDepth 100000 in
theorem am_sa110 (l : List Int) : (am_enc f a w e).set 110 (some (true, 0, l.map am_iv)) = am_enc f (am_ud a 110 l) w e := rfl
theorem am_ge111 : am_get (am_enc f a w e) 111 = some (true, 0, (a 111).map am_iv) := rfl
set_option maxRecDepth 100000 in
theorem am_sa111 (l : List Int) : (am_enc f a w e).set 111 (some (true, 0, l.map am_iv)) = am_enc f (am_ud a 111 l) w e := rfl
theorem am_ge112 : am_get (am_enc f a w e) 112 = some (true, 0, (a 112).map am_iv) := rfl
set_option maxRecDepth 100000 in
theorem am_sa112 (l : List Int) : (am_enc f a w e).set 112 (some (true, 0, l.map am_iv)) = am_enc f (am_ud a 112 l) w e := rfl
theorem am_ge113 : am_get (am_enc f a w e) 113 = some (false, 8, [.ref 2, .ref 4, .ref 10, .ref 17, .ref 106]) := rfl
theorem am_ge114 : am_get (am_enc f a w e) 114 = some (false, 2, [.ref 2, .ref 12, .ref 17, .ref 106, .ref 115, .ref 116, am_iv (f 11406), am_iv (f 11407)]) := rfl
set_option maxRecDepth 100000 in
theorem am_sf11406 (v : Int) : (am_enc f a w e).set 114 (some (false, 2, [.ref 2, .ref 12, .ref 17, .ref 106, .ref 115, .ref 116, am_iv v, am_iv (f 11407)])) = am_enc (am_ud f 11406 v) a w e := rfl
set_option maxRecDepth 100000 in
theorem am_sf11407 (v : Int) : (am_enc f a w e).set 114 (some (false, 2, [.ref 2, .ref 12, .ref 17, .ref 106, .ref 115, .ref 116, am_iv (f 11406), am_iv v])) = am_enc (am_ud f 11407 v) a w e := rfl
theorem am_ge115 : am_get (am_enc f a w e) 115 = some (true, 0, (a 115).map am_iv) := rfl
set_option maxRecDepth 100000 in
theorem am_sa115 (l : List Int) : (am_enc f a w e).set 115 (some (true, 0, l.map am_iv)) = am_enc f (am_ud a 115 l) w e := rfl
theorem am_ge116 : am_get (am_enc f a w e) 116 = some (true, 0, (a 116).map am_iv) := rfl
set_option maxRecDepth 100000 in
theorem am_sa116 (l : List Int) : (am_enc f a w e).set 116 (some (true, 0, l.map am_iv)) = am_enc f (am_ud a 116 l) w e := rfl
theorem am_ge117 : am_get (am_enc f a w e) 117 = some (false, 11, [am_iv (f 11700), am_iv (f 11701), am_iv (f 11702), am_iv (f 11703), am_iv (f 11704), .ref 118, .ref 119, am_iv (f 11707), .ref 120, am_iv (f 11709), .ref 121, .ref 122, .ref 123, am_iv (f 11713), .ref 124, .ref 125, .ref 126, .ref 127, am_iv (f 11718), .ref 128, .ref 129, .ref 130, .ref 131, am_iv (f 11723), am_iv (f 11724), .ref 132, .ref 133, .ref 134, .ref 135, .ref 136, .ref 137, .ref 138, .ref 139, .ref 140, .ref 141, .ref 142, .ref 143, .ref 144, am_iv (f 11738), am_iv (f 11739), am_iv (f 11740), am_iv (f 11741), .ref 145, .ref 146, .ref 147, .ref 148, .ref 149, .ref 150, .ref 151, .ref 152, am_iv (f 11750), .ref 153, .ref 154, am_iv (f 11753), .ref 155, am_iv (f 11755), .ref 156, am_iv (f 11757), .ref 157, .ref 158, .ref 159, .ref 160, .ref 161, am_iv (f 11763), .ref 162]) := rfl
set_option maxRecDepth 100000 in
theorem am_sf11700 (v : Int) : (am_enc f a w e).set 117 (some (false, 11, [am_iv v, am_iv (f 11701), am_iv (f 11702), am_iv (f 11703), am_iv (f 11704), .ref 118, .ref 119, am_iv (f 11707), .ref 120, am_iv (f 11709), .ref 121, .ref 122, .ref 123, am_iv (f 11713), .ref 124, .ref 125, .ref 126, .ref 127, am_iv (f 11718), .ref 128, .ref 129, .ref 130, .ref 131, am_iv (f 11723), am_iv (f 11724), .ref 132, .ref 133, .ref 134, .ref 135, .ref 136, .ref 137, .ref 138, .ref 139, .ref 140, .ref 141, .ref 142, .ref 143, .ref 144, am_iv (f 11738), am_iv (f 11739), am_iv (f 11740), am_iv (f 11741), .ref 145, .ref 146, .ref 147, .ref 148, .ref 149, .ref 150, .ref 151, .ref 152, am_iv (f 11750), .ref 153, .ref 154, am_iv (f 11753), .ref 155, am_iv (f 11755), .ref 156, am_iv (f 11757), .ref 157, .ref 158, .ref 159, .ref 160, .ref 161, am_iv (f 11763), .ref 162])) = am_enc (am_ud f 11700 v) a w e := rfl
set_option maxRecDepth 100000 in
theorem am_sf11701 (v : Int) : (am_enc f a w e).set 117 (some (false, 11, [am_iv (f 11700), am_iv v, am_iv (f 11702), am_iv (f 11703), am_iv (f 11704), .ref 118, .ref 119, am_iv (f 11707), .ref 120, am_iv (f 11709), .ref 121, .ref 122, .ref 123, am_iv (f 11713), .ref 124, .ref 125, .ref 126, .ref 127, am_iv (f 11718), .ref 128, .ref 129, .ref 130, .ref 131, am_iv (f 11723), am_iv (f 11724), .ref 132, .ref 133, .ref 134, .ref 135, .ref 136, .ref 137, .ref 138, .ref 139, .ref 140, .ref 141, .ref 142, .ref 143, .ref 144, am_iv (f 11738), am_iv (f 11739), am_iv (f 11740), am_iv (f 11741), .ref 145, .ref 146, .ref 147, .ref 148, .ref 149, .ref 150, .ref 151, .ref 152, am_iv (f 11750), .ref 153, .ref 154, am_iv (f 11753), .ref 155, am_iv (f 11755), .ref 156, am_iv (f 11757), .ref 157, .ref 158, .ref 159, .ref 160, .ref 161, am_iv (f 11763), .ref 162])) = am_enc (am_ud f 11701 v) a w e := rfl
set_option maxRecDepth 100000 in
theorem am_sf11702 (v : Int) : (am_enc f a w e).set 117 (some (false, 11, [am_iv (f 11700), am_iv (f 11701), am_iv v, am_iv (f 11703), am_iv (f 11704), .ref 118, .ref 119, am_iv (f 11707), .ref 120, am_iv (f 11709), .ref 121, .ref 122, .ref 123, am_iv (f 11713), .ref 124, .ref 125, .ref 126, .ref 127, am_iv (f 11718), .ref 128, .ref 129, .ref 130, .ref 131, am_iv (f 11723), am_iv (f 11724), .ref 132, .ref 133, .ref 134, .ref 135, .ref 136, .ref 137, .ref 138, .ref 139, .ref 140, .ref 141, .ref 142, .ref 143, .ref 144, am_iv (f 11738), am_iv (f 11739), am_iv (f 11740), am_iv (f 11741), .ref 145, .ref 146, .ref 147, .ref 148, .ref 149, .ref 150, .ref 151, .ref 152, am_iv (f 11750), .ref 153, .ref 154, am_iv (f 11753), .ref 155, am_iv (f 11755), .ref 156, am_iv (f 11757), .ref 157, .ref 158, .ref 159, .ref 160, .ref 161, am_iv (f 11763), .ref 162])) = am_enc (am_ud f 11702 v) a w e := rfl
set_option maxRecDepth 100000 in
theorem am_sf11703 (v : Int) : (am_enc f a w e).set 117 (some (false, 11, [am_iv (f 11700), am_iv (f 11701), am_iv (f 11702), am_iv v, am_iv (f 11704), .ref 118, .ref 119, am_iv (f 11707), .ref 120, am_iv (f 11709), .ref 121, .ref 122, .ref 123, am_iv (f 11713), .ref 124, .ref 125, .ref 126, .ref 127, am_iv (f 11718), .ref 128, .ref 129, .ref 130, .ref 131, am_iv (f 11723), am_iv (f 11724), .ref 132, .ref 133, .ref 134, .ref 135, .ref 136, .ref 137, .ref 138, .ref 139, .ref 140, .ref 141, .ref 142, .ref 143, .ref 144, am_iv (f 11738), am_iv (f 11739), am_iv (f 11740), am_iv (f 11741), .ref 145, .ref 146, .ref 147, .ref 148, .ref 149, .ref 150, .ref 151, .ref 152, am_iv (f 11750), .ref 153, .ref 154, am_iv (f 11753), .ref 155, am_iv (f 11755), .ref 156, am_iv (f 11757), .ref 157, .ref 158, .ref 159, .ref 160, .ref 161, am_iv (f 11763), .ref 162])) = am_enc (am_ud f 11703 v) a w e := rfl
set_option maxRecDepth 100000 in
theorem am_sf11704 (v : Int) : (am_enc f a w e).set 117 (some (false, 11, [am_iv (f 11700), am_iv (f 11701), am_iv (f 11702), am_iv (f 11703), am_iv v, .ref 118, .ref 119, am_iv (f 11707), .ref 120, am_iv (f 11709), .ref 121, .ref 122, .ref 123, am_iv (f 11713), .ref 124, .ref 125, .ref 126, .ref 127, am_iv (f 11718), .ref 128, .ref 129, .ref 130, .ref 131, am_iv (f 11723), am_iv (f 11724), .ref 132, .ref 133, .ref 134, .ref 135, .ref 136, .ref 137, .ref 138, .ref 139, .ref 140, .ref 141, .ref 142, .ref 143, .ref 144, am_iv (f 11738), am_iv (f 11739), am_iv (f 11740), am_iv (f 11741), .ref 145, .ref 146, .ref 147, .ref 148, .ref 149, .ref 150, .ref 151, .ref 152, am_iv (f 11750), .ref 153, .ref 154, am_iv (f 11753), .ref 155, am_iv (f 11755), .ref 156, am_iv (f 11757), .ref 157, .ref 158, .ref 159, .ref 160, .ref 161, am_iv (f 11763), .ref 162])) = am_enc (am_ud f 11704 v) a w e := rfl
set_option maxRecDepth 100000 in
theorem am_sf11707 (v : Int) : (am_enc f a w e).set 117 (some (false, 11, [am_iv (f 11700), am_iv (f 11701), am_iv (f 11702), am_iv (f 11703), am_iv (f 11704), .ref 118, .ref 119, am_iv v, .ref 120, am_iv (f 11709), .ref 121, .ref 122, .ref 123, am_iv (f 11713), .ref 124, .ref 125, .ref 126, .ref 127, am_iv (f 11718), .ref 128, .ref 129, .ref 130, .ref 131, am_iv (f 11723), am_iv (f 11724), .ref 132, .ref 133, .ref 134, .ref 135, .ref 136, .ref 137, .ref 138, .ref 139, .ref 140, .ref 141, .ref 142, .ref 143, .ref 144, am_iv (f 11738), am_iv (f 11739), am_iv (f 11740), am_iv (f 11741), .ref 145, .ref 146, .ref 147, .ref 148, .ref 149, .ref 150, .ref 151, .ref 152, am_iv (f 11750), .ref 153, .ref 154, am_iv (f 11753), .ref 155, am_iv (f 11755), .ref 156, am_iv (f 11757), .ref 157, .ref 158, .ref 159, .ref 160, .ref 161, am_iv (f 11763), .ref 162])) = am_enc (am_ud f 11707 v) a w e := rfl
set_option maxRecDepth 100000 in
theorem am_sf11709 (v : Int) : (am_enc f a w e).set 117 (some (false, 11, [am_iv (f 11700), am_iv (f 11701), am_iv (f 11702), am_iv (f 11703), am_iv (f 11704), .ref 118, .ref 119, am_iv (f 11707), .ref 120, am_iv v, .ref 121, .ref 122, .ref 123, am_iv (f 11713), .ref 124, .ref 125, .ref 126, .ref 127, am_iv (f 11718), .ref 128, .ref 129, .ref 130, .ref 131, am_iv (f 11723), am_iv (f 11724), .ref 132, .ref 133, .ref 134, .ref 135, .ref 136, .ref 137, .ref 138, .ref 139, .ref 140, .ref 141, .ref 142, .ref 143, .ref 144, am_iv (f 11738), am_iv (f 11739), am_iv (f 11740), am_iv (f 11741), .ref 145, .ref 146, .ref 147, .ref 148, .ref 149, .ref 150, .ref 151, .ref 152, am_iv (f 11750), .ref 153, .ref 154, am_iv (f 11753), .ref 155, am_iv (f 11755), .ref 156, am_iv (f 11757), .ref 157, .ref 158, .ref 159, .ref 160, .ref 161, am_iv (f 11763), .ref 162])) = am_enc (am_ud f 11709 v) a w e := rfl
set_option maxRecDepth 100000 in
theorem am_sf11713 (v : Int) : (am_enc f a w e).set 117 (some (false, 11, [am_iv (f 11700), am_iv (f 11701), am_iv (f 11702), am_iv (f 11703), am_iv (f 11704), .ref 118, .ref 119, am_iv (f 11707), .ref 120, am_iv (f 11709), .ref 121, .ref 122, .ref 123, am_iv v, .ref 124, .ref 125, .ref 126, .ref 127, am_iv (f 11718), .ref 128, .ref 129, .ref 130, .ref 131, am_iv (f 11723), am_iv (f 11724), .ref 132, .ref 133, .ref 134, .ref 135, .ref 136, .ref 137, .ref 138, .ref 139, .ref 140, .ref 141, .ref 142, .ref 143, .ref 144, am_iv (f 11738), am_iv (f 11739), am_iv (f 11740), am_iv (f 11741), .ref 145, .ref 146, .ref 147, .ref 148, .ref 149, .ref 150, .ref 151, .ref 152, am_iv (f 11750), .ref 153, .ref 154, am_iv (f 11753), .ref 155, am_iv (f 11755), .ref 156, am_iv (f 11757), .ref 157, .ref 158, .ref 159, .ref 160, .ref 161, am_iv (f 11763), .ref 162])) = am_enc (am_ud f 11713 v) a w e := rfl
set_option maxRecDepth 100000 in
theorem am_sf11718 (v : Int) : (am_enc f a w e).set 117 (some (false, 11, [am_iv (f 11700), am_iv (f 11701), am_iv (f 11702), am_iv (f 11703), am_iv (f 11704), .ref 118, .ref 119, am_iv (f 11707), .ref 120, am_iv (f 11709), .ref 121, .ref 122, .ref 123, am_iv (f 11713), .ref 124, .ref 125, .ref 126, .ref 127, am_iv v, .ref 128, .ref 129, .ref 130, .ref 131, am_iv (f 11723), am_iv (f 11724), .ref 132, .ref 133, .ref 134, .ref 135, .ref 136, .ref 137, .ref 138, .ref 139, .ref 140, .ref 141, .ref 142, .ref 143, .ref 144, am_iv (f 11738), am_iv (f 11739), am_iv (f 11740), am_iv (f 11741), .ref 145, .ref 146, .ref 147, .ref 148, .ref 149, .ref 150, .ref 151, .ref 152, am_iv (f 11750), .ref 153, .ref 154, am_iv (f 11753), .ref 155, am_iv (f 11755), .ref 156, am_iv (f 11757), .ref 157, .ref 158, .ref 159, .ref 160, .ref 161, am_iv (f 11763), .ref 162])) = am_enc (am_ud f 11718 v) a w e := rfl
set_option maxRecDepth 100000 in
theorem am_sf11723 (v : Int) : (am_enc f a w e).set 117 (some (false, 11, [am_iv (f 11700), am_iv (f 11701), am_iv (f 11702), am_iv (f 11703), am_iv (f 11704), .ref 118, .ref 119, am_iv (f 11707), .ref 120, am_iv (f 11709), .ref 121, .ref 122, .ref 123, am_iv (f 11713), .ref 124, .ref 125, .ref 126, .ref 127, am_iv (f 11718), .ref 128, .ref 129, .ref 130, .ref 131, am_iv v, am_iv (f 11724), .ref 132, .ref 133, .ref 134, .ref 135, .ref 136, .ref 137, .ref 138, .ref 139, .ref 140, .ref 141, .ref 142, .ref 143, .ref 144, am_iv (f 11738), am_iv (f 11739), am_iv (f 11740), am_iv (f 11741), .ref 145, .ref 146, .ref 147, .ref 148, .ref 149, .ref 150, .ref 151, .ref 152, am_iv (f 11750), .ref 153, .ref 154, am_iv (f 11753), .ref 155, am_iv (f 11755), .ref 156, am_iv (f 11757), .ref 157, .ref 158, .ref 159, .ref 160, .ref 161, am_iv (f 11763), .ref 162])) = am_enc (am_ud f 11723 v) a w e := rfl
set_option maxRecDepth 100000 in
theorem am_sf11724 (v : Int) : (am_enc f a w e).set 117 (some (false, 11, [am_iv (f 11700), am_iv (f 11701), am_iv (f 11702), am_iv (f 11703), am_iv (f 11704), .ref 118, .ref 119, am_iv (f 11707), .ref 120, am_iv (f 11709), .ref 121, .ref 122, .ref 123, am_iv (f 11713), .ref 124, .ref 125, .ref 126, .ref 127, am_iv (f 11718), .ref 128, .ref 129, .ref 130, .ref 131, am_iv (f 11723), am_iv v, .ref 132, .ref 133, .ref 134, .ref 135, .ref 136, .ref 137, .ref 138, .ref 139, .ref 140, .ref 141, .ref 142, .ref 143, .ref 144, am_iv (f 11738), am_iv (f 11739), am_iv (f 11740), am_iv (f 11741), .ref 145, .ref 146, .ref 147, .ref 148, .ref 149, .ref 150, .ref 151, .ref 152, am_iv (f 11750), .ref 153, .ref 154, am_iv (f 11753), .ref 155, am_iv (f 11755), .ref 156, am_iv (f 11757), .ref 157, .ref 158, .ref 159, .ref 160, .ref 161, am_iv (f 11763), .ref 162])) = am_enc (am_ud f 11724 v) a w e := rfl
set_option maxRecDepth 100000 in
theorem am_sf11738 (v : Int) : (am_enc f a w e).set 117 (some (false, 11, [am_iv (f 11700), am_iv (f 11701), am_iv (f 11702), am_iv (f 11703), am_iv (f 11704), .ref 118, .ref 119, am_iv (f 11707), .ref 120, am_iv (f 11709), .ref 121, .ref 122, .ref 123, am_iv (f 11713), .ref 124, .ref 125, .ref 126, .ref 127, am_iv (f 11718), .ref 128, .ref 129, .ref 130, .ref 131, am_iv (f 11723), am_iv (f 11724), .ref 132, .ref 133, .ref 134, .ref 135, .ref 136, .ref 137, .ref 138, .ref 139, .ref 140, .ref 141, .ref 142, .ref 143, .ref 144, am_iv v, am_iv (f 11739), am_iv (f 11740), am_iv (f 11741), .ref 145, .ref 146, .ref 147, .ref 148, .ref 149, .ref 150, .ref 151, .ref 152, am_iv (f 11750), .ref 153, .ref 154, am_iv (f 11753), .ref 155, am_iv (f 11755), .ref 156, am_iv (f 11757), .ref 157, .ref 158, .ref 159, .ref 160, .ref 161, am_iv (f 11763), .ref 162])) = am_enc (am_ud f 11738 v) a w e := rfl
set_option maxRecDepth 100000 in
theorem am_sf11739 (v : Int) : (am_enc f a w e).set 117 (some (false, 11, [am_iv (f 11700), am_iv (f 11701), am_iv (f 11702), am_iv (f 11703), am_iv (f 11704), .ref 118, .ref 119, am_iv (f 11707), .ref 120, am_iv (f 11709), .ref 121, .ref 122, .ref 123, am_iv (f 11713), .ref 124, .ref 125, .ref 126, .ref 127, am_iv (f 11718), .ref 128, .ref 129, .ref 130, .ref 131, am_iv (f 11723), am_iv (f 11724), .ref 132, .ref 133, .ref 134, .ref 135, .ref 136, .ref 137, .ref 138, .ref 139, .ref 140, .ref 141, .ref 142, .ref 143, .ref 144, am_iv (f 11738), am_iv v, am_iv (f 11740), am_iv (f 11741), .ref 145, .ref 146, .ref 147, .ref 148, .ref 149, .ref 150, .ref 151, .ref 152, am_iv (f 11750), .ref 153, .ref 154, am_iv (f 11753), .ref 155, am_iv (f 11755), .ref 156, am_iv (f 11757), .ref 157, .ref 158, .ref 159, .ref 160, .ref 161, am_iv (f 11763), .ref 162])) = am_enc (am_ud f 11739 v) a w e := rfl
set_option maxRecDepth 100000 in
theorem am_sf11740 (v : Int) : (am_enc f a w e).set 117 (some (false, 11, [am_iv (f 11700), am_iv (f 11701), am_iv (f 11702), am_iv (f 11703), am_iv (f 11704), .ref 118, .ref 119, am_iv (f 11707), .ref 120, am_iv (f 11709), .ref 121, .ref 122, .ref 123, am_iv (f 11713), .ref 124, .ref 125, .ref 126, .ref 127, am_iv (f 11718), .ref 128, .ref 129, .ref 130, .ref 131, am_iv (f 11723), am_iv (f 11724), .ref 132, .ref 133, .ref 134, .ref 135, .ref 136, .ref 137, .ref 138, .ref 139, .ref 140, .ref 141, .ref 142, .ref 143, .ref 144, am_iv (f 11738), am_iv (f 11739), am_iv v, am_iv (f 11741), .ref 145, .ref 146, .ref 147, .ref 148, .ref 149, .ref 150, .ref 151, .ref 152, am_iv (f 11750), .ref 153, .ref 154, am_iv (f 11753), .ref 155, am_iv (f 11755), .ref 156, am_iv (f 11757), .ref 157, .ref 158, .ref 159, .ref 160, .ref 161, am_iv (f 11763), .ref 162])) = am_enc (am_ud f 11740 v) a w e := rfl
set_option maxRecDepth 100000 in
theorem am_sf11741 (v : Int) : (am_enc f a w e).set 117 (some (false, 11, [am_iv (f 11700), am_iv (f 11701), am_iv (f 11702), am_iv (f 11703), am_iv (f 11704), .ref 118, .ref 119, am_iv (f 11707), .ref 120, am_iv (f 11709), .ref 121, .ref 122, .ref 123, am_iv (f 11713), .ref 124, .ref 125, .ref 126, .ref 127, am_iv (f 11718), .ref 128, .ref 129, .ref 130, .ref 131, am_iv (f 11723), am_iv (f 11724), .ref 132, .ref 133, .ref 134, .ref 135, .ref 136, .ref 137, .ref 138, .ref 139, .ref 140, .ref 141, .ref 142, .ref 143, .ref 144, am_iv (f 11738), am_iv (f 11739), am_iv (f 11740), am_iv v, .ref 145, .ref 146, .ref 147, .ref 148, .ref 149, .ref 150, .ref 151, .ref 152, am_iv (f 11750), .ref 153, .ref 154, am_iv (f 11753), .ref 155, am_iv (f 11755), .ref 156, am_iv (f 11757), .ref 157, .ref 158, .ref 159, .ref 160, .ref 161, am_iv (f 11763), .ref 162])) = am_enc (am_ud f 11741 v) a w e := rfl
set_option maxRecDepth 100000 in
theorem am_sf11750 (v : Int) : (am_enc f a w e).set 117 (some (false, 11, [am_iv (f 11700), am_iv (f 11701), am_iv (f 11702), am_iv (f 11703), am_iv (f 11704), .ref 118, .ref 119, am_iv (f 11707), .ref 120, am_iv (f 11709), .ref 121, .ref 122, .ref 123, am_iv (f 11713), .ref 124, .ref 125, .ref 126, .ref 127, am_iv (f 11718), .ref 128, .ref 129, .ref 130, .ref 131, am_iv (f 11723), am_iv (f 11724), .ref 132, .ref 133, .ref 134, .ref 135, .ref 136, .ref 137, .ref 138, .ref 139, .ref 140, .ref 141, .ref 142, .ref 143, .ref 144, am_iv (f 11738), am_iv (f 11739), am_iv (f 11740), am_iv (f 11741), .ref 145, .ref 146, .ref 147, .ref 148, .ref 149, .ref 150, .ref 151, .ref 152, am_iv v, .ref 153, .ref 154, am_iv (f 11753), .ref 155, am_iv (f 11755), .ref 156, am_iv (f 11757), .ref 157, .ref 158, .ref 159, .ref 160, .ref 161, am_iv (f 11763), .ref 162])) = am_enc (am_ud f 11750 v) a w e := rfl
set_option maxRecDepth 100000 in
theorem am_sf11753 (v : Int) : (am_enc f a w e).set 117 (some (false, 11, [am_iv (f 11700), am_iv (f 11701), am_iv (f 11702), am_iv (f 11703), am_iv (f 11704), .ref 118, .ref 119, am_iv (f 11707), .ref 120, am_iv (f 11709), .ref 121, .ref 122, .ref 123, am_iv (f 11713), .ref 124, .ref 125, .ref 126, .ref 127, am_iv (f 11718), .ref 128, .ref 129, .ref 130, .ref 131, am_iv (f 11723), am_iv (f 11724), .ref 132, .ref 133, .ref 134, .ref 135, .ref 136, .ref 137, .ref 138, .ref 139, .ref 140, .ref 141, .ref 142, .ref 143, .ref 144, am_iv (f 11738), am_iv (f 11739), am_iv (f 11740), am_iv (f 11741), .ref 145, .ref 146, .ref 147, .ref 148, .ref 149, .ref 150, .ref 151, .ref 152, am_iv (f 11750), .ref 153, .ref 154, am_iv v, .ref 155, am_iv (f 11755), .ref 156, am_iv (f 11757), .ref 157, .ref 158, .ref 159, .ref 160, .ref 161, am_iv (f 11763), .ref 162])) = am_enc (am_ud f 11753 v) a w e := rfl
set_option maxRecDepth 100000 in
theorem am_sf11755 (v : Int) : (am_enc f a w e).set 117 (some (false, 11, [am_iv (f 11700), am_iv (f 11701), am_iv (f 11702), am_iv (f 11703), am_iv (f 11704), .ref 118, .ref 119, am_iv (f 11707), .ref 120, am_iv (f 11709), .ref 121, .ref 122, .ref 123, am_iv (f 11713), .ref 124, .ref 125, .ref 126, .ref 127, am_iv (f 11718), .ref 128, .ref 129, .ref 130, .ref 131, am_iv (f 11723), am_iv (f 11724), .ref 132, .ref 133, .ref 134, .ref 135, .ref 136, .ref 137, .ref 138, .ref 139, .ref 140, .ref 141, .ref 142, .ref 143, .ref 144, am_iv (f 11738), am_iv (f 11739), am_iv (f 11740), am_iv (f 11741), .ref 145, .ref 146, .ref 147, .ref 148, .ref 149, .ref 150, .ref 151, .ref 152, am_iv (f 11750), .ref 153, .ref 154, am_iv (f 11753), .ref 155, am_iv v, .ref 156, am_iv (f 11757), .ref 157, .ref 158, .ref 159, .ref 160, .ref 161, am_iv (f 11763), .ref 162])) = am_enc (am_ud f 11755 v) a w e := rfl
set_option maxRecDepth 100000 in
theorem am_sf11757 (v : Int) : (am_enc f a w e).set 117 (some (false, 11, [am_iv (f 11700), am_iv (f 11701), am_iv (f 11702), am_iv (f 11703), am_iv (f 11704), .ref 118, .ref 119, am_iv (f 11707), .ref 120, am_iv (f 11709), .ref 121, .ref 122, .ref 123, am_iv (f 11713), .ref 124, .ref 125, .ref 126, .ref 127, am_iv (f 11718), .ref 128, .ref 129, .ref 130, .ref 131, am_iv (f 11723), am_iv (f 11724), .ref 132, .ref 133, .ref 134, .ref 135, .ref 136, .ref 137, .ref 138, .ref 139, .ref 140, .ref 141, .ref 142, .ref 143, .ref 144, am_iv (f 11738), am_iv (f 11739), am_iv (f 11740), am_iv (f 11741), .ref 145, .ref 146, .ref 147, .ref 148, .ref 149, .ref 150, .ref 151, .ref 152, am_iv (f 11750), .ref 153, .ref 154, am_iv (f 11753), .ref 155, am_iv (f 11755), .ref 156, am_iv v, .ref 157, .ref 158, .ref 159, .ref 160, .ref 161, am_iv (f 11763), .ref 162])) = am_enc (am_ud f 11757 v) a w e := rfl
set_option maxRecDepth 100000 in
theorem am_sf11763 (v : Int) : (am_enc f a w e).set 117 (some (false, 11, [am_iv (f 11700), am_iv (f 11701), am_iv (f 11702), am_iv (f 11703), am_iv (f 11704), .ref 118, .ref 119, am_iv (f 11707), .ref 120, am_iv (f 11709), .ref 121, .ref 122, .ref 123, am_iv (f 11713), .ref 124, .ref 125, .ref 126, .ref 127, am_iv (f 11718), .ref 128, .ref 129, .ref 130, .ref 131, am_iv (f 11723), am_iv (f 11724), .ref 132, .ref 133, .ref 134, .ref 135, .ref 136, .ref 137, .ref 138, .ref 139, .ref 140, .ref 141, .ref 142, .ref 143, .ref 144, am_iv (f 11738), am_iv (f 11739), am_iv (f 11740), am_iv (f 11741), .ref 145, .ref 146, .ref 147, .ref 148, .ref 149, .ref 150, .ref 151, .ref 152, am_iv (f 11750), .ref 153, .ref 154, am_iv (f 11753), .ref 155, am_iv (f 11755), .ref 156, am_iv (f 11757), .ref 157, .ref 158, .ref 159, .ref 160, .ref 161, am_iv v, .ref 162])) = am_enc (am_ud f 11763 v) a w e := rfl
theorem am_ge118 : am_get (am_enc f a w e) 118 = some (true, 0, (a 118).map am_iv) := rfl
set_option maxRecDepth 100000 in
theorem am_sa118 (l : List Int) : (am_enc f a w e).set 118 (some (true, 0, l.map am_iv)) = am_enc f (am_ud a 118 l) w e := rfl
theorem am_ge119 : am_get (am_enc f a w e) 119 = some (true, 0, (a 119).map am_iv) := rfl
set_option maxRecDepth 100000 in
theorem am_sa119 (l : List Int) : (am_enc f a w e).set 119 (some (true, 0, l.map am_iv)) = am_enc f (am_ud a 119 l) w e := rfl
theorem am_ge120 : am_get (am_enc f a w e) 120 = some (true, 0, (a 120).map am_iv) := rfl
set_option maxRecDepth 100000 in
theorem am_sa120 (l : List Int) : (am_enc f a w e).set 120 (some (true, 0, l.map am_iv)) = am_enc f (am_ud a 120 l) w e := rfl
theorem am_ge121 : am_get (am_enc f a w e) 121 = some (true, 0, (a 121).map am_iv) := rfl
set_option maxRecDepth 100000 in
theorem am_sa121 (l : List Int) : (am_enc f a w e).set 121 (some (true, 0, l.map am_iv)) = am_enc f (am_ud a 121 l) w e := rfl
theorem am_ge122 : am_get (am_enc f a w e) 122 = some (true, 0, (a 122).map am_iv) := rfl
set_option maxRecDepth 100000 in
theorem am_sa122 (l : List Int) : (am_enc f a w e).set 122 (some (true, 0, l.map am_iv)) = am_enc f (am_ud a 122 l) w e := rfl
theorem am_ge123 : am_get (am_enc f a w e) 123 = some (true, 1, (a 123).map am_iv) := rfl
set_option maxRecDepth 100000 in
theorem am_sa123 (l : List Int) : (am_enc f a w e).set 123 (some (true, 1, l.map am_iv)) = am_enc f (am_ud a 123 l) w e := rfl
theorem am_ge124 : am_get (am_enc f a w e) 124 = some (true, 0, (a 124).map am_iv) := rfl
set_option maxRecDepth 100000 in
theorem am_sa124 (l : List Int) : (am_enc f a w e).set 124 (some (true, 0, l.map am_iv)) = am_enc f (am_ud a 124 l) w e := rfl
theorem am_ge125 : am_get (am_enc f a w e) 125 = some (true, 0, (a 125).map am_iv) := rfl
set_option maxRecDepth 100000 in
theorem am_sa125 (l : List Int) : (am_enc f a w e).set 125 (some (true, 0, l.map am_iv)) = am_enc f (am_ud a 125 l) w e := rfl
theorem am_ge126 : am_get (am_enc f a w e) 126 = some (true, 0, (a 126).map am_iv) := rfl
set_option maxRecDepth 100000 in
theorem am_sa126 (l : List Int) : (am_enc f a w e).set 126 (some (true, 0, l.map am_iv)) = am_enc f (am_ud a 126 l) w e := rfl
theorem am_ge127 : am_get (am_enc f a w e) 127 = some (true, 0, (a 127).map am_iv) := rfl
set_option maxRecDepth 100000 in
theorem am_sa127 (l : List Int) : (am_enc f a w e).set 127 (some (true, 0, l.map am_iv)) = am_enc f (am_ud a 127 l) w e := rfl
theorem am_ge128 : am_get (am_enc f a w e) 128 = some (true, 0, (a 128).map am_iv) := rfl
set_option maxRecDepth 100000 in
theorem am_sa128 (l : List Int) : (am_enc f a w e).set 128 (some (true, 0, l.map am_iv)) = am_enc f (am_ud a 128 l) w e := rfl
theorem am_ge129 : am_get (am_enc f a w e) 129 = some (true, 0, (a 129).map am_iv) := rfl
set_option maxRecDepth 100000 in
theorem am_sa129 (l : List Int) : (am_enc f a w e).set 129 (some (true, 0, l.map am_iv)) = am_enc f (am_ud a 129 l) w e := rfl
theorem am_ge130 : am_get (am_enc f a w e) 130 = some (true, 0, (a 130).map am_iv) := rfl
set_option maxRecDepth 100000 in
theorem am_sa130 (l : List Int) : (am_enc f a w e).set 130 (some (true, 0, l.map am_iv)) = am_enc f (am_ud a 130 l) w e := rfl
theorem am_ge131 : am_get (am_enc f a w e) 131 = some (true, 1, (a 131).map am_iv) := rfl
set_option maxRecDepth 100000 in
theorem am_sa131 (l : List Int) : (am_enc f a w e).set 131 (some (true, 1, l.map am_iv)) = am_enc f (am_ud a 131 l) w e := rfl
theorem am_ge132 : am_get (am_enc f a w e) 132 = some (true, 0, (a 132).map am_iv) := rfl
set_option maxRecDepth 100000 in
theorem am_sa132 (l : List Int) : (am_enc f a w e).set 132 (some (true, 0, l.map am_iv)) = am_enc f (am_ud a 132 l) w e := rfl
theorem am_ge133 : am_get (am_enc f a w e) 133 = some (true, 0, (a 133).map am_iv) := rfl
set_option maxRecDepth 100000 in
theorem am_sa133 (l : List Int) : (am_enc f a w e).set 133 (some (true, 0, l.map am_iv)) = am_enc f (am_ud a 133 l) w e := rfl
theorem am_ge134 : am_get (am_enc f a w e) 134 = some (true, 0, (a 134).map am_iv) := rfl
set_option maxRecDepth 100000 in
theorem am_sa134 (l : List Int) : (am_enc f a w e).set 134 (some (true, 0, l.map am_iv)) = am_enc f (am_ud a 134 l) w e := rfl
theorem am_ge135 : am_get (am_enc f a w e) 135 = some (true, 0, (a 135).map am_iv) := rfl
set_option maxRecDepth 100000 in
theorem am_sa135 (l : List Int) : (am_enc f a w e).set 135 (some (true, 0, l.map am_iv)) = am_enc f (am_ud a 135 l) w e := rfl
theorem am_ge136 : am_get (am_enc f a w e) 136 = some (true, 0, (a 136).map am_iv) := rfl
set_option maxRecDepth 100000 in
theorem am_sa136 (l : List Int) : (am_enc f a w e).set 136 (some (true, 0, l.map am_iv)) = am_enc f (am_ud a 136 l) w e := rfl
theorem am_ge137 : am_get (am_enc f a w e) 137 = some (true, 0, (a 137).map am_iv) := rfl
set_option maxRecDepth 100000 in
theorem am_sa137 (l : List Int) : (am_enc f a w e).set 137 (some (true, 0, l.map am_iv)) = am_enc f (am_ud a 137 l) w e := rfl
theorem am_ge138 : am_get (am_enc f a w e) 138 = some (true, 0, (a 138).map am_iv) := rfl
set_option maxRecDepth 100000 in
theorem am_sa138 (l : List Int) : (am_enc f a w e).set 138 (some (true, 0, l.map am_iv)) = am_enc f (am_ud a 138 l) w e := rfl
theorem am_ge139 : am_get (am_enc f a w e) 139 = some (true, 1, (a 139).map am_iv) := rfl
set_option maxRecDepth 100000 in
theorem am_sa139 (l : List Int) : (am_enc f a w e).set 139 (some (true, 1, l.map am_iv)) = am_enc f (am_ud a 139 l) w e := rfl
theorem am_ge140 : am_get (am_enc f a w e) 140 = some (true, 0, (a 140).map am_iv) := rfl
set_option maxRecDepth 100000 in
theorem am_sa140 (l : List Int) : (am_enc f a w e).set 140 (some (true, 0, l.map am_iv)) = am_enc f (am_ud a 140 l) w e := rfl
theorem am_ge141 : am_get (am_enc f a w e) 141 = some (true, 0, (a 141).map am_iv) := rfl
set_option maxRecDepth 100000 in
theorem am_sa141 (l : List Int) : (am_enc f a w e).set 141 (some (true, 0, l.map am_iv)) = am_enc f (am_ud a 141 l) w e := rfl
theorem am_ge142 : am_get (am_enc f a w e) 142 = some (true, 0, (a 142).map am_iv) := rfl
set_option maxRecDepth 100000 in
theorem am_sa142 (l : List Int) : (am_enc f a w e).set 142 (some (true, 0, l.map am_iv)) = am_enc f (am_ud a 142 l) w e := rfl
theorem am_ge143 : am_get (am_enc f a w e) 143 = some (true, 1, (a 143).map am_iv) := rfl
set_option maxRecDepth 100000 in
theorem am_sa143 (l : List Int) : (am_enc f a w e).set 143 (some (true, 1, l.map am_iv)) = am_enc f (am_ud a 143 l) w e := rfl
theorem am_ge144 : am_get (am_enc f a w e) 144 = some (true, 1, (a 144).map am_iv) := rfl
set_option maxRecDepth 100000 in
theorem am_sa144 (l : List Int) : (am_enc f a w e).set 144 (some (true, 1, l.map am_iv)) = am_enc f (am_ud a 144 l) w e := rfl
theorem am_ge145 : am_get (am_enc f a w e) 145 = some (true, 0, (a 145).map am_iv) := rfl
set_option maxRecDepth 100000 in
theorem am_sa145 (l : List Int) : (am_enc f a w e).set 145 (some (true, 0, l.map am_iv)) = am_enc f (am_ud a 145 l) w e := rfl
theorem am_ge146 : am_get (am_enc f a w e) 146 = some (true, 0, (a 146).map am_iv) := rfl
set_option maxRecDepth 100000 in
theorem am_sa146 (l : List Int) : (am_enc f a w e).set 146 (some (true, 0, l.map am_iv)) = am_enc f (am_ud a 146 l) w e := rfl
theorem am_ge147 : am_get (am_enc f a w e) 147 = some (true, 0, (a 147).map am_iv) := rfl
set_option maxRecDepth 100000 in
theorem am_sa147 (l : List Int) : (am_enc f a w e).set 147 (some (true, 0, l.map am_iv)) = am_enc f (am_ud a 147 l) w e := rfl
theorem am_ge148 : am_get (am_enc f a w e) 148 = some (true, 0, (a 148).map am_iv) := rfl
set_option maxRecDepth 100000 in
theorem am_sa148 (l : List Int) : (am_enc f a w e).set 148 (some (true, 0, l.map am_iv)) = am_enc f (am_ud a 148 l) w e := rfl
theorem am_ge149 : am_get (am_enc f a w e) 149 = some (true, 0, (a 149).map am_iv) := rfl
set_option maxRecDepth 100000 in
theorem am_sa149 (l : List Int) : (am_enc f a w e).set 149 (some (true, 0, l.map am_iv)) = am_enc f (am_ud a 149 l) w e := rfl
theorem am_ge150 : am_get (am_enc f a w e) 150 = some (true, 0, (a 150).map am_iv) := rfl
set_option maxRecDepth 100000 in
theorem am_sa150 (l : List Int) : (am_enc f a w e).set 150 (some (true, 0, l.map am_iv)) = am_enc f (am_ud a 150 l) w e := rfl
theorem am_ge151 : am_get (am_enc f a w e) 151 = some (true, 0, (a 151).map am_iv) := rfl
set_option maxRecDepth 100000 in
theorem am_sa151 (l : List Int) : (am_enc f a w e).set 151 (some (true, 0, l.map am_iv)) = am_enc f (am_ud a 151 l) w e := rfl
theorem am_ge152 : am_get (am_enc f a w e) 152 = some (true, 0, (a 152).map am_iv) := rfl
set_option maxRecDepth 100000 in
theorem am_sa152 (l : List Int) : (am_enc f a w e).set 152 (some (true, 0, l.map am_iv)) = am_enc f (am_ud a 152 l) w e := rfl
theorem am_ge153 : am_get (am_enc f a w e) 153 = some (true, 0, (a 153).map am_iv) := rfl
set_option maxRecDepth 100000 in
theorem am_sa153 (l : List Int) : (am_enc f a w e).set 153 (some (true, 0, l.map am_iv)) = am_enc f (am_ud a 153 l) w e := rfl
theorem am_ge154 : am_get (am_enc f a w e) 154 = some (true, 0, (a 154).map am_iv) := rfl
set_option maxRecDepth 100000 in
theorem am_sa154 (l : List Int) : (am_enc f a w e).set 154 (some (true, 0, l.map am_iv)) = am_enc f (am_ud a 154 l) w e := rfl
theorem am_ge155 : am_get (am_enc f a w e) 155 = some (true, 0, (a 155).map am_iv) := rfl
set_option maxRecDepth 100000 in
theorem am_sa155 (l : List Int) : (am_enc f a w e).set 155 (some (true, 0, l.map am_iv)) = am_enc f (am_ud a 155 l) w e := rfl
theorem am_ge156 : am_get (am_enc f a w e) 156 = some (true, 0, (a 156).map am_iv) := rfl
set_option maxRecDepth 100000 in
theorem am_sa156 (l : List Int) : (am_enc f a w e).set 156 (some (true, 0, l.map am_iv)) = am_enc f (am_ud a 156 l) w e := rfl
theorem am_ge157 : am_get (am_enc f a w e) 157 = some (true, 0, (a 157).map am_iv) := rfl
set_option maxRecDepth 100000 in
theorem am_sa157 (l : List Int) : (am_enc f a w e).set 157 (some (true, 0, l.map am_iv)) = am_enc f (am_ud a 157 l) w e := rfl
theorem am_ge158 : am_get (am_enc f a w e) 158 = some (true, 0, (a 158).map am_iv) := rfl
set_option maxRecDepth 100000 in
theorem am_sa158 (l : List Int) : (am_enc f a w e).set 158 (some (true, 0, l.map am_iv)) = am_enc f (am_ud a 158 l) w e := rfl
theorem am_ge159 : am_get (am_enc f a w e) 159 = some (true, 0, (a 159).map am_iv) := rfl
set_option maxRecDepth 100000 in
theorem am_sa159 (l : List Int) : (am_enc f a w e).set 159 (some (true, 0, l.map am_iv)) = am_enc f (am_ud a 159 l) w e := rfl
theorem am_ge160 : am_get (am_enc f a w e) 160 = some (true, 0, (a 160).map am_iv) := rfl
set_option maxRecDepth 100000 in
theorem am_sa160 (l : List Int) : (am_enc f a w e).set 160 (some (true, 0, l.map am_iv)) = am_enc f (am_ud a 160 l) w e := rfl
theorem am_ge161 : am_get (am_enc f a w e) 161 = some (true, 0, (a 161).map am_iv) := rfl
set_option maxRecDepth 100000 in
theorem am_sa161 (l : List Int) : (am_enc f a w e).set 161 (some (true, 0, l.map am_iv)) = am_enc f (am_ud a 161 l) w e := rfl
theorem am_ge162 : am_get (am_enc f a w e) 162 = some (true, 0, (a 162).map am_iv) := rfl
set_option maxRecDepth 100000 in
theorem am_sa162 (l : List Int) : (am_enc f a w e).set 162 (some (true, 0, l.map am_iv)) = am_enc f (am_ud a 162 l) w e := rfl
theorem am_ge163 : am_get (am_enc f a w e) 163 = some (true, 2, [w]) := rfl
end AmEnc
