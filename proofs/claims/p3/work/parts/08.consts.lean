def am_okF (r : Nat × Nat × Nat × Nat) : Prop := ∃ a : vw_C, vwCl[r.2.2.1]? = some a ∧ r.2.2.2 < a.2.2 ∧ (am_in (.fieldLink (am_R r.1) r.2.1 (a.2.1 r.2.2.2).1 (a.2.1 r.2.2.2).2.1 (a.2.1 r.2.2.2).2.2.1) ∨ ∃ host, am_in (.fieldLinkNest (am_R r.1) r.2.1 (a.2.1 r.2.2.2).1 (a.2.1 r.2.2.2).2.1 (a.2.1 r.2.2.2).2.2.1 host))
theorem am_f0 : am_okF (7, 9, 7, 0) := ⟨(RX7, TX7, 4), by rfl, by decide, Or.inl (am_inP 39 (by decide +kernel) rfl)⟩
theorem am_f1 : am_okF (2, 172, 7, 0) := ⟨(RX7, TX7, 4), by rfl, by decide, Or.inr ⟨"MarkupJudge", am_inP 40 (by decide +kernel) rfl⟩⟩
theorem am_f2 : am_okF (7, 15, 7, 1) := ⟨(RX7, TX7, 4), by rfl, by decide, Or.inl (am_inP 41 (by decide +kernel) rfl)⟩
theorem am_f3 : am_okF (6, 41, 7, 1) := ⟨(RX7, TX7, 4), by rfl, by decide, Or.inr ⟨"MarkupJudge", am_inP 42 (by decide +kernel) rfl⟩⟩
theorem am_f4 : am_okF (3, 144, 7, 1) := ⟨(RX7, TX7, 4), by rfl, by decide, Or.inr ⟨"MarkupJudge", am_inP 43 (by decide +kernel) rfl⟩⟩
theorem am_f5 : am_okF (7, 38, 7, 2) := ⟨(RX7, TX7, 4), by rfl, by decide, Or.inl (am_inP 44 (by decide +kernel) rfl)⟩
theorem am_f6 : am_okF (6, 67, 7, 2) := ⟨(RX7, TX7, 4), by rfl, by decide, Or.inr ⟨"MarkupJudge", am_inP 45 (by decide +kernel) rfl⟩⟩
theorem am_f7 : am_okF (3, 169, 7, 2) := ⟨(RX7, TX7, 4), by rfl, by decide, Or.inr ⟨"MarkupJudge", am_inP 46 (by decide +kernel) rfl⟩⟩
theorem am_f8 : am_okF (7, 41, 7, 3) := ⟨(RX7, TX7, 4), by rfl, by decide, Or.inl (am_inP 47 (by decide +kernel) rfl)⟩
theorem am_f9 : am_okF (6, 70, 7, 3) := ⟨(RX7, TX7, 4), by rfl, by decide, Or.inr ⟨"MarkupJudge", am_inP 48 (by decide +kernel) rfl⟩⟩
theorem am_f10 : am_okF (6, 27, 6, 0) := ⟨(RX6, TX6, 9), by rfl, by decide, Or.inl (am_inP 65 (by decide +kernel) rfl)⟩
theorem am_f11 : am_okF (6, 9, 6, 1) := ⟨(RX6, TX6, 9), by rfl, by decide, Or.inl (am_inP 66 (by decide +kernel) rfl)⟩
theorem am_f12 : am_okF (6, 15, 6, 2) := ⟨(RX6, TX6, 9), by rfl, by decide, Or.inl (am_inP 67 (by decide +kernel) rfl)⟩
theorem am_f13 : am_okF (6, 18, 6, 3) := ⟨(RX6, TX6, 9), by rfl, by decide, Or.inl (am_inP 68 (by decide +kernel) rfl)⟩
theorem am_f14 : am_okF (6, 21, 6, 4) := ⟨(RX6, TX6, 9), by rfl, by decide, Or.inl (am_inP 69 (by decide +kernel) rfl)⟩
theorem am_f15 : am_okF (6, 24, 6, 5) := ⟨(RX6, TX6, 9), by rfl, by decide, Or.inl (am_inP 70 (by decide +kernel) rfl)⟩
theorem am_f16 : am_okF (6, 38, 6, 6) := ⟨(RX6, TX6, 9), by rfl, by decide, Or.inl (am_inP 71 (by decide +kernel) rfl)⟩
theorem am_f17 : am_okF (9, 33, 6, 6) := ⟨(RX6, TX6, 9), by rfl, by decide, Or.inr ⟨"MarkupJudge", am_inP 72 (by decide +kernel) rfl⟩⟩
theorem am_f18 : am_okF (8, 40, 6, 6) := ⟨(RX6, TX6, 9), by rfl, by decide, Or.inr ⟨"MarkupJudge", am_inP 73 (by decide +kernel) rfl⟩⟩
theorem am_f19 : am_okF (6, 31, 6, 7) := ⟨(RX6, TX6, 9), by rfl, by decide, Or.inl (am_inP 74 (by decide +kernel) rfl)⟩
theorem am_f20 : am_okF (6, 35, 6, 8) := ⟨(RX6, TX6, 9), by rfl, by decide, Or.inl (am_inP 75 (by decide +kernel) rfl)⟩
theorem am_f21 : am_okF (10, 129, 6, 8) := ⟨(RX6, TX6, 9), by rfl, by decide, Or.inr ⟨"MarkupJudge", am_inP 76 (by decide +kernel) rfl⟩⟩
theorem am_f22 : am_okF (9, 15, 9, 0) := ⟨(RX9, TX9, 4), by rfl, by decide, Or.inl (am_inP 102 (by decide +kernel) rfl)⟩
theorem am_f23 : am_okF (9, 19, 9, 1) := ⟨(RX9, TX9, 4), by rfl, by decide, Or.inl (am_inP 103 (by decide +kernel) rfl)⟩
theorem am_f24 : am_okF (9, 9, 9, 2) := ⟨(RX9, TX9, 4), by rfl, by decide, Or.inl (am_inP 104 (by decide +kernel) rfl)⟩
theorem am_f25 : am_okF (8, 137, 9, 2) := ⟨(RX9, TX9, 4), by rfl, by decide, Or.inr ⟨"MarkupJudge", am_inP 105 (by decide +kernel) rfl⟩⟩
theorem am_f26 : am_okF (3, 194, 9, 2) := ⟨(RX9, TX9, 4), by rfl, by decide, Or.inr ⟨"MarkupJudge", am_inP 106 (by decide +kernel) rfl⟩⟩
theorem am_f27 : am_okF (9, 23, 9, 3) := ⟨(RX9, TX9, 4), by rfl, by decide, Or.inl (am_inP 107 (by decide +kernel) rfl)⟩
theorem am_f28 : am_okF (8, 140, 9, 3) := ⟨(RX9, TX9, 4), by rfl, by decide, Or.inr ⟨"MarkupJudge", am_inP 108 (by decide +kernel) rfl⟩⟩
theorem am_f29 : am_okF (3, 198, 9, 3) := ⟨(RX9, TX9, 4), by rfl, by decide, Or.inr ⟨"MarkupJudge", am_inP 109 (by decide +kernel) rfl⟩⟩
theorem am_f30 : am_okF (4, 18, 4, 0) := ⟨(RX4, TX4, 6), by rfl, by decide, Or.inl (am_inP 132 (by decide +kernel) rfl)⟩
theorem am_f31 : am_okF (3, 131, 4, 0) := ⟨(RX4, TX4, 6), by rfl, by decide, Or.inr ⟨"MarkupJudge", am_inP 133 (by decide +kernel) rfl⟩⟩
theorem am_f32 : am_okF (2, 107, 4, 0) := ⟨(RX4, TX4, 6), by rfl, by decide, Or.inr ⟨"MarkupJudge", am_inP 134 (by decide +kernel) rfl⟩⟩
theorem am_f33 : am_okF (4, 22, 4, 1) := ⟨(RX4, TX4, 6), by rfl, by decide, Or.inl (am_inP 135 (by decide +kernel) rfl)⟩
theorem am_f34 : am_okF (5, 72, 4, 1) := ⟨(RX4, TX4, 6), by rfl, by decide, Or.inr ⟨"MarkupJudge", am_inP 136 (by decide +kernel) rfl⟩⟩
theorem am_f35 : am_okF (4, 25, 4, 2) := ⟨(RX4, TX4, 6), by rfl, by decide, Or.inl (am_inP 137 (by decide +kernel) rfl)⟩
theorem am_f36 : am_okF (4, 9, 4, 3) := ⟨(RX4, TX4, 6), by rfl, by decide, Or.inl (am_inP 138 (by decide +kernel) rfl)⟩
theorem am_f37 : am_okF (4, 15, 4, 4) := ⟨(RX4, TX4, 6), by rfl, by decide, Or.inl (am_inP 139 (by decide +kernel) rfl)⟩
theorem am_f38 : am_okF (4, 28, 4, 5) := ⟨(RX4, TX4, 6), by rfl, by decide, Or.inl (am_inP 140 (by decide +kernel) rfl)⟩
theorem am_f39 : am_okF (5, 66, 4, 5) := ⟨(RX4, TX4, 6), by rfl, by decide, Or.inr ⟨"MarkupJudge", am_inP 141 (by decide +kernel) rfl⟩⟩
theorem am_f40 : am_okF (2, 121, 4, 5) := ⟨(RX4, TX4, 6), by rfl, by decide, Or.inr ⟨"MarkupJudge", am_inP 142 (by decide +kernel) rfl⟩⟩
theorem am_f41 : am_okF (0, 9, 0, 0) := ⟨(RX0, TX0, 11), by rfl, by decide, Or.inl (am_inP 162 (by decide +kernel) rfl)⟩
theorem am_f42 : am_okF (8, 153, 0, 0) := ⟨(RX0, TX0, 11), by rfl, by decide, Or.inr ⟨"MarkupJudge", am_inP 163 (by decide +kernel) rfl⟩⟩
theorem am_f43 : am_okF (2, 127, 0, 0) := ⟨(RX0, TX0, 11), by rfl, by decide, Or.inr ⟨"MarkupJudge", am_inP 164 (by decide +kernel) rfl⟩⟩
theorem am_f44 : am_okF (0, 15, 0, 1) := ⟨(RX0, TX0, 11), by rfl, by decide, Or.inl (am_inP 165 (by decide +kernel) rfl)⟩
theorem am_f45 : am_okF (8, 150, 0, 1) := ⟨(RX0, TX0, 11), by rfl, by decide, Or.inr ⟨"MarkupJudge", am_inP 166 (by decide +kernel) rfl⟩⟩
theorem am_f46 : am_okF (0, 18, 0, 2) := ⟨(RX0, TX0, 11), by rfl, by decide, Or.inl (am_inP 167 (by decide +kernel) rfl)⟩
theorem am_f47 : am_okF (8, 127, 0, 2) := ⟨(RX0, TX0, 11), by rfl, by decide, Or.inr ⟨"MarkupJudge", am_inP 168 (by decide +kernel) rfl⟩⟩
theorem am_f48 : am_okF (2, 150, 0, 2) := ⟨(RX0, TX0, 11), by rfl, by decide, Or.inr ⟨"MarkupJudge", am_inP 169 (by decide +kernel) rfl⟩⟩
theorem am_f49 : am_okF (0, 21, 0, 3) := ⟨(RX0, TX0, 11), by rfl, by decide, Or.inl (am_inP 170 (by decide +kernel) rfl)⟩
theorem am_f50 : am_okF (2, 130, 0, 3) := ⟨(RX0, TX0, 11), by rfl, by decide, Or.inr ⟨"MarkupJudge", am_inP 171 (by decide +kernel) rfl⟩⟩
theorem am_f51 : am_okF (0, 24, 0, 4) := ⟨(RX0, TX0, 11), by rfl, by decide, Or.inl (am_inP 172 (by decide +kernel) rfl)⟩
theorem am_f52 : am_okF (2, 153, 0, 4) := ⟨(RX0, TX0, 11), by rfl, by decide, Or.inr ⟨"MarkupJudge", am_inP 173 (by decide +kernel) rfl⟩⟩
theorem am_f53 : am_okF (0, 27, 0, 5) := ⟨(RX0, TX0, 11), by rfl, by decide, Or.inl (am_inP 174 (by decide +kernel) rfl)⟩
theorem am_f54 : am_okF (2, 156, 0, 5) := ⟨(RX0, TX0, 11), by rfl, by decide, Or.inr ⟨"MarkupJudge", am_inP 175 (by decide +kernel) rfl⟩⟩
theorem am_f55 : am_okF (0, 30, 0, 6) := ⟨(RX0, TX0, 11), by rfl, by decide, Or.inl (am_inP 176 (by decide +kernel) rfl)⟩
theorem am_f56 : am_okF (8, 162, 0, 6) := ⟨(RX0, TX0, 11), by rfl, by decide, Or.inr ⟨"MarkupJudge", am_inP 177 (by decide +kernel) rfl⟩⟩
theorem am_f57 : am_okF (2, 140, 0, 6) := ⟨(RX0, TX0, 11), by rfl, by decide, Or.inr ⟨"MarkupJudge", am_inP 178 (by decide +kernel) rfl⟩⟩
theorem am_f58 : am_okF (0, 33, 0, 7) := ⟨(RX0, TX0, 11), by rfl, by decide, Or.inl (am_inP 179 (by decide +kernel) rfl)⟩
theorem am_f59 : am_okF (8, 165, 0, 7) := ⟨(RX0, TX0, 11), by rfl, by decide, Or.inr ⟨"MarkupJudge", am_inP 180 (by decide +kernel) rfl⟩⟩
theorem am_f60 : am_okF (2, 143, 0, 7) := ⟨(RX0, TX0, 11), by rfl, by decide, Or.inr ⟨"MarkupJudge", am_inP 181 (by decide +kernel) rfl⟩⟩
theorem am_f61 : am_okF (0, 36, 0, 8) := ⟨(RX0, TX0, 11), by rfl, by decide, Or.inl (am_inP 182 (by decide +kernel) rfl)⟩
theorem am_f62 : am_okF (8, 159, 0, 8) := ⟨(RX0, TX0, 11), by rfl, by decide, Or.inr ⟨"MarkupJudge", am_inP 183 (by decide +kernel) rfl⟩⟩
theorem am_f63 : am_okF (2, 137, 0, 8) := ⟨(RX0, TX0, 11), by rfl, by decide, Or.inr ⟨"MarkupJudge", am_inP 184 (by decide +kernel) rfl⟩⟩
theorem am_f64 : am_okF (0, 39, 0, 9) := ⟨(RX0, TX0, 11), by rfl, by decide, Or.inl (am_inP 185 (by decide +kernel) rfl)⟩
theorem am_f65 : am_okF (8, 147, 0, 9) := ⟨(RX0, TX0, 11), by rfl, by decide, Or.inr ⟨"MarkupJudge", am_inP 186 (by decide +kernel) rfl⟩⟩
theorem am_f66 : am_okF (2, 124, 0, 9) := ⟨(RX0, TX0, 11), by rfl, by decide, Or.inr ⟨"MarkupJudge", am_inP 187 (by decide +kernel) rfl⟩⟩
theorem am_f67 : am_okF (0, 43, 0, 10) := ⟨(RX0, TX0, 11), by rfl, by decide, Or.inl (am_inP 188 (by decide +kernel) rfl)⟩
theorem am_f68 : am_okF (5, 9, 5, 0) := ⟨(RX5, TX5, 4), by rfl, by decide, Or.inl (am_inP 218 (by decide +kernel) rfl)⟩
theorem am_f69 : am_okF (5, 51, 5, 1) := ⟨(RX5, TX5, 4), by rfl, by decide, Or.inl (am_inP 219 (by decide +kernel) rfl)⟩
theorem am_f70 : am_okF (5, 63, 5, 2) := ⟨(RX5, TX5, 4), by rfl, by decide, Or.inl (am_inP 220 (by decide +kernel) rfl)⟩
theorem am_f71 : am_okF (5, 59, 5, 3) := ⟨(RX5, TX5, 4), by rfl, by decide, Or.inl (am_inP 221 (by decide +kernel) rfl)⟩
theorem am_f72 : am_okF (3, 29, 3, 0) := ⟨(RX3, TX3, 9), by rfl, by decide, Or.inl (am_inP 231 (by decide +kernel) rfl)⟩
theorem am_f73 : am_okF (3, 33, 3, 1) := ⟨(RX3, TX3, 9), by rfl, by decide, Or.inl (am_inP 232 (by decide +kernel) rfl)⟩
theorem am_f74 : am_okF (3, 37, 3, 2) := ⟨(RX3, TX3, 9), by rfl, by decide, Or.inl (am_inP 233 (by decide +kernel) rfl)⟩
theorem am_f75 : am_okF (3, 46, 3, 3) := ⟨(RX3, TX3, 9), by rfl, by decide, Or.inl (am_inP 234 (by decide +kernel) rfl)⟩
theorem am_f76 : am_okF (3, 11, 3, 4) := ⟨(RX3, TX3, 9), by rfl, by decide, Or.inl (am_inP 235 (by decide +kernel) rfl)⟩
theorem am_f77 : am_okF (2, 67, 3, 4) := ⟨(RX3, TX3, 9), by rfl, by decide, Or.inr ⟨"MarkupJudge", am_inP 236 (by decide +kernel) rfl⟩⟩
theorem am_f78 : am_okF (3, 18, 3, 5) := ⟨(RX3, TX3, 9), by rfl, by decide, Or.inl (am_inP 237 (by decide +kernel) rfl)⟩
theorem am_f79 : am_okF (3, 25, 3, 6) := ⟨(RX3, TX3, 9), by rfl, by decide, Or.inl (am_inP 238 (by decide +kernel) rfl)⟩
theorem am_f80 : am_okF (2, 26, 3, 6) := ⟨(RX3, TX3, 9), by rfl, by decide, Or.inr ⟨"MarkupJudge", am_inP 239 (by decide +kernel) rfl⟩⟩
theorem am_f81 : am_okF (10, 52, 3, 6) := ⟨(RX3, TX3, 9), by rfl, by decide, Or.inr ⟨"MarkupJudge", am_inP 240 (by decide +kernel) rfl⟩⟩
theorem am_f82 : am_okF (2, 37, 3, 7) := ⟨(RX3, TX3, 9), by rfl, by decide, Or.inr ⟨"MarkupJudge", am_inP 241 (by decide +kernel) rfl⟩⟩
theorem am_f83 : am_okF (3, 99, 3, 7) := ⟨(RX3, TX3, 9), by rfl, by decide, Or.inl (am_inP 242 (by decide +kernel) rfl)⟩
theorem am_f84 : am_okF (3, 103, 3, 8) := ⟨(RX3, TX3, 9), by rfl, by decide, Or.inl (am_inP 243 (by decide +kernel) rfl)⟩
theorem am_f85 : am_okF (2, 59, 3, 8) := ⟨(RX3, TX3, 9), by rfl, by decide, Or.inr ⟨"MarkupJudge", am_inP 244 (by decide +kernel) rfl⟩⟩
theorem am_f86 : am_okF (1, 9, 1, 0) := ⟨(RX1, TX1, 8), by rfl, by decide, Or.inl (am_inP 270 (by decide +kernel) rfl)⟩
theorem am_f87 : am_okF (2, 77, 1, 0) := ⟨(RX1, TX1, 8), by rfl, by decide, Or.inr ⟨"MarkupJudge", am_inP 271 (by decide +kernel) rfl⟩⟩
theorem am_f88 : am_okF (10, 114, 1, 0) := ⟨(RX1, TX1, 8), by rfl, by decide, Or.inr ⟨"MarkupJudge", am_inP 272 (by decide +kernel) rfl⟩⟩
theorem am_f89 : am_okF (1, 15, 1, 1) := ⟨(RX1, TX1, 8), by rfl, by decide, Or.inl (am_inP 273 (by decide +kernel) rfl)⟩
theorem am_f90 : am_okF (10, 117, 1, 1) := ⟨(RX1, TX1, 8), by rfl, by decide, Or.inr ⟨"MarkupJudge", am_inP 274 (by decide +kernel) rfl⟩⟩
theorem am_f91 : am_okF (2, 96, 1, 1) := ⟨(RX1, TX1, 8), by rfl, by decide, Or.inr ⟨"MarkupJudge", am_inP 275 (by decide +kernel) rfl⟩⟩
theorem am_f92 : am_okF (1, 18, 1, 2) := ⟨(RX1, TX1, 8), by rfl, by decide, Or.inl (am_inP 276 (by decide +kernel) rfl)⟩
theorem am_f93 : am_okF (10, 126, 1, 2) := ⟨(RX1, TX1, 8), by rfl, by decide, Or.inr ⟨"MarkupJudge", am_inP 277 (by decide +kernel) rfl⟩⟩
theorem am_f94 : am_okF (2, 181, 1, 2) := ⟨(RX1, TX1, 8), by rfl, by decide, Or.inr ⟨"MarkupJudge", am_inP 278 (by decide +kernel) rfl⟩⟩
theorem am_f95 : am_okF (1, 21, 1, 3) := ⟨(RX1, TX1, 8), by rfl, by decide, Or.inl (am_inP 279 (by decide +kernel) rfl)⟩
theorem am_f96 : am_okF (10, 120, 1, 3) := ⟨(RX1, TX1, 8), by rfl, by decide, Or.inr ⟨"MarkupJudge", am_inP 280 (by decide +kernel) rfl⟩⟩
theorem am_f97 : am_okF (2, 182, 1, 3) := ⟨(RX1, TX1, 8), by rfl, by decide, Or.inr ⟨"MarkupJudge", am_inP 281 (by decide +kernel) rfl⟩⟩
theorem am_f98 : am_okF (1, 24, 1, 4) := ⟨(RX1, TX1, 8), by rfl, by decide, Or.inl (am_inP 282 (by decide +kernel) rfl)⟩
theorem am_f99 : am_okF (2, 83, 1, 4) := ⟨(RX1, TX1, 8), by rfl, by decide, Or.inr ⟨"MarkupJudge", am_inP 283 (by decide +kernel) rfl⟩⟩
theorem am_f100 : am_okF (1, 27, 1, 5) := ⟨(RX1, TX1, 8), by rfl, by decide, Or.inl (am_inP 284 (by decide +kernel) rfl)⟩
theorem am_f101 : am_okF (10, 123, 1, 5) := ⟨(RX1, TX1, 8), by rfl, by decide, Or.inr ⟨"MarkupJudge", am_inP 285 (by decide +kernel) rfl⟩⟩
theorem am_f102 : am_okF (2, 180, 1, 5) := ⟨(RX1, TX1, 8), by rfl, by decide, Or.inr ⟨"MarkupJudge", am_inP 286 (by decide +kernel) rfl⟩⟩
theorem am_f103 : am_okF (1, 30, 1, 6) := ⟨(RX1, TX1, 8), by rfl, by decide, Or.inl (am_inP 287 (by decide +kernel) rfl)⟩
theorem am_f104 : am_okF (2, 50, 1, 6) := ⟨(RX1, TX1, 8), by rfl, by decide, Or.inr ⟨"MarkupJudge", am_inP 288 (by decide +kernel) rfl⟩⟩
theorem am_f105 : am_okF (10, 104, 1, 6) := ⟨(RX1, TX1, 8), by rfl, by decide, Or.inr ⟨"MarkupJudge", am_inP 289 (by decide +kernel) rfl⟩⟩
theorem am_f106 : am_okF (1, 34, 1, 7) := ⟨(RX1, TX1, 8), by rfl, by decide, Or.inl (am_inP 290 (by decide +kernel) rfl)⟩
theorem am_f107 : am_okF (8, 9, 8, 0) := ⟨(RX8, TX8, 5), by rfl, by decide, Or.inl (am_inP 314 (by decide +kernel) rfl)⟩
theorem am_f108 : am_okF (8, 15, 8, 1) := ⟨(RX8, TX8, 5), by rfl, by decide, Or.inl (am_inP 315 (by decide +kernel) rfl)⟩
theorem am_f109 : am_okF (8, 19, 8, 2) := ⟨(RX8, TX8, 5), by rfl, by decide, Or.inl (am_inP 316 (by decide +kernel) rfl)⟩
theorem am_f110 : am_okF (8, 23, 8, 3) := ⟨(RX8, TX8, 5), by rfl, by decide, Or.inl (am_inP 317 (by decide +kernel) rfl)⟩
theorem am_f111 : am_okF (8, 27, 8, 4) := ⟨(RX8, TX8, 5), by rfl, by decide, Or.inl (am_inP 318 (by decide +kernel) rfl)⟩
theorem am_f112 : am_okF (2, 18, 2, 0) := ⟨(RX2, TX2, 8), by rfl, by decide, Or.inl (am_inP 336 (by decide +kernel) rfl)⟩
theorem am_f113 : am_okF (2, 22, 2, 1) := ⟨(RX2, TX2, 8), by rfl, by decide, Or.inl (am_inP 337 (by decide +kernel) rfl)⟩
theorem am_f114 : am_okF (2, 32, 2, 2) := ⟨(RX2, TX2, 8), by rfl, by decide, Or.inl (am_inP 338 (by decide +kernel) rfl)⟩
theorem am_f115 : am_okF (2, 33, 2, 3) := ⟨(RX2, TX2, 8), by rfl, by decide, Or.inl (am_inP 339 (by decide +kernel) rfl)⟩
theorem am_f116 : am_okF (2, 9, 2, 4) := ⟨(RX2, TX2, 8), by rfl, by decide, Or.inl (am_inP 340 (by decide +kernel) rfl)⟩
theorem am_f117 : am_okF (2, 15, 2, 5) := ⟨(RX2, TX2, 8), by rfl, by decide, Or.inl (am_inP 341 (by decide +kernel) rfl)⟩
theorem am_f118 : am_okF (2, 44, 2, 6) := ⟨(RX2, TX2, 8), by rfl, by decide, Or.inl (am_inP 342 (by decide +kernel) rfl)⟩
theorem am_f119 : am_okF (2, 41, 2, 7) := ⟨(RX2, TX2, 8), by rfl, by decide, Or.inl (am_inP 343 (by decide +kernel) rfl)⟩
theorem am_f120 : am_okF (10, 9, 10, 0) := ⟨(RX10, TX10, 12), by rfl, by decide, Or.inl (am_inP 361 (by decide +kernel) rfl)⟩
theorem am_f121 : am_okF (10, 75, 10, 1) := ⟨(RX10, TX10, 12), by rfl, by decide, Or.inl (am_inP 362 (by decide +kernel) rfl)⟩
theorem am_f122 : am_okF (10, 82, 10, 2) := ⟨(RX10, TX10, 12), by rfl, by decide, Or.inl (am_inP 363 (by decide +kernel) rfl)⟩
theorem am_f123 : am_okF (10, 105, 10, 3) := ⟨(RX10, TX10, 12), by rfl, by decide, Or.inl (am_inP 364 (by decide +kernel) rfl)⟩
theorem am_f124 : am_okF (10, 108, 10, 4) := ⟨(RX10, TX10, 12), by rfl, by decide, Or.inl (am_inP 365 (by decide +kernel) rfl)⟩
theorem am_f125 : am_okF (10, 89, 10, 5) := ⟨(RX10, TX10, 12), by rfl, by decide, Or.inl (am_inP 366 (by decide +kernel) rfl)⟩
theorem am_f126 : am_okF (10, 16, 10, 6) := ⟨(RX10, TX10, 12), by rfl, by decide, Or.inl (am_inP 367 (by decide +kernel) rfl)⟩
theorem am_f127 : am_okF (10, 25, 10, 7) := ⟨(RX10, TX10, 12), by rfl, by decide, Or.inl (am_inP 368 (by decide +kernel) rfl)⟩
theorem am_f128 : am_okF (10, 39, 10, 8) := ⟨(RX10, TX10, 12), by rfl, by decide, Or.inl (am_inP 369 (by decide +kernel) rfl)⟩
theorem am_f129 : am_okF (10, 46, 10, 9) := ⟨(RX10, TX10, 12), by rfl, by decide, Or.inl (am_inP 370 (by decide +kernel) rfl)⟩
theorem am_f130 : am_okF (10, 59, 10, 10) := ⟨(RX10, TX10, 12), by rfl, by decide, Or.inl (am_inP 371 (by decide +kernel) rfl)⟩
theorem am_f131 : am_okF (10, 68, 10, 11) := ⟨(RX10, TX10, 12), by rfl, by decide, Or.inl (am_inP 372 (by decide +kernel) rfl)⟩
theorem am_f132 : am_okF (11, 146, 11, 0) := ⟨(RX11, TX11, 65), by rfl, by decide, Or.inl (am_inP 1079 (by decide +kernel) rfl)⟩
theorem am_f133 : am_okF (11, 159, 11, 1) := ⟨(RX11, TX11, 65), by rfl, by decide, Or.inl (am_inP 1080 (by decide +kernel) rfl)⟩
theorem am_f134 : am_okF (11, 219, 11, 2) := ⟨(RX11, TX11, 65), by rfl, by decide, Or.inl (am_inP 1081 (by decide +kernel) rfl)⟩
theorem am_f135 : am_okF (11, 216, 11, 3) := ⟨(RX11, TX11, 65), by rfl, by decide, Or.inl (am_inP 1082 (by decide +kernel) rfl)⟩
theorem am_f136 : am_okF (11, 328, 11, 4) := ⟨(RX11, TX11, 65), by rfl, by decide, Or.inl (am_inP 1083 (by decide +kernel) rfl)⟩
theorem am_f137 : am_okF (11, 7, 11, 5) := ⟨(RX11, TX11, 65), by rfl, by decide, Or.inl (am_inP 1084 (by decide +kernel) rfl)⟩
theorem am_f138 : am_okF (11, 13, 11, 6) := ⟨(RX11, TX11, 65), by rfl, by decide, Or.inl (am_inP 1085 (by decide +kernel) rfl)⟩
theorem am_f139 : am_okF (11, 154, 11, 7) := ⟨(RX11, TX11, 65), by rfl, by decide, Or.inl (am_inP 1086 (by decide +kernel) rfl)⟩
theorem am_f140 : am_okF (11, 16, 11, 8) := ⟨(RX11, TX11, 65), by rfl, by decide, Or.inl (am_inP 1087 (by decide +kernel) rfl)⟩
theorem am_f141 : am_okF (11, 169, 11, 9) := ⟨(RX11, TX11, 65), by rfl, by decide, Or.inl (am_inP 1088 (by decide +kernel) rfl)⟩
theorem am_f142 : am_okF (11, 19, 11, 10) := ⟨(RX11, TX11, 65), by rfl, by decide, Or.inl (am_inP 1089 (by decide +kernel) rfl)⟩
theorem am_f143 : am_okF (11, 22, 11, 11) := ⟨(RX11, TX11, 65), by rfl, by decide, Or.inl (am_inP 1090 (by decide +kernel) rfl)⟩
theorem am_f144 : am_okF (11, 25, 11, 12) := ⟨(RX11, TX11, 65), by rfl, by decide, Or.inl (am_inP 1091 (by decide +kernel) rfl)⟩
theorem am_f145 : am_okF (11, 179, 11, 13) := ⟨(RX11, TX11, 65), by rfl, by decide, Or.inl (am_inP 1092 (by decide +kernel) rfl)⟩
theorem am_f146 : am_okF (11, 29, 11, 14) := ⟨(RX11, TX11, 65), by rfl, by decide, Or.inl (am_inP 1093 (by decide +kernel) rfl)⟩
theorem am_f147 : am_okF (11, 32, 11, 15) := ⟨(RX11, TX11, 65), by rfl, by decide, Or.inl (am_inP 1094 (by decide +kernel) rfl)⟩
theorem am_f148 : am_okF (11, 35, 11, 16) := ⟨(RX11, TX11, 65), by rfl, by decide, Or.inl (am_inP 1095 (by decide +kernel) rfl)⟩
theorem am_f149 : am_okF (11, 38, 11, 17) := ⟨(RX11, TX11, 65), by rfl, by decide, Or.inl (am_inP 1096 (by decide +kernel) rfl)⟩
theorem am_f150 : am_okF (11, 222, 11, 18) := ⟨(RX11, TX11, 65), by rfl, by decide, Or.inl (am_inP 1097 (by decide +kernel) rfl)⟩
theorem am_f151 : am_okF (11, 41, 11, 19) := ⟨(RX11, TX11, 65), by rfl, by decide, Or.inl (am_inP 1098 (by decide +kernel) rfl)⟩
theorem am_f152 : am_okF (11, 44, 11, 20) := ⟨(RX11, TX11, 65), by rfl, by decide, Or.inl (am_inP 1099 (by decide +kernel) rfl)⟩
theorem am_f153 : am_okF (11, 47, 11, 21) := ⟨(RX11, TX11, 65), by rfl, by decide, Or.inl (am_inP 1100 (by decide +kernel) rfl)⟩
theorem am_f154 : am_okF (11, 50, 11, 22) := ⟨(RX11, TX11, 65), by rfl, by decide, Or.inl (am_inP 1101 (by decide +kernel) rfl)⟩
theorem am_f155 : am_okF (11, 252, 11, 23) := ⟨(RX11, TX11, 65), by rfl, by decide, Or.inl (am_inP 1102 (by decide +kernel) rfl)⟩
theorem am_f156 : am_okF (11, 243, 11, 24) := ⟨(RX11, TX11, 65), by rfl, by decide, Or.inl (am_inP 1103 (by decide +kernel) rfl)⟩
theorem am_f157 : am_okF (11, 53, 11, 25) := ⟨(RX11, TX11, 65), by rfl, by decide, Or.inl (am_inP 1104 (by decide +kernel) rfl)⟩
theorem am_f158 : am_okF (11, 56, 11, 26) := ⟨(RX11, TX11, 65), by rfl, by decide, Or.inl (am_inP 1105 (by decide +kernel) rfl)⟩
theorem am_f159 : am_okF (11, 59, 11, 27) := ⟨(RX11, TX11, 65), by rfl, by decide, Or.inl (am_inP 1106 (by decide +kernel) rfl)⟩
theorem am_f160 : am_okF (11, 62, 11, 28) := ⟨(RX11, TX11, 65), by rfl, by decide, Or.inl (am_inP 1107 (by decide +kernel) rfl)⟩
theorem am_f161 : am_okF (11, 65, 11, 29) := ⟨(RX11, TX11, 65), by rfl, by decide, Or.inl (am_inP 1108 (by decide +kernel) rfl)⟩
theorem am_f162 : am_okF (11, 68, 11, 30) := ⟨(RX11, TX11, 65), by rfl, by decide, Or.inl (am_inP 1109 (by decide +kernel) rfl)⟩
theorem am_f163 : am_okF (11, 71, 11, 31) := ⟨(RX11, TX11, 65), by rfl, by decide, Or.inl (am_inP 1110 (by decide +kernel) rfl)⟩
theorem am_f164 : am_okF (11, 74, 11, 32) := ⟨(RX11, TX11, 65), by rfl, by decide, Or.inl (am_inP 1111 (by decide +kernel) rfl)⟩
theorem am_f165 : am_okF (11, 77, 11, 33) := ⟨(RX11, TX11, 65), by rfl, by decide, Or.inl (am_inP 1112 (by decide +kernel) rfl)⟩
theorem am_f166 : am_okF (11, 80, 11, 34) := ⟨(RX11, TX11, 65), by rfl, by decide, Or.inl (am_inP 1113 (by decide +kernel) rfl)⟩
theorem am_f167 : am_okF (11, 83, 11, 35) := ⟨(RX11, TX11, 65), by rfl, by decide, Or.inl (am_inP 1114 (by decide +kernel) rfl)⟩
theorem am_f168 : am_okF (11, 86, 11, 36) := ⟨(RX11, TX11, 65), by rfl, by decide, Or.inl (am_inP 1115 (by decide +kernel) rfl)⟩
theorem am_f169 : am_okF (11, 89, 11, 37) := ⟨(RX11, TX11, 65), by rfl, by decide, Or.inl (am_inP 1116 (by decide +kernel) rfl)⟩
theorem am_f170 : am_okF (11, 342, 11, 38) := ⟨(RX11, TX11, 65), by rfl, by decide, Or.inl (am_inP 1117 (by decide +kernel) rfl)⟩
theorem am_f171 : am_okF (11, 339, 11, 39) := ⟨(RX11, TX11, 65), by rfl, by decide, Or.inl (am_inP 1118 (by decide +kernel) rfl)⟩
theorem am_f172 : am_okF (11, 336, 11, 40) := ⟨(RX11, TX11, 65), by rfl, by decide, Or.inl (am_inP 1119 (by decide +kernel) rfl)⟩
theorem am_f173 : am_okF (11, 297, 11, 41) := ⟨(RX11, TX11, 65), by rfl, by decide, Or.inl (am_inP 1120 (by decide +kernel) rfl)⟩
theorem am_f174 : am_okF (11, 92, 11, 42) := ⟨(RX11, TX11, 65), by rfl, by decide, Or.inl (am_inP 1121 (by decide +kernel) rfl)⟩
theorem am_f175 : am_okF (11, 95, 11, 43) := ⟨(RX11, TX11, 65), by rfl, by decide, Or.inl (am_inP 1122 (by decide +kernel) rfl)⟩
theorem am_f176 : am_okF (11, 98, 11, 44) := ⟨(RX11, TX11, 65), by rfl, by decide, Or.inl (am_inP 1123 (by decide +kernel) rfl)⟩
theorem am_f177 : am_okF (11, 101, 11, 45) := ⟨(RX11, TX11, 65), by rfl, by decide, Or.inl (am_inP 1124 (by decide +kernel) rfl)⟩
theorem am_f178 : am_okF (11, 104, 11, 46) := ⟨(RX11, TX11, 65), by rfl, by decide, Or.inl (am_inP 1125 (by decide +kernel) rfl)⟩
theorem am_f179 : am_okF (11, 107, 11, 47) := ⟨(RX11, TX11, 65), by rfl, by decide, Or.inl (am_inP 1126 (by decide +kernel) rfl)⟩
theorem am_f180 : am_okF (11, 110, 11, 48) := ⟨(RX11, TX11, 65), by rfl, by decide, Or.inl (am_inP 1127 (by decide +kernel) rfl)⟩
theorem am_f181 : am_okF (11, 113, 11, 49) := ⟨(RX11, TX11, 65), by rfl, by decide, Or.inl (am_inP 1128 (by decide +kernel) rfl)⟩
theorem am_f182 : am_okF (11, 285, 11, 50) := ⟨(RX11, TX11, 65), by rfl, by decide, Or.inl (am_inP 1129 (by decide +kernel) rfl)⟩
theorem am_f183 : am_okF (11, 116, 11, 51) := ⟨(RX11, TX11, 65), by rfl, by decide, Or.inl (am_inP 1130 (by decide +kernel) rfl)⟩
theorem am_f184 : am_okF (11, 119, 11, 52) := ⟨(RX11, TX11, 65), by rfl, by decide, Or.inl (am_inP 1131 (by decide +kernel) rfl)⟩
theorem am_f185 : am_okF (11, 291, 11, 53) := ⟨(RX11, TX11, 65), by rfl, by decide, Or.inl (am_inP 1132 (by decide +kernel) rfl)⟩
theorem am_f186 : am_okF (11, 122, 11, 54) := ⟨(RX11, TX11, 65), by rfl, by decide, Or.inl (am_inP 1133 (by decide +kernel) rfl)⟩
theorem am_f187 : am_okF (11, 225, 11, 55) := ⟨(RX11, TX11, 65), by rfl, by decide, Or.inl (am_inP 1134 (by decide +kernel) rfl)⟩
theorem am_f188 : am_okF (11, 125, 11, 56) := ⟨(RX11, TX11, 65), by rfl, by decide, Or.inl (am_inP 1135 (by decide +kernel) rfl)⟩
theorem am_f189 : am_okF (11, 364, 11, 57) := ⟨(RX11, TX11, 65), by rfl, by decide, Or.inl (am_inP 1136 (by decide +kernel) rfl)⟩
theorem am_f190 : am_okF (11, 128, 11, 58) := ⟨(RX11, TX11, 65), by rfl, by decide, Or.inl (am_inP 1137 (by decide +kernel) rfl)⟩
theorem am_f191 : am_okF (11, 131, 11, 59) := ⟨(RX11, TX11, 65), by rfl, by decide, Or.inl (am_inP 1138 (by decide +kernel) rfl)⟩
theorem am_f192 : am_okF (11, 134, 11, 60) := ⟨(RX11, TX11, 65), by rfl, by decide, Or.inl (am_inP 1139 (by decide +kernel) rfl)⟩
theorem am_f193 : am_okF (11, 137, 11, 61) := ⟨(RX11, TX11, 65), by rfl, by decide, Or.inl (am_inP 1140 (by decide +kernel) rfl)⟩
theorem am_f194 : am_okF (11, 140, 11, 62) := ⟨(RX11, TX11, 65), by rfl, by decide, Or.inl (am_inP 1141 (by decide +kernel) rfl)⟩
theorem am_f195 : am_okF (11, 367, 11, 63) := ⟨(RX11, TX11, 65), by rfl, by decide, Or.inl (am_inP 1142 (by decide +kernel) rfl)⟩
theorem am_f196 : am_okF (11, 143, 11, 64) := ⟨(RX11, TX11, 65), by rfl, by decide, Or.inl (am_inP 1143 (by decide +kernel) rfl)⟩
def am_fd_0 : List (Nat × Nat × Nat × Nat) := [(7, 9, 7, 0), (2, 172, 7, 0), (7, 15, 7, 1), (6, 41, 7, 1), (3, 144, 7, 1), (7, 38, 7, 2), (6, 67, 7, 2), (3, 169, 7, 2), (7, 41, 7, 3), (6, 70, 7, 3), (6, 27, 6, 0), (6, 9, 6, 1), (6, 15, 6, 2), (6, 18, 6, 3), (6, 21, 6, 4), (6, 24, 6, 5)]
theorem am_fd_k0 : ∀ r ∈ am_fd_0, am_okF r := List.forall_mem_cons.mpr ⟨am_f0, List.forall_mem_cons.mpr ⟨am_f1, List.forall_mem_cons.mpr ⟨am_f2, List.forall_mem_cons.mpr ⟨am_f3, List.forall_mem_cons.mpr ⟨am_f4, List.forall_mem_cons.mpr ⟨am_f5, List.forall_mem_cons.mpr ⟨am_f6, List.forall_mem_cons.mpr ⟨am_f7, List.forall_mem_cons.mpr ⟨am_f8, List.forall_mem_cons.mpr ⟨am_f9, List.forall_mem_cons.mpr ⟨am_f10, List.forall_mem_cons.mpr ⟨am_f11, List.forall_mem_cons.mpr ⟨am_f12, List.forall_mem_cons.mpr ⟨am_f13, List.forall_mem_cons.mpr ⟨am_f14, List.forall_mem_cons.mpr ⟨am_f15, fun _ h => absurd h List.not_mem_nil⟩⟩⟩⟩⟩⟩⟩⟩⟩⟩⟩⟩⟩⟩⟩⟩
def am_fd_1 : List (Nat × Nat × Nat × Nat) := [(6, 38, 6, 6), (9, 33, 6, 6), (8, 40, 6, 6), (6, 31, 6, 7), (6, 35, 6, 8), (10, 129, 6, 8), (9, 15, 9, 0), (9, 19, 9, 1), (9, 9, 9, 2), (8, 137, 9, 2), (3, 194, 9, 2), (9, 23, 9, 3), (8, 140, 9, 3), (3, 198, 9, 3), (4, 18, 4, 0), (3, 131, 4, 0)]
theorem am_fd_k1 : ∀ r ∈ am_fd_1, am_okF r := List.forall_mem_cons.mpr ⟨am_f16, List.forall_mem_cons.mpr ⟨am_f17, List.forall_mem_cons.mpr ⟨am_f18, List.forall_mem_cons.mpr ⟨am_f19, List.forall_mem_cons.mpr ⟨am_f20, List.forall_mem_cons.mpr ⟨am_f21, List.forall_mem_cons.mpr ⟨am_f22, List.forall_mem_cons.mpr ⟨am_f23, List.forall_mem_cons.mpr ⟨am_f24, List.forall_mem_cons.mpr ⟨am_f25, List.forall_mem_cons.mpr ⟨am_f26, List.forall_mem_cons.mpr ⟨am_f27, List.forall_mem_cons.mpr ⟨am_f28, List.forall_mem_cons.mpr ⟨am_f29, List.forall_mem_cons.mpr ⟨am_f30, List.forall_mem_cons.mpr ⟨am_f31, fun _ h => absurd h List.not_mem_nil⟩⟩⟩⟩⟩⟩⟩⟩⟩⟩⟩⟩⟩⟩⟩⟩
def am_fd_2 : List (Nat × Nat × Nat × Nat) := [(2, 107, 4, 0), (4, 22, 4, 1), (5, 72, 4, 1), (4, 25, 4, 2), (4, 9, 4, 3), (4, 15, 4, 4), (4, 28, 4, 5), (5, 66, 4, 5), (2, 121, 4, 5), (0, 9, 0, 0), (8, 153, 0, 0), (2, 127, 0, 0), (0, 15, 0, 1), (8, 150, 0, 1), (0, 18, 0, 2), (8, 127, 0, 2)]
theorem am_fd_k2 : ∀ r ∈ am_fd_2, am_okF r := List.forall_mem_cons.mpr ⟨am_f32, List.forall_mem_cons.mpr ⟨am_f33, List.forall_mem_cons.mpr ⟨am_f34, List.forall_mem_cons.mpr ⟨am_f35, List.forall_mem_cons.mpr ⟨am_f36, List.forall_mem_cons.mpr ⟨am_f37, List.forall_mem_cons.mpr ⟨am_f38, List.forall_mem_cons.mpr ⟨am_f39, List.forall_mem_cons.mpr ⟨am_f40, List.forall_mem_cons.mpr ⟨am_f41, List.forall_mem_cons.mpr ⟨am_f42, List.forall_mem_cons.mpr ⟨am_f43, List.forall_mem_cons.mpr ⟨am_f44, List.forall_mem_cons.mpr ⟨am_f45, List.forall_mem_cons.mpr ⟨am_f46, List.forall_mem_cons.mpr ⟨am_f47, fun _ h => absurd h List.not_mem_nil⟩⟩⟩⟩⟩⟩⟩⟩⟩⟩⟩⟩⟩⟩⟩⟩
def am_fd_3 : List (Nat × Nat × Nat × Nat) := [(2, 150, 0, 2), (0, 21, 0, 3), (2, 130, 0, 3), (0, 24, 0, 4), (2, 153, 0, 4), (0, 27, 0, 5), (2, 156, 0, 5), (0, 30, 0, 6), (8, 162, 0, 6), (2, 140, 0, 6), (0, 33, 0, 7), (8, 165, 0, 7), (2, 143, 0, 7), (0, 36, 0, 8), (8, 159, 0, 8), (2, 137, 0, 8)]
theorem am_fd_k3 : ∀ r ∈ am_fd_3, am_okF r := List.forall_mem_cons.mpr ⟨am_f48, List.forall_mem_cons.mpr ⟨am_f49, List.forall_mem_cons.mpr ⟨am_f50, List.forall_mem_cons.mpr ⟨am_f51, List.forall_mem_cons.mpr ⟨am_f52, List.forall_mem_cons.mpr ⟨am_f53, List.forall_mem_cons.mpr ⟨am_f54, List.forall_mem_cons.mpr ⟨am_f55, List.forall_mem_cons.mpr ⟨am_f56, List.forall_mem_cons.mpr ⟨am_f57, List.forall_mem_cons.mpr ⟨am_f58, List.forall_mem_cons.mpr ⟨am_f59, List.forall_mem_cons.mpr ⟨am_f60, List.forall_mem_cons.mpr ⟨am_f61, List.forall_mem_cons.mpr ⟨am_f62, List.forall_mem_cons.mpr ⟨am_f63, fun _ h => absurd h List.not_mem_nil⟩⟩⟩⟩⟩⟩⟩⟩⟩⟩⟩⟩⟩⟩⟩⟩
def am_fd_4 : List (Nat × Nat × Nat × Nat) := [(0, 39, 0, 9), (8, 147, 0, 9), (2, 124, 0, 9), (0, 43, 0, 10), (5, 9, 5, 0), (5, 51, 5, 1), (5, 63, 5, 2), (5, 59, 5, 3), (3, 29, 3, 0), (3, 33, 3, 1), (3, 37, 3, 2), (3, 46, 3, 3), (3, 11, 3, 4), (2, 67, 3, 4), (3, 18, 3, 5), (3, 25, 3, 6)]
theorem am_fd_k4 : ∀ r ∈ am_fd_4, am_okF r := List.forall_mem_cons.mpr ⟨am_f64, List.forall_mem_cons.mpr ⟨am_f65, List.forall_mem_cons.mpr ⟨am_f66, List.forall_mem_cons.mpr ⟨am_f67, List.forall_mem_cons.mpr ⟨am_f68, List.forall_mem_cons.mpr ⟨am_f69, List.forall_mem_cons.mpr ⟨am_f70, List.forall_mem_cons.mpr ⟨am_f71, List.forall_mem_cons.mpr ⟨am_f72, List.forall_mem_cons.mpr ⟨am_f73, List.forall_mem_cons.mpr ⟨am_f74, List.forall_mem_cons.mpr ⟨am_f75, List.forall_mem_cons.mpr ⟨am_f76, List.forall_mem_cons.mpr ⟨am_f77, List.forall_mem_cons.mpr ⟨am_f78, List.forall_mem_cons.mpr ⟨am_f79, fun _ h => absurd h List.not_mem_nil⟩⟩⟩⟩⟩⟩⟩⟩⟩⟩⟩⟩⟩⟩⟩⟩
def am_fd_5 : List (Nat × Nat × Nat × Nat) := [(2, 26, 3, 6), (10, 52, 3, 6), (2, 37, 3, 7), (3, 99, 3, 7), (3, 103, 3, 8), (2, 59, 3, 8), (1, 9, 1, 0), (2, 77, 1, 0), (10, 114, 1, 0), (1, 15, 1, 1), (10, 117, 1, 1), (2, 96, 1, 1), (1, 18, 1, 2), (10, 126, 1, 2), (2, 181, 1, 2), (1, 21, 1, 3)]
theorem am_fd_k5 : ∀ r ∈ am_fd_5, am_okF r := List.forall_mem_cons.mpr ⟨am_f80, List.forall_mem_cons.mpr ⟨am_f81, List.forall_mem_cons.mpr ⟨am_f82, List.forall_mem_cons.mpr ⟨am_f83, List.forall_mem_cons.mpr ⟨am_f84, List.forall_mem_cons.mpr ⟨am_f85, List.forall_mem_cons.mpr ⟨am_f86, List.forall_mem_cons.mpr ⟨am_f87, List.forall_mem_cons.mpr ⟨am_f88, List.forall_mem_cons.mpr ⟨am_f89, List.forall_mem_cons.mpr ⟨am_f90, List.forall_mem_cons.mpr ⟨am_f91, List.forall_mem_cons.mpr ⟨am_f92, List.forall_mem_cons.mpr ⟨am_f93, List.forall_mem_cons.mpr ⟨am_f94, List.forall_mem_cons.mpr ⟨am_f95, fun _ h => absurd h List.not_mem_nil⟩⟩⟩⟩⟩⟩⟩⟩⟩⟩⟩⟩⟩⟩⟩⟩
def am_fd_6 : List (Nat × Nat × Nat × Nat) := [(10, 120, 1, 3), (2, 182, 1, 3), (1, 24, 1, 4), (2, 83, 1, 4), (1, 27, 1, 5), (10, 123, 1, 5), (2, 180, 1, 5), (1, 30, 1, 6), (2, 50, 1, 6), (10, 104, 1, 6), (1, 34, 1, 7), (8, 9, 8, 0), (8, 15, 8, 1), (8, 19, 8, 2), (8, 23, 8, 3), (8, 27, 8, 4)]
theorem am_fd_k6 : ∀ r ∈ am_fd_6, am_okF r := List.forall_mem_cons.mpr ⟨am_f96, List.forall_mem_cons.mpr ⟨am_f97, List.forall_mem_cons.mpr ⟨am_f98, List.forall_mem_cons.mpr ⟨am_f99, List.forall_mem_cons.mpr ⟨am_f100, List.forall_mem_cons.mpr ⟨am_f101, List.forall_mem_cons.mpr ⟨am_f102, List.forall_mem_cons.mpr ⟨am_f103, List.forall_mem_cons.mpr ⟨am_f104, List.forall_mem_cons.mpr ⟨am_f105, List.forall_mem_cons.mpr ⟨am_f106, List.forall_mem_cons.mpr ⟨am_f107, List.forall_mem_cons.mpr ⟨am_f108, List.forall_mem_cons.mpr ⟨am_f109, List.forall_mem_cons.mpr ⟨am_f110, List.forall_mem_cons.mpr ⟨am_f111, fun _ h => absurd h List.not_mem_nil⟩⟩⟩⟩⟩⟩⟩⟩⟩⟩⟩⟩⟩⟩⟩⟩
def am_fd_7 : List (Nat × Nat × Nat × Nat) := [(2, 18, 2, 0), (2, 22, 2, 1), (2, 32, 2, 2), (2, 33, 2, 3), (2, 9, 2, 4), (2, 15, 2, 5), (2, 44, 2, 6), (2, 41, 2, 7), (10, 9, 10, 0), (10, 75, 10, 1), (10, 82, 10, 2), (10, 105, 10, 3), (10, 108, 10, 4), (10, 89, 10, 5), (10, 16, 10, 6), (10, 25, 10, 7)]
theorem am_fd_k7 : ∀ r ∈ am_fd_7, am_okF r := List.forall_mem_cons.mpr ⟨am_f112, List.forall_mem_cons.mpr ⟨am_f113, List.forall_mem_cons.mpr ⟨am_f114, List.forall_mem_cons.mpr ⟨am_f115, List.forall_mem_cons.mpr ⟨am_f116, List.forall_mem_cons.mpr ⟨am_f117, List.forall_mem_cons.mpr ⟨am_f118, List.forall_mem_cons.mpr ⟨am_f119, List.forall_mem_cons.mpr ⟨am_f120, List.forall_mem_cons.mpr ⟨am_f121, List.forall_mem_cons.mpr ⟨am_f122, List.forall_mem_cons.mpr ⟨am_f123, List.forall_mem_cons.mpr ⟨am_f124, List.forall_mem_cons.mpr ⟨am_f125, List.forall_mem_cons.mpr ⟨am_f126, List.forall_mem_cons.mpr ⟨am_f127, fun _ h => absurd h List.not_mem_nil⟩⟩⟩⟩⟩⟩⟩⟩⟩⟩⟩⟩⟩⟩⟩⟩
def am_fd_8 : List (Nat × Nat × Nat × Nat) := [(10, 39, 10, 8), (10, 46, 10, 9), (10, 59, 10, 10), (10, 68, 10, 11), (11, 146, 11, 0), (11, 159, 11, 1), (11, 219, 11, 2), (11, 216, 11, 3), (11, 328, 11, 4), (11, 7, 11, 5), (11, 13, 11, 6), (11, 154, 11, 7), (11, 16, 11, 8), (11, 169, 11, 9), (11, 19, 11, 10), (11, 22, 11, 11)]
theorem am_fd_k8 : ∀ r ∈ am_fd_8, am_okF r := List.forall_mem_cons.mpr ⟨am_f128, List.forall_mem_cons.mpr ⟨am_f129, List.forall_mem_cons.mpr ⟨am_f130, List.forall_mem_cons.mpr ⟨am_f131, List.forall_mem_cons.mpr ⟨am_f132, List.forall_mem_cons.mpr ⟨am_f133, List.forall_mem_cons.mpr ⟨am_f134, List.forall_mem_cons.mpr ⟨am_f135, List.forall_mem_cons.mpr ⟨am_f136, List.forall_mem_cons.mpr ⟨am_f137, List.forall_mem_cons.mpr ⟨am_f138, List.forall_mem_cons.mpr ⟨am_f139, List.forall_mem_cons.mpr ⟨am_f140, List.forall_mem_cons.mpr ⟨am_f141, List.forall_mem_cons.mpr ⟨am_f142, List.forall_mem_cons.mpr ⟨am_f143, fun _ h => absurd h List.not_mem_nil⟩⟩⟩⟩⟩⟩⟩⟩⟩⟩⟩⟩⟩⟩⟩⟩
def am_fd_9 : List (Nat × Nat × Nat × Nat) := [(11, 25, 11, 12), (11, 179, 11, 13), (11, 29, 11, 14), (11, 32, 11, 15), (11, 35, 11, 16), (11, 38, 11, 17), (11, 222, 11, 18), (11, 41, 11, 19), (11, 44, 11, 20), (11, 47, 11, 21), (11, 50, 11, 22), (11, 252, 11, 23), (11, 243, 11, 24), (11, 53, 11, 25), (11, 56, 11, 26), (11, 59, 11, 27)]
theorem am_fd_k9 : ∀ r ∈ am_fd_9, am_okF r := List.forall_mem_cons.mpr ⟨am_f144, List.forall_mem_cons.mpr ⟨am_f145, List.forall_mem_cons.mpr ⟨am_f146, List.forall_mem_cons.mpr ⟨am_f147, List.forall_mem_cons.mpr ⟨am_f148, List.forall_mem_cons.mpr ⟨am_f149, List.forall_mem_cons.mpr ⟨am_f150, List.forall_mem_cons.mpr ⟨am_f151, List.forall_mem_cons.mpr ⟨am_f152, List.forall_mem_cons.mpr ⟨am_f153, List.forall_mem_cons.mpr ⟨am_f154, List.forall_mem_cons.mpr ⟨am_f155, List.forall_mem_cons.mpr ⟨am_f156, List.forall_mem_cons.mpr ⟨am_f157, List.forall_mem_cons.mpr ⟨am_f158, List.forall_mem_cons.mpr ⟨am_f159, fun _ h => absurd h List.not_mem_nil⟩⟩⟩⟩⟩⟩⟩⟩⟩⟩⟩⟩⟩⟩⟩⟩
def am_fd_10 : List (Nat × Nat × Nat × Nat) := [(11, 62, 11, 28), (11, 65, 11, 29), (11, 68, 11, 30), (11, 71, 11, 31), (11, 74, 11, 32), (11, 77, 11, 33), (11, 80, 11, 34), (11, 83, 11, 35), (11, 86, 11, 36), (11, 89, 11, 37), (11, 342, 11, 38), (11, 339, 11, 39), (11, 336, 11, 40), (11, 297, 11, 41), (11, 92, 11, 42), (11, 95, 11, 43)]
theorem am_fd_k10 : ∀ r ∈ am_fd_10, am_okF r := List.forall_mem_cons.mpr ⟨am_f160, List.forall_mem_cons.mpr ⟨am_f161, List.forall_mem_cons.mpr ⟨am_f162, List.forall_mem_cons.mpr ⟨am_f163, List.forall_mem_cons.mpr ⟨am_f164, List.forall_mem_cons.mpr ⟨am_f165, List.forall_mem_cons.mpr ⟨am_f166, List.forall_mem_cons.mpr ⟨am_f167, List.forall_mem_cons.mpr ⟨am_f168, List.forall_mem_cons.mpr ⟨am_f169, List.forall_mem_cons.mpr ⟨am_f170, List.forall_mem_cons.mpr ⟨am_f171, List.forall_mem_cons.mpr ⟨am_f172, List.forall_mem_cons.mpr ⟨am_f173, List.forall_mem_cons.mpr ⟨am_f174, List.forall_mem_cons.mpr ⟨am_f175, fun _ h => absurd h List.not_mem_nil⟩⟩⟩⟩⟩⟩⟩⟩⟩⟩⟩⟩⟩⟩⟩⟩
def am_fd_11 : List (Nat × Nat × Nat × Nat) := [(11, 98, 11, 44), (11, 101, 11, 45), (11, 104, 11, 46), (11, 107, 11, 47), (11, 110, 11, 48), (11, 113, 11, 49), (11, 285, 11, 50), (11, 116, 11, 51), (11, 119, 11, 52), (11, 291, 11, 53), (11, 122, 11, 54), (11, 225, 11, 55), (11, 125, 11, 56), (11, 364, 11, 57), (11, 128, 11, 58), (11, 131, 11, 59)]
theorem am_fd_k11 : ∀ r ∈ am_fd_11, am_okF r := List.forall_mem_cons.mpr ⟨am_f176, List.forall_mem_cons.mpr ⟨am_f177, List.forall_mem_cons.mpr ⟨am_f178, List.forall_mem_cons.mpr ⟨am_f179, List.forall_mem_cons.mpr ⟨am_f180, List.forall_mem_cons.mpr ⟨am_f181, List.forall_mem_cons.mpr ⟨am_f182, List.forall_mem_cons.mpr ⟨am_f183, List.forall_mem_cons.mpr ⟨am_f184, List.forall_mem_cons.mpr ⟨am_f185, List.forall_mem_cons.mpr ⟨am_f186, List.forall_mem_cons.mpr ⟨am_f187, List.forall_mem_cons.mpr ⟨am_f188, List.forall_mem_cons.mpr ⟨am_f189, List.forall_mem_cons.mpr ⟨am_f190, List.forall_mem_cons.mpr ⟨am_f191, fun _ h => absurd h List.not_mem_nil⟩⟩⟩⟩⟩⟩⟩⟩⟩⟩⟩⟩⟩⟩⟩⟩
def am_fd_12 : List (Nat × Nat × Nat × Nat) := [(11, 134, 11, 60), (11, 137, 11, 61), (11, 140, 11, 62), (11, 367, 11, 63), (11, 143, 11, 64)]
theorem am_fd_k12 : ∀ r ∈ am_fd_12, am_okF r := List.forall_mem_cons.mpr ⟨am_f192, List.forall_mem_cons.mpr ⟨am_f193, List.forall_mem_cons.mpr ⟨am_f194, List.forall_mem_cons.mpr ⟨am_f195, List.forall_mem_cons.mpr ⟨am_f196, fun _ h => absurd h List.not_mem_nil⟩⟩⟩⟩⟩
def am_fd : List (Nat × Nat × Nat × Nat) := am_fd_0 ++ (am_fd_1 ++ (am_fd_2 ++ (am_fd_3 ++ (am_fd_4 ++ (am_fd_5 ++ (am_fd_6 ++ (am_fd_7 ++ (am_fd_8 ++ (am_fd_9 ++ (am_fd_10 ++ (am_fd_11 ++ (am_fd_12))))))))))))
theorem am_fd_ok : ∀ r ∈ am_fd, am_okF r := List.forall_mem_append.mpr ⟨am_fd_k0, List.forall_mem_append.mpr ⟨am_fd_k1, List.forall_mem_append.mpr ⟨am_fd_k2, List.forall_mem_append.mpr ⟨am_fd_k3, List.forall_mem_append.mpr ⟨am_fd_k4, List.forall_mem_append.mpr ⟨am_fd_k5, List.forall_mem_append.mpr ⟨am_fd_k6, List.forall_mem_append.mpr ⟨am_fd_k7, List.forall_mem_append.mpr ⟨am_fd_k8, List.forall_mem_append.mpr ⟨am_fd_k9, List.forall_mem_append.mpr ⟨am_fd_k10, List.forall_mem_append.mpr ⟨am_fd_k11, am_fd_k12⟩⟩⟩⟩⟩⟩⟩⟩⟩⟩⟩⟩
def am_okN (r : Nat × Nat × Nat) : Prop := ∃ a : vw_C, vwCl[r.2.2]? = some a ∧ am_in (.classLink (am_R r.1) r.2.1 a.1)
theorem am_n0 : am_okN (12, 8, 10) := ⟨(RX10, TX10, 12), by rfl, am_inP 25 (by decide +kernel) rfl⟩
theorem am_n1 : am_okN (10, 13, 7) := ⟨(RX7, TX7, 4), by rfl, am_inP 33 (by decide +kernel) rfl⟩
theorem am_n2 : am_okN (10, 20, 6) := ⟨(RX6, TX6, 9), by rfl, am_inP 59 (by decide +kernel) rfl⟩
theorem am_n3 : am_okN (10, 29, 9) := ⟨(RX9, TX9, 4), by rfl, am_inP 96 (by decide +kernel) rfl⟩
theorem am_n4 : am_okN (10, 34, 3) := ⟨(RX3, TX3, 9), by rfl, am_inP 119 (by decide +kernel) rfl⟩
theorem am_n5 : am_okN (3, 9, 4) := ⟨(RX4, TX4, 6), by rfl, am_inP 125 (by decide +kernel) rfl⟩
theorem am_n6 : am_okN (3, 22, 0) := ⟨(RX0, TX0, 11), by rfl, am_inP 156 (by decide +kernel) rfl⟩
theorem am_n7 : am_okN (3, 41, 5) := ⟨(RX5, TX5, 4), by rfl, am_inP 212 (by decide +kernel) rfl⟩
theorem am_n8 : am_okN (10, 43, 1) := ⟨(RX1, TX1, 8), by rfl, am_inP 264 (by decide +kernel) rfl⟩
theorem am_n9 : am_okN (10, 50, 8) := ⟨(RX8, TX8, 5), by rfl, am_inP 308 (by decide +kernel) rfl⟩
theorem am_n10 : am_okN (10, 63, 2) := ⟨(RX2, TX2, 8), by rfl, am_inP 330 (by decide +kernel) rfl⟩
theorem am_n11 : am_okN (12, 33, 11) := ⟨(RX11, TX11, 65), by rfl, am_inP 1073 (by decide +kernel) rfl⟩
def am_nw_0 : List (Nat × Nat × Nat) := [(12, 8, 10), (10, 13, 7), (10, 20, 6), (10, 29, 9), (10, 34, 3), (3, 9, 4), (3, 22, 0), (3, 41, 5), (10, 43, 1), (10, 50, 8), (10, 63, 2), (12, 33, 11)]
theorem am_nw_k0 : ∀ r ∈ am_nw_0, am_okN r := List.forall_mem_cons.mpr ⟨am_n0, List.forall_mem_cons.mpr ⟨am_n1, List.forall_mem_cons.mpr ⟨am_n2, List.forall_mem_cons.mpr ⟨am_n3, List.forall_mem_cons.mpr ⟨am_n4, List.forall_mem_cons.mpr ⟨am_n5, List.forall_mem_cons.mpr ⟨am_n6, List.forall_mem_cons.mpr ⟨am_n7, List.forall_mem_cons.mpr ⟨am_n8, List.forall_mem_cons.mpr ⟨am_n9, List.forall_mem_cons.mpr ⟨am_n10, List.forall_mem_cons.mpr ⟨am_n11, fun _ h => absurd h List.not_mem_nil⟩⟩⟩⟩⟩⟩⟩⟩⟩⟩⟩⟩
def am_nw : List (Nat × Nat × Nat) := am_nw_0
theorem am_nw_ok : ∀ r ∈ am_nw, am_okN r := am_nw_k0
/-- the exceptions, by their numbers, with the classes between them and Throwable -/
def am_xn : Nat → String := fun x => match x with
  | 0 => "java/lang/IllegalArgumentException"
  | 1 => "java/lang/IllegalStateException"
  | 2 => "java/lang/UnsupportedOperationException"
  | _ => "java/lang/IndexOutOfBoundsException"
def am_up : List String := ["java/lang/RuntimeException", "java/lang/Exception"]
def am_okX (r : Nat × Nat × Nat × Nat) : Prop := am_in (.classLink (am_R r.1) r.2.1 (am_xn r.2.2.2)) ∧ am_in (.initialized (am_xn r.2.2.2)) ∧ Bundle.fit (am_xn r.2.2.2) = true ∧ ∀ w ∈ vx_at0 (am_R r.1) r.2.2.1 (am_xn r.2.2.2) am_up, am_in w
theorem am_xT {own own0 X : String} {ic ic0 : Nat} (h1 : ∀ w ∈ vx_at0 own0 ic0 X am_up, am_in w) (h2 : am_in (.methodLink own ic (Bundle.init0 X))) : ∀ w ∈ vx_at0 own ic X am_up, am_in w := by
  intro w hw
  simp only [vx_at0, List.mem_filter] at hw
  by_cases hq : w = .methodLink own ic (Bundle.init0 X)
  · rw [hq]; exact h2
  · refine h1 w (List.mem_filter.mpr ⟨?_, hw.2⟩)
    have h3 := hw.1
    unfold Bundle.ownAtoms0 at h3 ⊢
    rcases List.mem_append.mp h3 with h | h
    · exact List.mem_append_left _ h
    · refine List.mem_append_right _ ?_
      rcases List.mem_cons.mp h with h | h
      · exact absurd h hq
      · exact List.mem_cons_of_mem _ h
set_option maxRecDepth 100000 in
theorem am_xB0 : ∀ w ∈ vx_at0 (am_R 5) 83 (am_xn 0) am_up, am_in w := by unfold am_in; decide +kernel
set_option maxRecDepth 100000 in
theorem am_xB1 : ∀ w ∈ vx_at0 (am_R 0) 48 (am_xn 1) am_up, am_in w := by unfold am_in; decide +kernel
set_option maxRecDepth 100000 in
theorem am_xB2 : ∀ w ∈ vx_at0 (am_R 3) 130 (am_xn 2) am_up, am_in w := by unfold am_in; decide +kernel
set_option maxRecDepth 100000 in
theorem am_xB3 : ∀ w ∈ vx_at0 (am_R 10) 113 (am_xn 3) am_up, am_in w := by unfold am_in; decide +kernel
set_option maxRecDepth 100000 in
theorem am_x0 : am_okX (0, 46, 48, 1) := ⟨am_inP 786 (by decide +kernel) rfl, am_inP 17 (by decide +kernel) rfl, by decide +kernel, am_xT am_xB1 (am_inP 787 (by decide +kernel) rfl)⟩
set_option maxRecDepth 100000 in
theorem am_x1 : am_okX (1, 37, 39, 1) := ⟨am_inP 894 (by decide +kernel) rfl, am_inP 17 (by decide +kernel) rfl, by decide +kernel, am_xT am_xB1 (am_inP 895 (by decide +kernel) rfl)⟩
set_option maxRecDepth 100000 in
theorem am_x2 : am_okX (3, 128, 130, 2) := ⟨am_inP 659 (by decide +kernel) rfl, am_inP 22 (by decide +kernel) rfl, by decide +kernel, am_xT am_xB2 (am_inP 668 (by decide +kernel) rfl)⟩
set_option maxRecDepth 100000 in
theorem am_x3 : am_okX (4, 31, 33, 1) := ⟨am_inP 722 (by decide +kernel) rfl, am_inP 17 (by decide +kernel) rfl, by decide +kernel, am_xT am_xB1 (am_inP 723 (by decide +kernel) rfl)⟩
set_option maxRecDepth 100000 in
theorem am_x4 : am_okX (5, 81, 83, 0) := ⟨am_inP 705 (by decide +kernel) rfl, am_inP 16 (by decide +kernel) rfl, by decide +kernel, am_xT am_xB0 (am_inP 706 (by decide +kernel) rfl)⟩
set_option maxRecDepth 100000 in
theorem am_x5 : am_okX (5, 84, 86, 1) := ⟨am_inP 711 (by decide +kernel) rfl, am_inP 17 (by decide +kernel) rfl, by decide +kernel, am_xT am_xB1 (am_inP 712 (by decide +kernel) rfl)⟩
set_option maxRecDepth 100000 in
theorem am_x6 : am_okX (6, 50, 52, 0) := ⟨am_inP 803 (by decide +kernel) rfl, am_inP 16 (by decide +kernel) rfl, by decide +kernel, am_xT am_xB0 (am_inP 804 (by decide +kernel) rfl)⟩
set_option maxRecDepth 100000 in
theorem am_x7 : am_okX (6, 64, 66, 1) := ⟨am_inP 840 (by decide +kernel) rfl, am_inP 17 (by decide +kernel) rfl, by decide +kernel, am_xT am_xB1 (am_inP 841 (by decide +kernel) rfl)⟩
set_option maxRecDepth 100000 in
theorem am_x8 : am_okX (7, 31, 33, 0) := ⟨am_inP 524 (by decide +kernel) rfl, am_inP 16 (by decide +kernel) rfl, by decide +kernel, am_xT am_xB0 (am_inP 525 (by decide +kernel) rfl)⟩
set_option maxRecDepth 100000 in
theorem am_x9 : am_okX (7, 44, 46, 1) := ⟨am_inP 536 (by decide +kernel) rfl, am_inP 17 (by decide +kernel) rfl, by decide +kernel, am_xT am_xB1 (am_inP 537 (by decide +kernel) rfl)⟩
set_option maxRecDepth 100000 in
theorem am_x10 : am_okX (8, 81, 83, 0) := ⟨am_inP 904 (by decide +kernel) rfl, am_inP 16 (by decide +kernel) rfl, by decide +kernel, am_xT am_xB0 (am_inP 905 (by decide +kernel) rfl)⟩
set_option maxRecDepth 100000 in
theorem am_x11 : am_okX (9, 46, 48, 0) := ⟨am_inP 805 (by decide +kernel) rfl, am_inP 16 (by decide +kernel) rfl, by decide +kernel, am_xT am_xB0 (am_inP 806 (by decide +kernel) rfl)⟩
set_option maxRecDepth 100000 in
theorem am_x12 : am_okX (9, 68, 70, 1) := ⟨am_inP 813 (by decide +kernel) rfl, am_inP 17 (by decide +kernel) rfl, by decide +kernel, am_xT am_xB1 (am_inP 814 (by decide +kernel) rfl)⟩
set_option maxRecDepth 100000 in
theorem am_x13 : am_okX (10, 72, 74, 0) := ⟨am_inP 423 (by decide +kernel) rfl, am_inP 16 (by decide +kernel) rfl, by decide +kernel, am_xT am_xB0 (am_inP 465 (by decide +kernel) rfl)⟩
set_option maxRecDepth 100000 in
theorem am_x14 : am_okX (10, 79, 81, 1) := ⟨am_inP 487 (by decide +kernel) rfl, am_inP 17 (by decide +kernel) rfl, by decide +kernel, am_xT am_xB1 (am_inP 496 (by decide +kernel) rfl)⟩
set_option maxRecDepth 100000 in
theorem am_x15 : am_okX (10, 111, 113, 3) := ⟨am_inP 1051 (by decide +kernel) rfl, am_inP 24 (by decide +kernel) rfl, by decide +kernel, am_xT am_xB3 (am_inP 1060 (by decide +kernel) rfl)⟩
def am_xw_0 : List (Nat × Nat × Nat × Nat) := [(0, 46, 48, 1), (1, 37, 39, 1), (3, 128, 130, 2), (4, 31, 33, 1), (5, 81, 83, 0), (5, 84, 86, 1), (6, 50, 52, 0), (6, 64, 66, 1), (7, 31, 33, 0), (7, 44, 46, 1), (8, 81, 83, 0), (9, 46, 48, 0), (9, 68, 70, 1), (10, 72, 74, 0), (10, 79, 81, 1), (10, 111, 113, 3)]
theorem am_xw_k0 : ∀ r ∈ am_xw_0, am_okX r := List.forall_mem_cons.mpr ⟨am_x0, List.forall_mem_cons.mpr ⟨am_x1, List.forall_mem_cons.mpr ⟨am_x2, List.forall_mem_cons.mpr ⟨am_x3, List.forall_mem_cons.mpr ⟨am_x4, List.forall_mem_cons.mpr ⟨am_x5, List.forall_mem_cons.mpr ⟨am_x6, List.forall_mem_cons.mpr ⟨am_x7, List.forall_mem_cons.mpr ⟨am_x8, List.forall_mem_cons.mpr ⟨am_x9, List.forall_mem_cons.mpr ⟨am_x10, List.forall_mem_cons.mpr ⟨am_x11, List.forall_mem_cons.mpr ⟨am_x12, List.forall_mem_cons.mpr ⟨am_x13, List.forall_mem_cons.mpr ⟨am_x14, List.forall_mem_cons.mpr ⟨am_x15, fun _ h => absurd h List.not_mem_nil⟩⟩⟩⟩⟩⟩⟩⟩⟩⟩⟩⟩⟩⟩⟩⟩
def am_xw : List (Nat × Nat × Nat × Nat) := am_xw_0
theorem am_xw_ok : ∀ r ∈ am_xw, am_okX r := am_xw_k0
def am_okH (r : Nat × Nat × Nat) : Prop := am_in (.classLink (am_R r.1) r.2.1 (am_xn r.2.2))
theorem am_h0 : am_okH (12, 13, 0) := am_inP 417 (by decide +kernel) rfl
theorem am_h1 : am_okH (12, 15, 1) := am_inP 418 (by decide +kernel) rfl
theorem am_h2 : am_okH (12, 21, 2) := am_inP 505 (by decide +kernel) rfl
theorem am_h3 : am_okH (12, 27, 3) := am_inP 1046 (by decide +kernel) rfl
def am_hc_0 : List (Nat × Nat × Nat) := [(12, 13, 0), (12, 15, 1), (12, 21, 2), (12, 27, 3)]
theorem am_hc_k0 : ∀ r ∈ am_hc_0, am_okH r := List.forall_mem_cons.mpr ⟨am_h0, List.forall_mem_cons.mpr ⟨am_h1, List.forall_mem_cons.mpr ⟨am_h2, List.forall_mem_cons.mpr ⟨am_h3, fun _ h => absurd h List.not_mem_nil⟩⟩⟩⟩
def am_hc : List (Nat × Nat × Nat) := am_hc_0
theorem am_hc_ok : ∀ r ∈ am_hc, am_okH r := am_hc_k0
def am_okI32 (r : Nat × Nat × Int32) : Prop := am_in (.constant (am_R r.1) r.2.1 r.2.2)
theorem am_e0 : am_okI32 (10, 132, 55295) := am_inP 529 (by decide +kernel) rfl
theorem am_e1 : am_okI32 (10, 133, 57344) := am_inP 530 (by decide +kernel) rfl
theorem am_e2 : am_okI32 (10, 134, 65533) := am_inP 531 (by decide +kernel) rfl
theorem am_e3 : am_okI32 (7, 79, 1000000) := am_inP 558 (by decide +kernel) rfl
theorem am_e4 : am_okI32 (3, 68, 1000000) := am_inP 676 (by decide +kernel) rfl
theorem am_e5 : am_okI32 (5, 69, 1000000) := am_inP 701 (by decide +kernel) rfl
theorem am_e6 : am_okI32 (9, 38, 1000000) := am_inP 797 (by decide +kernel) rfl
theorem am_e7 : am_okI32 (8, 39, 1000000) := am_inP 897 (by decide +kernel) rfl
theorem am_e8 : am_okI32 (11, 162, 55295) := am_inP 1312 (by decide +kernel) rfl
theorem am_e9 : am_okI32 (11, 163, 57344) := am_inP 1313 (by decide +kernel) rfl
theorem am_e10 : am_okI32 (11, 164, 65533) := am_inP 1314 (by decide +kernel) rfl
def am_c32_0 : List (Nat × Nat × Int32) := [(10, 132, 55295), (10, 133, 57344), (10, 134, 65533), (7, 79, 1000000), (3, 68, 1000000), (5, 69, 1000000), (9, 38, 1000000), (8, 39, 1000000), (11, 162, 55295), (11, 163, 57344), (11, 164, 65533)]
theorem am_c32_k0 : ∀ r ∈ am_c32_0, am_okI32 r := List.forall_mem_cons.mpr ⟨am_e0, List.forall_mem_cons.mpr ⟨am_e1, List.forall_mem_cons.mpr ⟨am_e2, List.forall_mem_cons.mpr ⟨am_e3, List.forall_mem_cons.mpr ⟨am_e4, List.forall_mem_cons.mpr ⟨am_e5, List.forall_mem_cons.mpr ⟨am_e6, List.forall_mem_cons.mpr ⟨am_e7, List.forall_mem_cons.mpr ⟨am_e8, List.forall_mem_cons.mpr ⟨am_e9, List.forall_mem_cons.mpr ⟨am_e10, fun _ h => absurd h List.not_mem_nil⟩⟩⟩⟩⟩⟩⟩⟩⟩⟩⟩
def am_c32 : List (Nat × Nat × Int32) := am_c32_0
theorem am_c32_ok : ∀ r ∈ am_c32, am_okI32 r := am_c32_k0
def am_okI64 (r : Nat × Nat × Int64) : Prop := am_in (.constantLong (am_R r.1) r.2.1 r.2.2)
theorem am_g0 : am_okI64 (11, 157, 255) := am_inP 1284 (by decide +kernel) rfl
theorem am_g1 : am_okI64 (11, 238, 75107222706512) := am_inP 1338 (by decide +kernel) rfl
theorem am_g2 : am_okI64 (11, 234, 91643115226445) := am_inP 1359 (by decide +kernel) rfl
theorem am_g3 : am_okI64 (11, 236, 88327114737987) := am_inP 1360 (by decide +kernel) rfl
theorem am_g4 : am_okI64 (11, 259, 18388594520052564) := am_inP 1369 (by decide +kernel) rfl
theorem am_g5 : am_okI64 (11, 274, 288907940929) := am_inP 1386 (by decide +kernel) rfl
theorem am_g6 : am_okI64 (11, 276, 18756) := am_inP 1387 (by decide +kernel) rfl
theorem am_g7 : am_okI64 (11, 278, 5391686) := am_inP 1388 (by decide +kernel) rfl
theorem am_g8 : am_okI64 (11, 280, 22040072686355790) := am_inP 1389 (by decide +kernel) rfl
theorem am_g9 : am_okI64 (11, 306, 5928233911247324484) := am_inP 1397 (by decide +kernel) rfl
theorem am_g10 : am_okI64 (11, 308, 20632680572470596) := am_inP 1398 (by decide +kernel) rfl
theorem am_g11 : am_okI64 (11, 310, 301878232388) := am_inP 1399 (by decide +kernel) rfl
theorem am_g12 : am_okI64 (11, 208, 29755) := am_inP 1420 (by decide +kernel) rfl
theorem am_g13 : am_okI64 (11, 214, 7172155) := am_inP 1421 (by decide +kernel) rfl
theorem am_g14 : am_okI64 (11, 264, 83860532842068) := am_inP 1426 (by decide +kernel) rfl
theorem am_g15 : am_okI64 (11, 318, 297649853529) := am_inP 1431 (by decide +kernel) rfl
theorem am_g16 : am_okI64 (11, 320, 4279897) := am_inP 1432 (by decide +kernel) rfl
theorem am_g17 : am_okI64 (11, 334, 9939874023035969) := am_inP 1437 (by decide +kernel) rfl
theorem am_g18 : am_okI64 (11, 269, 336421540953) := am_inP 1470 (by decide +kernel) rfl
theorem am_g19 : am_okI64 (12, 36, 4294967295) := am_inP 1562 (by decide +kernel) rfl
def am_c64_0 : List (Nat × Nat × Int64) := [(11, 157, 255), (11, 238, 75107222706512), (11, 234, 91643115226445), (11, 236, 88327114737987), (11, 259, 18388594520052564), (11, 274, 288907940929), (11, 276, 18756), (11, 278, 5391686), (11, 280, 22040072686355790), (11, 306, 5928233911247324484), (11, 308, 20632680572470596), (11, 310, 301878232388), (11, 208, 29755), (11, 214, 7172155), (11, 264, 83860532842068), (11, 318, 297649853529)]
theorem am_c64_k0 : ∀ r ∈ am_c64_0, am_okI64 r := List.forall_mem_cons.mpr ⟨am_g0, List.forall_mem_cons.mpr ⟨am_g1, List.forall_mem_cons.mpr ⟨am_g2, List.forall_mem_cons.mpr ⟨am_g3, List.forall_mem_cons.mpr ⟨am_g4, List.forall_mem_cons.mpr ⟨am_g5, List.forall_mem_cons.mpr ⟨am_g6, List.forall_mem_cons.mpr ⟨am_g7, List.forall_mem_cons.mpr ⟨am_g8, List.forall_mem_cons.mpr ⟨am_g9, List.forall_mem_cons.mpr ⟨am_g10, List.forall_mem_cons.mpr ⟨am_g11, List.forall_mem_cons.mpr ⟨am_g12, List.forall_mem_cons.mpr ⟨am_g13, List.forall_mem_cons.mpr ⟨am_g14, List.forall_mem_cons.mpr ⟨am_g15, fun _ h => absurd h List.not_mem_nil⟩⟩⟩⟩⟩⟩⟩⟩⟩⟩⟩⟩⟩⟩⟩⟩
def am_c64_1 : List (Nat × Nat × Int64) := [(11, 320, 4279897), (11, 334, 9939874023035969), (11, 269, 336421540953), (12, 36, 4294967295)]
theorem am_c64_k1 : ∀ r ∈ am_c64_1, am_okI64 r := List.forall_mem_cons.mpr ⟨am_g16, List.forall_mem_cons.mpr ⟨am_g17, List.forall_mem_cons.mpr ⟨am_g18, List.forall_mem_cons.mpr ⟨am_g19, fun _ h => absurd h List.not_mem_nil⟩⟩⟩⟩
def am_c64 : List (Nat × Nat × Int64) := am_c64_0 ++ (am_c64_1)
theorem am_c64_ok : ∀ r ∈ am_c64, am_okI64 r := List.forall_mem_append.mpr ⟨am_c64_k0, am_c64_k1⟩
