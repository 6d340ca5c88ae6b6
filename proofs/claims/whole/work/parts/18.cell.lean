theorem u_fI0 {σ : Mem} (h : ST σ) {j : Nat} : fI σ 8 j (some 0) = some (gI σ 0 j) := q_fI h (by decide) rfl
theorem u_fJ0 {σ : Mem} (h : ST σ) {j : Nat} : fJ σ 8 j (some 0) = some (gJ σ 0 j) := q_fJ h (by decide) rfl
theorem u_pI0 {σ : Mem} (h : ST σ) {j : Nat} {x : Int32} : pI σ 8 j (some 0) x = some (sI σ 0 j x) := q_pI h (by decide) rfl
theorem u_pJ0 {σ : Mem} (h : ST σ) {j : Nat} {x : Int64} : pJ σ 8 j (some 0) x = some (sJ σ 0 j x) := q_pJ h (by decide) rfl
theorem u_kT0 {σ : Mem} (h : ST σ) : kT σ 8 (some 0) = some 0 := q_kT h (by decide) rfl
theorem u_R0_0 {σ : Mem} (h : ST σ) : fR σ 8 0 (some 0) = some (some 1) := q_fR h (by decide) rfl (by decide) rfl
theorem u_R0_1 {σ : Mem} (h : ST σ) : fR σ 8 1 (some 0) = some (some 3) := q_fR h (by decide) rfl (by decide) rfl
theorem u_R0_2 {σ : Mem} (h : ST σ) : fR σ 8 2 (some 0) = some (some 146) := q_fR h (by decide) rfl (by decide) rfl
theorem u_R0_3 {σ : Mem} (h : ST σ) : fR σ 8 3 (some 0) = some (some 149) := q_fR h (by decide) rfl (by decide) rfl
theorem u_R0_4 {σ : Mem} (h : ST σ) : fR σ 8 4 (some 0) = some (some 154) := q_fR h (by decide) rfl (by decide) rfl
theorem u_R0_5 {σ : Mem} (h : ST σ) : fR σ 8 5 (some 0) = some (some 159) := q_fR h (by decide) rfl (by decide) rfl
theorem u_R0_6 {σ : Mem} (h : ST σ) : fR σ 8 6 (some 0) = some (some 160) := q_fR h (by decide) rfl (by decide) rfl
theorem u_R0_7 {σ : Mem} (h : ST σ) : fR σ 8 7 (some 0) = some (some 161) := q_fR h (by decide) rfl (by decide) rfl
theorem u_R0_8 {σ : Mem} (h : ST σ) : fR σ 8 8 (some 0) = some (gR σ 0 8) := q_fRd h (by decide) rfl
theorem u_P0_8 {σ : Mem} (h : ST σ) {x : Option Nat} : pR σ 8 8 (some 0) x = some (sR σ 0 8 x) := q_pR h (by decide) rfl
theorem u_S0_8 {σ : Mem} (h : ST σ) {x : Option Nat} : ST (sR σ 0 8 x) := q_sR h x rfl
theorem u_fI1 {σ : Mem} (h : ST σ) {j : Nat} : fI σ 6 j (some 1) = some (gI σ 1 j) := q_fI h (by decide) rfl
theorem u_fJ1 {σ : Mem} (h : ST σ) {j : Nat} : fJ σ 6 j (some 1) = some (gJ σ 1 j) := q_fJ h (by decide) rfl
theorem u_pI1 {σ : Mem} (h : ST σ) {j : Nat} {x : Int32} : pI σ 6 j (some 1) x = some (sI σ 1 j x) := q_pI h (by decide) rfl
theorem u_pJ1 {σ : Mem} (h : ST σ) {j : Nat} {x : Int64} : pJ σ 6 j (some 1) x = some (sJ σ 1 j x) := q_pJ h (by decide) rfl
theorem u_kT1 {σ : Mem} (h : ST σ) : kT σ 6 (some 1) = some 1 := q_kT h (by decide) rfl
theorem u_R1_0 {σ : Mem} (h : ST σ) : fR σ 6 0 (some 1) = some (some 2) := q_fR h (by decide) rfl (by decide) rfl
theorem u_fI3 {σ : Mem} (h : ST σ) {j : Nat} : fI σ 4 j (some 3) = some (gI σ 3 j) := q_fI h (by decide) rfl
theorem u_fJ3 {σ : Mem} (h : ST σ) {j : Nat} : fJ σ 4 j (some 3) = some (gJ σ 3 j) := q_fJ h (by decide) rfl
theorem u_pI3 {σ : Mem} (h : ST σ) {j : Nat} {x : Int32} : pI σ 4 j (some 3) x = some (sI σ 3 j x) := q_pI h (by decide) rfl
theorem u_pJ3 {σ : Mem} (h : ST σ) {j : Nat} {x : Int64} : pJ σ 4 j (some 3) x = some (sJ σ 3 j x) := q_pJ h (by decide) rfl
theorem u_kT3 {σ : Mem} (h : ST σ) : kT σ 4 (some 3) = some 3 := q_kT h (by decide) rfl
theorem u_R3_0 {σ : Mem} (h : ST σ) : fR σ 4 0 (some 3) = some (some 1) := q_fR h (by decide) rfl (by decide) rfl
theorem u_R3_1 {σ : Mem} (h : ST σ) : fR σ 4 1 (some 3) = some (gR σ 3 1) := q_fRd h (by decide) rfl
theorem u_P3_1 {σ : Mem} (h : ST σ) {x : Option Nat} : pR σ 4 1 (some 3) x = some (sR σ 3 1 x) := q_pR h (by decide) rfl
theorem u_S3_1 {σ : Mem} (h : ST σ) {x : Option Nat} : ST (sR σ 3 1 x) := q_sR h x rfl
theorem u_R3_2 {σ : Mem} (h : ST σ) : fR σ 4 2 (some 3) = some (gR σ 3 2) := q_fRd h (by decide) rfl
theorem u_P3_2 {σ : Mem} (h : ST σ) {x : Option Nat} : pR σ 4 2 (some 3) x = some (sR σ 3 2 x) := q_pR h (by decide) rfl
theorem u_S3_2 {σ : Mem} (h : ST σ) {x : Option Nat} : ST (sR σ 3 2 x) := q_sR h x rfl
theorem u_R3_3 {σ : Mem} (h : ST σ) : fR σ 4 3 (some 3) = some (gR σ 3 3) := q_fRd h (by decide) rfl
theorem u_P3_3 {σ : Mem} (h : ST σ) {x : Option Nat} : pR σ 4 3 (some 3) x = some (sR σ 3 3 x) := q_pR h (by decide) rfl
theorem u_S3_3 {σ : Mem} (h : ST σ) {x : Option Nat} : ST (sR σ 3 3 x) := q_sR h x rfl
theorem u_fI146 {σ : Mem} (h : ST σ) {j : Nat} : fI σ 7 j (some 146) = some (gI σ 146 j) := q_fI h (by decide) rfl
theorem u_fJ146 {σ : Mem} (h : ST σ) {j : Nat} : fJ σ 7 j (some 146) = some (gJ σ 146 j) := q_fJ h (by decide) rfl
theorem u_pI146 {σ : Mem} (h : ST σ) {j : Nat} {x : Int32} : pI σ 7 j (some 146) x = some (sI σ 146 j x) := q_pI h (by decide) rfl
theorem u_pJ146 {σ : Mem} (h : ST σ) {j : Nat} {x : Int64} : pJ σ 7 j (some 146) x = some (sJ σ 146 j x) := q_pJ h (by decide) rfl
theorem u_kT146 {σ : Mem} (h : ST σ) : kT σ 7 (some 146) = some 146 := q_kT h (by decide) rfl
theorem u_R146_0 {σ : Mem} (h : ST σ) : fR σ 7 0 (some 146) = some (some 147) := q_fR h (by decide) rfl (by decide) rfl
theorem u_R146_1 {σ : Mem} (h : ST σ) : fR σ 7 1 (some 146) = some (some 148) := q_fR h (by decide) rfl (by decide) rfl
theorem u_fI149 {σ : Mem} (h : ST σ) {j : Nat} : fI σ 5 j (some 149) = some (gI σ 149 j) := q_fI h (by decide) rfl
theorem u_fJ149 {σ : Mem} (h : ST σ) {j : Nat} : fJ σ 5 j (some 149) = some (gJ σ 149 j) := q_fJ h (by decide) rfl
theorem u_pI149 {σ : Mem} (h : ST σ) {j : Nat} {x : Int32} : pI σ 5 j (some 149) x = some (sI σ 149 j x) := q_pI h (by decide) rfl
theorem u_pJ149 {σ : Mem} (h : ST σ) {j : Nat} {x : Int64} : pJ σ 5 j (some 149) x = some (sJ σ 149 j x) := q_pJ h (by decide) rfl
theorem u_kT149 {σ : Mem} (h : ST σ) : kT σ 5 (some 149) = some 149 := q_kT h (by decide) rfl
theorem u_R149_0 {σ : Mem} (h : ST σ) : fR σ 5 0 (some 149) = some (some 150) := q_fR h (by decide) rfl (by decide) rfl
theorem u_R149_1 {σ : Mem} (h : ST σ) : fR σ 5 1 (some 149) = some (some 151) := q_fR h (by decide) rfl (by decide) rfl
theorem u_R149_2 {σ : Mem} (h : ST σ) : fR σ 5 2 (some 149) = some (some 152) := q_fR h (by decide) rfl (by decide) rfl
theorem u_R149_3 {σ : Mem} (h : ST σ) : fR σ 5 3 (some 149) = some (some 153) := q_fR h (by decide) rfl (by decide) rfl
theorem u_R149_4 {σ : Mem} (h : ST σ) : fR σ 5 4 (some 149) = some (gR σ 149 4) := q_fRd h (by decide) rfl
theorem u_P149_4 {σ : Mem} (h : ST σ) {x : Option Nat} : pR σ 5 4 (some 149) x = some (sR σ 149 4 x) := q_pR h (by decide) rfl
theorem u_S149_4 {σ : Mem} (h : ST σ) {x : Option Nat} : ST (sR σ 149 4 x) := q_sR h x rfl
theorem u_fI154 {σ : Mem} (h : ST σ) {j : Nat} : fI σ 1 j (some 154) = some (gI σ 154 j) := q_fI h (by decide) rfl
theorem u_fJ154 {σ : Mem} (h : ST σ) {j : Nat} : fJ σ 1 j (some 154) = some (gJ σ 154 j) := q_fJ h (by decide) rfl
theorem u_pI154 {σ : Mem} (h : ST σ) {j : Nat} {x : Int32} : pI σ 1 j (some 154) x = some (sI σ 154 j x) := q_pI h (by decide) rfl
theorem u_pJ154 {σ : Mem} (h : ST σ) {j : Nat} {x : Int64} : pJ σ 1 j (some 154) x = some (sJ σ 154 j x) := q_pJ h (by decide) rfl
theorem u_kT154 {σ : Mem} (h : ST σ) : kT σ 1 (some 154) = some 154 := q_kT h (by decide) rfl
theorem u_R154_0 {σ : Mem} (h : ST σ) : fR σ 1 0 (some 154) = some (some 155) := q_fR h (by decide) rfl (by decide) rfl
theorem u_R154_1 {σ : Mem} (h : ST σ) : fR σ 1 1 (some 154) = some (some 156) := q_fR h (by decide) rfl (by decide) rfl
theorem u_R154_2 {σ : Mem} (h : ST σ) : fR σ 1 2 (some 154) = some (some 157) := q_fR h (by decide) rfl (by decide) rfl
theorem u_R154_3 {σ : Mem} (h : ST σ) : fR σ 1 3 (some 154) = some (some 158) := q_fR h (by decide) rfl (by decide) rfl
theorem u_fI304 {σ : Mem} (h : ST σ) {j : Nat} : fI σ 9 j (some 304) = some (gI σ 304 j) := q_fI h (by decide) rfl
theorem u_fJ304 {σ : Mem} (h : ST σ) {j : Nat} : fJ σ 9 j (some 304) = some (gJ σ 304 j) := q_fJ h (by decide) rfl
theorem u_pI304 {σ : Mem} (h : ST σ) {j : Nat} {x : Int32} : pI σ 9 j (some 304) x = some (sI σ 304 j x) := q_pI h (by decide) rfl
theorem u_pJ304 {σ : Mem} (h : ST σ) {j : Nat} {x : Int64} : pJ σ 9 j (some 304) x = some (sJ σ 304 j x) := q_pJ h (by decide) rfl
theorem u_kT304 {σ : Mem} (h : ST σ) : kT σ 9 (some 304) = some 304 := q_kT h (by decide) rfl
theorem u_R304_1 {σ : Mem} (h : ST σ) : fR σ 9 1 (some 304) = some (some 305) := q_fR h (by decide) rfl (by decide) rfl
theorem u_R304_11 {σ : Mem} (h : ST σ) : fR σ 9 11 (some 304) = some (some 306) := q_fR h (by decide) rfl (by decide) rfl
theorem u_R304_12 {σ : Mem} (h : ST σ) : fR σ 9 12 (some 304) = some (some 307) := q_fR h (by decide) rfl (by decide) rfl
theorem u_R304_13 {σ : Mem} (h : ST σ) : fR σ 9 13 (some 304) = some (some 308) := q_fR h (by decide) rfl (by decide) rfl
theorem u_R304_14 {σ : Mem} (h : ST σ) : fR σ 9 14 (some 304) = some (some 309) := q_fR h (by decide) rfl (by decide) rfl
theorem u_R304_15 {σ : Mem} (h : ST σ) : fR σ 9 15 (some 304) = some (some 310) := q_fR h (by decide) rfl (by decide) rfl
theorem u_R304_16 {σ : Mem} (h : ST σ) : fR σ 9 16 (some 304) = some (some 311) := q_fR h (by decide) rfl (by decide) rfl
theorem u_R304_17 {σ : Mem} (h : ST σ) : fR σ 9 17 (some 304) = some (some 312) := q_fR h (by decide) rfl (by decide) rfl
theorem u_R304_18 {σ : Mem} (h : ST σ) : fR σ 9 18 (some 304) = some (some 313) := q_fR h (by decide) rfl (by decide) rfl
theorem u_R304_19 {σ : Mem} (h : ST σ) : fR σ 9 19 (some 304) = some (some 314) := q_fR h (by decide) rfl (by decide) rfl
theorem u_R304_20 {σ : Mem} (h : ST σ) : fR σ 9 20 (some 304) = some (some 315) := q_fR h (by decide) rfl (by decide) rfl
theorem u_R304_21 {σ : Mem} (h : ST σ) : fR σ 9 21 (some 304) = some (some 316) := q_fR h (by decide) rfl (by decide) rfl
theorem u_R304_25 {σ : Mem} (h : ST σ) : fR σ 9 25 (some 304) = some (some 317) := q_fR h (by decide) rfl (by decide) rfl
theorem u_R304_27 {σ : Mem} (h : ST σ) : fR σ 9 27 (some 304) = some (some 318) := q_fR h (by decide) rfl (by decide) rfl
theorem u_R304_29 {σ : Mem} (h : ST σ) : fR σ 9 29 (some 304) = some (some 319) := q_fR h (by decide) rfl (by decide) rfl
theorem u_R304_30 {σ : Mem} (h : ST σ) : fR σ 9 30 (some 304) = some (some 320) := q_fR h (by decide) rfl (by decide) rfl
theorem u_R304_31 {σ : Mem} (h : ST σ) : fR σ 9 31 (some 304) = some (some 321) := q_fR h (by decide) rfl (by decide) rfl
theorem u_R304_32 {σ : Mem} (h : ST σ) : fR σ 9 32 (some 304) = some (some 322) := q_fR h (by decide) rfl (by decide) rfl
theorem u_R304_33 {σ : Mem} (h : ST σ) : fR σ 9 33 (some 304) = some (some 323) := q_fR h (by decide) rfl (by decide) rfl
theorem u_R304_36 {σ : Mem} (h : ST σ) : fR σ 9 36 (some 304) = some (some 324) := q_fR h (by decide) rfl (by decide) rfl
theorem u_R304_37 {σ : Mem} (h : ST σ) : fR σ 9 37 (some 304) = some (some 325) := q_fR h (by decide) rfl (by decide) rfl
theorem u_R304_38 {σ : Mem} (h : ST σ) : fR σ 9 38 (some 304) = some (some 326) := q_fR h (by decide) rfl (by decide) rfl
theorem u_R304_39 {σ : Mem} (h : ST σ) : fR σ 9 39 (some 304) = some (some 327) := q_fR h (by decide) rfl (by decide) rfl
theorem u_R304_40 {σ : Mem} (h : ST σ) : fR σ 9 40 (some 304) = some (some 328) := q_fR h (by decide) rfl (by decide) rfl
theorem u_R304_41 {σ : Mem} (h : ST σ) : fR σ 9 41 (some 304) = some (some 329) := q_fR h (by decide) rfl (by decide) rfl
theorem u_a2 {σ : Mem} (h : ST σ) {i : Nat} (hi : i < 840) : aI σ 10 (some 2) (nI i) = some (gI σ 2 i) := q_aI h (by decide) rfl rfl rfl hi (by decide)
theorem u_w2 {σ : Mem} (h : ST σ) {i : Nat} (hi : i < 840) {y : Int32} : wI σ 10 (some 2) (nI i) y = some (sI σ 2 i y) := q_wI h (by decide) rfl rfl rfl hi (by decide)
theorem u_l2 {σ : Mem} (h : ST σ) : aL σ 10 (some 2) = some (nI 840) := q_aL h (by decide) rfl rfl
theorem u_a147 {σ : Mem} (h : ST σ) {i : Nat} (hi : i < 384) : aI σ 11 (some 147) (nI i) = some (gI σ 147 i) := q_aI h (by decide) rfl rfl rfl hi (by decide)
theorem u_w147 {σ : Mem} (h : ST σ) {i : Nat} (hi : i < 384) {y : Int32} : wI σ 11 (some 147) (nI i) y = some (sI σ 147 i y) := q_wI h (by decide) rfl rfl rfl hi (by decide)
theorem u_l147 {σ : Mem} (h : ST σ) : aL σ 11 (some 147) = some (nI 384) := q_aL h (by decide) rfl rfl
theorem u_a148 {σ : Mem} (h : ST σ) {i : Nat} (hi : i < 4) : aI σ 11 (some 148) (nI i) = some (gI σ 148 i) := q_aI h (by decide) rfl rfl rfl hi (by decide)
theorem u_w148 {σ : Mem} (h : ST σ) {i : Nat} (hi : i < 4) {y : Int32} : wI σ 11 (some 148) (nI i) y = some (sI σ 148 i y) := q_wI h (by decide) rfl rfl rfl hi (by decide)
theorem u_l148 {σ : Mem} (h : ST σ) : aL σ 11 (some 148) = some (nI 4) := q_aL h (by decide) rfl rfl
theorem u_a150 {σ : Mem} (h : ST σ) {i : Nat} (hi : i < 240) : aJ σ 12 (some 150) (nI i) = some (gJ σ 150 i) := q_aJ h (by decide) rfl rfl rfl hi (by decide)
theorem u_w150 {σ : Mem} (h : ST σ) {i : Nat} (hi : i < 240) {y : Int64} : wJ σ 12 (some 150) (nI i) y = some (sJ σ 150 i y) := q_wJ h (by decide) rfl rfl rfl hi (by decide)
theorem u_l150 {σ : Mem} (h : ST σ) : aL σ 12 (some 150) = some (nI 240) := q_aL h (by decide) rfl rfl
theorem u_a151 {σ : Mem} (h : ST σ) {i : Nat} (hi : i < 240) : aJ σ 12 (some 151) (nI i) = some (gJ σ 151 i) := q_aJ h (by decide) rfl rfl rfl hi (by decide)
theorem u_w151 {σ : Mem} (h : ST σ) {i : Nat} (hi : i < 240) {y : Int64} : wJ σ 12 (some 151) (nI i) y = some (sJ σ 151 i y) := q_wJ h (by decide) rfl rfl rfl hi (by decide)
theorem u_l151 {σ : Mem} (h : ST σ) : aL σ 12 (some 151) = some (nI 240) := q_aL h (by decide) rfl rfl
theorem u_a152 {σ : Mem} (h : ST σ) {i : Nat} (hi : i < 240) : aJ σ 12 (some 152) (nI i) = some (gJ σ 152 i) := q_aJ h (by decide) rfl rfl rfl hi (by decide)
theorem u_w152 {σ : Mem} (h : ST σ) {i : Nat} (hi : i < 240) {y : Int64} : wJ σ 12 (some 152) (nI i) y = some (sJ σ 152 i y) := q_wJ h (by decide) rfl rfl rfl hi (by decide)
theorem u_l152 {σ : Mem} (h : ST σ) : aL σ 12 (some 152) = some (nI 240) := q_aL h (by decide) rfl rfl
theorem u_a153 {σ : Mem} (h : ST σ) {i : Nat} (hi : i < 240) : aI σ 11 (some 153) (nI i) = some (gI σ 153 i) := q_aI h (by decide) rfl rfl rfl hi (by decide)
theorem u_w153 {σ : Mem} (h : ST σ) {i : Nat} (hi : i < 240) {y : Int32} : wI σ 11 (some 153) (nI i) y = some (sI σ 153 i y) := q_wI h (by decide) rfl rfl rfl hi (by decide)
theorem u_l153 {σ : Mem} (h : ST σ) : aL σ 11 (some 153) = some (nI 240) := q_aL h (by decide) rfl rfl
theorem u_a155 {σ : Mem} (h : ST σ) {i : Nat} (hi : i < 16) : aJ σ 12 (some 155) (nI i) = some (gJ σ 155 i) := q_aJ h (by decide) rfl rfl rfl hi (by decide)
theorem u_w155 {σ : Mem} (h : ST σ) {i : Nat} (hi : i < 16) {y : Int64} : wJ σ 12 (some 155) (nI i) y = some (sJ σ 155 i y) := q_wJ h (by decide) rfl rfl rfl hi (by decide)
theorem u_l155 {σ : Mem} (h : ST σ) : aL σ 12 (some 155) = some (nI 16) := q_aL h (by decide) rfl rfl
theorem u_a156 {σ : Mem} (h : ST σ) {i : Nat} (hi : i < 16) : aJ σ 12 (some 156) (nI i) = some (gJ σ 156 i) := q_aJ h (by decide) rfl rfl rfl hi (by decide)
theorem u_w156 {σ : Mem} (h : ST σ) {i : Nat} (hi : i < 16) {y : Int64} : wJ σ 12 (some 156) (nI i) y = some (sJ σ 156 i y) := q_wJ h (by decide) rfl rfl rfl hi (by decide)
theorem u_l156 {σ : Mem} (h : ST σ) : aL σ 12 (some 156) = some (nI 16) := q_aL h (by decide) rfl rfl
theorem u_a157 {σ : Mem} (h : ST σ) {i : Nat} (hi : i < 16) : aI σ 11 (some 157) (nI i) = some (gI σ 157 i) := q_aI h (by decide) rfl rfl rfl hi (by decide)
theorem u_w157 {σ : Mem} (h : ST σ) {i : Nat} (hi : i < 16) {y : Int32} : wI σ 11 (some 157) (nI i) y = some (sI σ 157 i y) := q_wI h (by decide) rfl rfl rfl hi (by decide)
theorem u_l157 {σ : Mem} (h : ST σ) : aL σ 11 (some 157) = some (nI 16) := q_aL h (by decide) rfl rfl
theorem u_a158 {σ : Mem} (h : ST σ) {i : Nat} (hi : i < 4) : aI σ 11 (some 158) (nI i) = some (gI σ 158 i) := q_aI h (by decide) rfl rfl rfl hi (by decide)
theorem u_w158 {σ : Mem} (h : ST σ) {i : Nat} (hi : i < 4) {y : Int32} : wI σ 11 (some 158) (nI i) y = some (sI σ 158 i y) := q_wI h (by decide) rfl rfl rfl hi (by decide)
theorem u_l158 {σ : Mem} (h : ST σ) : aL σ 11 (some 158) = some (nI 4) := q_aL h (by decide) rfl rfl
theorem u_a159 {σ : Mem} (h : ST σ) {i : Nat} (hi : i < 4) : aI σ 11 (some 159) (nI i) = some (gI σ 159 i) := q_aI h (by decide) rfl rfl rfl hi (by decide)
theorem u_w159 {σ : Mem} (h : ST σ) {i : Nat} (hi : i < 4) {y : Int32} : wI σ 11 (some 159) (nI i) y = some (sI σ 159 i y) := q_wI h (by decide) rfl rfl rfl hi (by decide)
theorem u_l159 {σ : Mem} (h : ST σ) : aL σ 11 (some 159) = some (nI 4) := q_aL h (by decide) rfl rfl
theorem u_a160 {σ : Mem} (h : ST σ) {i : Nat} (hi : i < 4) : aI σ 11 (some 160) (nI i) = some (gI σ 160 i) := q_aI h (by decide) rfl rfl rfl hi (by decide)
theorem u_w160 {σ : Mem} (h : ST σ) {i : Nat} (hi : i < 4) {y : Int32} : wI σ 11 (some 160) (nI i) y = some (sI σ 160 i y) := q_wI h (by decide) rfl rfl rfl hi (by decide)
theorem u_l160 {σ : Mem} (h : ST σ) : aL σ 11 (some 160) = some (nI 4) := q_aL h (by decide) rfl rfl
theorem u_a161 {σ : Mem} (h : ST σ) {i : Nat} (hi : i < 24) : aI σ 11 (some 161) (nI i) = some (gI σ 161 i) := q_aI h (by decide) rfl rfl rfl hi (by decide)
theorem u_w161 {σ : Mem} (h : ST σ) {i : Nat} (hi : i < 24) {y : Int32} : wI σ 11 (some 161) (nI i) y = some (sI σ 161 i y) := q_wI h (by decide) rfl rfl rfl hi (by decide)
theorem u_l161 {σ : Mem} (h : ST σ) : aL σ 11 (some 161) = some (nI 24) := q_aL h (by decide) rfl rfl
theorem u_a305 {σ : Mem} (h : ST σ) {i : Nat} (hi : i < 840) : aI σ 11 (some 305) (nI i) = some (gI σ 305 i) := q_aI h (by decide) rfl rfl rfl hi (by decide)
theorem u_w305 {σ : Mem} (h : ST σ) {i : Nat} (hi : i < 840) {y : Int32} : wI σ 11 (some 305) (nI i) y = some (sI σ 305 i y) := q_wI h (by decide) rfl rfl rfl hi (by decide)
theorem u_l305 {σ : Mem} (h : ST σ) : aL σ 11 (some 305) = some (nI 840) := q_aL h (by decide) rfl rfl
theorem u_a306 {σ : Mem} (h : ST σ) {i : Nat} (hi : i < 20) : aJ σ 12 (some 306) (nI i) = some (gJ σ 306 i) := q_aJ h (by decide) rfl rfl rfl hi (by decide)
theorem u_w306 {σ : Mem} (h : ST σ) {i : Nat} (hi : i < 20) {y : Int64} : wJ σ 12 (some 306) (nI i) y = some (sJ σ 306 i y) := q_wJ h (by decide) rfl rfl rfl hi (by decide)
theorem u_l306 {σ : Mem} (h : ST σ) : aL σ 12 (some 306) = some (nI 20) := q_aL h (by decide) rfl rfl
theorem u_a307 {σ : Mem} (h : ST σ) {i : Nat} (hi : i < 20) : aI σ 11 (some 307) (nI i) = some (gI σ 307 i) := q_aI h (by decide) rfl rfl rfl hi (by decide)
theorem u_w307 {σ : Mem} (h : ST σ) {i : Nat} (hi : i < 20) {y : Int32} : wI σ 11 (some 307) (nI i) y = some (sI σ 307 i y) := q_wI h (by decide) rfl rfl rfl hi (by decide)
theorem u_l307 {σ : Mem} (h : ST σ) : aL σ 11 (some 307) = some (nI 20) := q_aL h (by decide) rfl rfl
theorem u_a308 {σ : Mem} (h : ST σ) {i : Nat} (hi : i < 20) : aI σ 11 (some 308) (nI i) = some (gI σ 308 i) := q_aI h (by decide) rfl rfl rfl hi (by decide)
theorem u_w308 {σ : Mem} (h : ST σ) {i : Nat} (hi : i < 20) {y : Int32} : wI σ 11 (some 308) (nI i) y = some (sI σ 308 i y) := q_wI h (by decide) rfl rfl rfl hi (by decide)
theorem u_l308 {σ : Mem} (h : ST σ) : aL σ 11 (some 308) = some (nI 20) := q_aL h (by decide) rfl rfl
theorem u_a309 {σ : Mem} (h : ST σ) {i : Nat} (hi : i < 20) : aI σ 11 (some 309) (nI i) = some (gI σ 309 i) := q_aI h (by decide) rfl rfl rfl hi (by decide)
theorem u_w309 {σ : Mem} (h : ST σ) {i : Nat} (hi : i < 20) {y : Int32} : wI σ 11 (some 309) (nI i) y = some (sI σ 309 i y) := q_wI h (by decide) rfl rfl rfl hi (by decide)
theorem u_l309 {σ : Mem} (h : ST σ) : aL σ 11 (some 309) = some (nI 20) := q_aL h (by decide) rfl rfl
theorem u_a310 {σ : Mem} (h : ST σ) {i : Nat} (hi : i < 20) : aI σ 11 (some 310) (nI i) = some (gI σ 310 i) := q_aI h (by decide) rfl rfl rfl hi (by decide)
theorem u_w310 {σ : Mem} (h : ST σ) {i : Nat} (hi : i < 20) {y : Int32} : wI σ 11 (some 310) (nI i) y = some (sI σ 310 i y) := q_wI h (by decide) rfl rfl rfl hi (by decide)
theorem u_l310 {σ : Mem} (h : ST σ) : aL σ 11 (some 310) = some (nI 20) := q_aL h (by decide) rfl rfl
theorem u_a311 {σ : Mem} (h : ST σ) {i : Nat} (hi : i < 80) : aI σ 13 (some 311) (nI i) = some (gI σ 311 i) := q_aI h (by decide) rfl rfl rfl hi (by decide)
theorem u_w311 {σ : Mem} (h : ST σ) {i : Nat} (hi : i < 80) {y : Int32} : wI σ 13 (some 311) (nI i) y = some (sI σ 311 i y) := q_wI h (by decide) rfl rfl rfl hi (by decide)
theorem u_l311 {σ : Mem} (h : ST σ) : aL σ 13 (some 311) = some (nI 80) := q_aL h (by decide) rfl rfl
theorem u_a312 {σ : Mem} (h : ST σ) {i : Nat} (hi : i < 80) : aI σ 11 (some 312) (nI i) = some (gI σ 312 i) := q_aI h (by decide) rfl rfl rfl hi (by decide)
theorem u_w312 {σ : Mem} (h : ST σ) {i : Nat} (hi : i < 80) {y : Int32} : wI σ 11 (some 312) (nI i) y = some (sI σ 312 i y) := q_wI h (by decide) rfl rfl rfl hi (by decide)
theorem u_l312 {σ : Mem} (h : ST σ) : aL σ 11 (some 312) = some (nI 80) := q_aL h (by decide) rfl rfl
theorem u_a313 {σ : Mem} (h : ST σ) {i : Nat} (hi : i < 80) : aI σ 11 (some 313) (nI i) = some (gI σ 313 i) := q_aI h (by decide) rfl rfl rfl hi (by decide)
theorem u_w313 {σ : Mem} (h : ST σ) {i : Nat} (hi : i < 80) {y : Int32} : wI σ 11 (some 313) (nI i) y = some (sI σ 313 i y) := q_wI h (by decide) rfl rfl rfl hi (by decide)
theorem u_l313 {σ : Mem} (h : ST σ) : aL σ 11 (some 313) = some (nI 80) := q_aL h (by decide) rfl rfl
theorem u_a314 {σ : Mem} (h : ST σ) {i : Nat} (hi : i < 240) : aI σ 11 (some 314) (nI i) = some (gI σ 314 i) := q_aI h (by decide) rfl rfl rfl hi (by decide)
theorem u_w314 {σ : Mem} (h : ST σ) {i : Nat} (hi : i < 240) {y : Int32} : wI σ 11 (some 314) (nI i) y = some (sI σ 314 i y) := q_wI h (by decide) rfl rfl rfl hi (by decide)
theorem u_l314 {σ : Mem} (h : ST σ) : aL σ 11 (some 314) = some (nI 240) := q_aL h (by decide) rfl rfl
theorem u_a315 {σ : Mem} (h : ST σ) {i : Nat} (hi : i < 240) : aI σ 11 (some 315) (nI i) = some (gI σ 315 i) := q_aI h (by decide) rfl rfl rfl hi (by decide)
theorem u_w315 {σ : Mem} (h : ST σ) {i : Nat} (hi : i < 240) {y : Int32} : wI σ 11 (some 315) (nI i) y = some (sI σ 315 i y) := q_wI h (by decide) rfl rfl rfl hi (by decide)
theorem u_l315 {σ : Mem} (h : ST σ) : aL σ 11 (some 315) = some (nI 240) := q_aL h (by decide) rfl rfl
theorem u_a316 {σ : Mem} (h : ST σ) {i : Nat} (hi : i < 80) : aI σ 11 (some 316) (nI i) = some (gI σ 316 i) := q_aI h (by decide) rfl rfl rfl hi (by decide)
theorem u_w316 {σ : Mem} (h : ST σ) {i : Nat} (hi : i < 80) {y : Int32} : wI σ 11 (some 316) (nI i) y = some (sI σ 316 i y) := q_wI h (by decide) rfl rfl rfl hi (by decide)
theorem u_l316 {σ : Mem} (h : ST σ) : aL σ 11 (some 316) = some (nI 80) := q_aL h (by decide) rfl rfl
theorem u_a317 {σ : Mem} (h : ST σ) {i : Nat} (hi : i < 8) : aI σ 11 (some 317) (nI i) = some (gI σ 317 i) := q_aI h (by decide) rfl rfl rfl hi (by decide)
theorem u_w317 {σ : Mem} (h : ST σ) {i : Nat} (hi : i < 8) {y : Int32} : wI σ 11 (some 317) (nI i) y = some (sI σ 317 i y) := q_wI h (by decide) rfl rfl rfl hi (by decide)
theorem u_l317 {σ : Mem} (h : ST σ) : aL σ 11 (some 317) = some (nI 8) := q_aL h (by decide) rfl rfl
theorem u_a318 {σ : Mem} (h : ST σ) {i : Nat} (hi : i < 384) : aI σ 11 (some 318) (nI i) = some (gI σ 318 i) := q_aI h (by decide) rfl rfl rfl hi (by decide)
theorem u_w318 {σ : Mem} (h : ST σ) {i : Nat} (hi : i < 384) {y : Int32} : wI σ 11 (some 318) (nI i) y = some (sI σ 318 i y) := q_wI h (by decide) rfl rfl rfl hi (by decide)
theorem u_l318 {σ : Mem} (h : ST σ) : aL σ 11 (some 318) = some (nI 384) := q_aL h (by decide) rfl rfl
theorem u_a319 {σ : Mem} (h : ST σ) {i : Nat} (hi : i < 250) : aJ σ 12 (some 319) (nI i) = some (gJ σ 319 i) := q_aJ h (by decide) rfl rfl rfl hi (by decide)
theorem u_w319 {σ : Mem} (h : ST σ) {i : Nat} (hi : i < 250) {y : Int64} : wJ σ 12 (some 319) (nI i) y = some (sJ σ 319 i y) := q_wJ h (by decide) rfl rfl rfl hi (by decide)
theorem u_l319 {σ : Mem} (h : ST σ) : aL σ 12 (some 319) = some (nI 250) := q_aL h (by decide) rfl rfl
theorem u_a320 {σ : Mem} (h : ST σ) {i : Nat} (hi : i < 250) : aJ σ 12 (some 320) (nI i) = some (gJ σ 320 i) := q_aJ h (by decide) rfl rfl rfl hi (by decide)
theorem u_w320 {σ : Mem} (h : ST σ) {i : Nat} (hi : i < 250) {y : Int64} : wJ σ 12 (some 320) (nI i) y = some (sJ σ 320 i y) := q_wJ h (by decide) rfl rfl rfl hi (by decide)
theorem u_l320 {σ : Mem} (h : ST σ) : aL σ 12 (some 320) = some (nI 250) := q_aL h (by decide) rfl rfl
theorem u_a321 {σ : Mem} (h : ST σ) {i : Nat} (hi : i < 6000) : aI σ 11 (some 321) (nI i) = some (gI σ 321 i) := q_aI h (by decide) rfl rfl rfl hi (by decide)
theorem u_w321 {σ : Mem} (h : ST σ) {i : Nat} (hi : i < 6000) {y : Int32} : wI σ 11 (some 321) (nI i) y = some (sI σ 321 i y) := q_wI h (by decide) rfl rfl rfl hi (by decide)
theorem u_l321 {σ : Mem} (h : ST σ) : aL σ 11 (some 321) = some (nI 6000) := q_aL h (by decide) rfl rfl
theorem u_a322 {σ : Mem} (h : ST σ) {i : Nat} (hi : i < 6000) : aI σ 11 (some 322) (nI i) = some (gI σ 322 i) := q_aI h (by decide) rfl rfl rfl hi (by decide)
theorem u_w322 {σ : Mem} (h : ST σ) {i : Nat} (hi : i < 6000) {y : Int32} : wI σ 11 (some 322) (nI i) y = some (sI σ 322 i y) := q_wI h (by decide) rfl rfl rfl hi (by decide)
theorem u_l322 {σ : Mem} (h : ST σ) : aL σ 11 (some 322) = some (nI 6000) := q_aL h (by decide) rfl rfl
theorem u_a323 {σ : Mem} (h : ST σ) {i : Nat} (hi : i < 24) : aI σ 11 (some 323) (nI i) = some (gI σ 323 i) := q_aI h (by decide) rfl rfl rfl hi (by decide)
theorem u_w323 {σ : Mem} (h : ST σ) {i : Nat} (hi : i < 24) {y : Int32} : wI σ 11 (some 323) (nI i) y = some (sI σ 323 i y) := q_wI h (by decide) rfl rfl rfl hi (by decide)
theorem u_l323 {σ : Mem} (h : ST σ) : aL σ 11 (some 323) = some (nI 24) := q_aL h (by decide) rfl rfl
theorem u_a324 {σ : Mem} (h : ST σ) {i : Nat} (hi : i < 16) : aJ σ 12 (some 324) (nI i) = some (gJ σ 324 i) := q_aJ h (by decide) rfl rfl rfl hi (by decide)
theorem u_w324 {σ : Mem} (h : ST σ) {i : Nat} (hi : i < 16) {y : Int64} : wJ σ 12 (some 324) (nI i) y = some (sJ σ 324 i y) := q_wJ h (by decide) rfl rfl rfl hi (by decide)
theorem u_l324 {σ : Mem} (h : ST σ) : aL σ 12 (some 324) = some (nI 16) := q_aL h (by decide) rfl rfl
theorem u_a325 {σ : Mem} (h : ST σ) {i : Nat} (hi : i < 16) : aJ σ 12 (some 325) (nI i) = some (gJ σ 325 i) := q_aJ h (by decide) rfl rfl rfl hi (by decide)
theorem u_w325 {σ : Mem} (h : ST σ) {i : Nat} (hi : i < 16) {y : Int64} : wJ σ 12 (some 325) (nI i) y = some (sJ σ 325 i y) := q_wJ h (by decide) rfl rfl rfl hi (by decide)
theorem u_l325 {σ : Mem} (h : ST σ) : aL σ 12 (some 325) = some (nI 16) := q_aL h (by decide) rfl rfl
theorem u_a326 {σ : Mem} (h : ST σ) {i : Nat} (hi : i < 16) : aI σ 11 (some 326) (nI i) = some (gI σ 326 i) := q_aI h (by decide) rfl rfl rfl hi (by decide)
theorem u_w326 {σ : Mem} (h : ST σ) {i : Nat} (hi : i < 16) {y : Int32} : wI σ 11 (some 326) (nI i) y = some (sI σ 326 i y) := q_wI h (by decide) rfl rfl rfl hi (by decide)
theorem u_l326 {σ : Mem} (h : ST σ) : aL σ 11 (some 326) = some (nI 16) := q_aL h (by decide) rfl rfl
theorem u_a327 {σ : Mem} (h : ST σ) {i : Nat} (hi : i < 4) : aI σ 11 (some 327) (nI i) = some (gI σ 327 i) := q_aI h (by decide) rfl rfl rfl hi (by decide)
theorem u_w327 {σ : Mem} (h : ST σ) {i : Nat} (hi : i < 4) {y : Int32} : wI σ 11 (some 327) (nI i) y = some (sI σ 327 i y) := q_wI h (by decide) rfl rfl rfl hi (by decide)
theorem u_l327 {σ : Mem} (h : ST σ) : aL σ 11 (some 327) = some (nI 4) := q_aL h (by decide) rfl rfl
theorem u_a328 {σ : Mem} (h : ST σ) {i : Nat} (hi : i < 4) : aI σ 11 (some 328) (nI i) = some (gI σ 328 i) := q_aI h (by decide) rfl rfl rfl hi (by decide)
theorem u_w328 {σ : Mem} (h : ST σ) {i : Nat} (hi : i < 4) {y : Int32} : wI σ 11 (some 328) (nI i) y = some (sI σ 328 i y) := q_wI h (by decide) rfl rfl rfl hi (by decide)
theorem u_l328 {σ : Mem} (h : ST σ) : aL σ 11 (some 328) = some (nI 4) := q_aL h (by decide) rfl rfl
theorem u_a329 {σ : Mem} (h : ST σ) {i : Nat} (hi : i < 4) : aI σ 11 (some 329) (nI i) = some (gI σ 329 i) := q_aI h (by decide) rfl rfl rfl hi (by decide)
theorem u_w329 {σ : Mem} (h : ST σ) {i : Nat} (hi : i < 4) {y : Int32} : wI σ 11 (some 329) (nI i) y = some (sI σ 329 i y) := q_wI h (by decide) rfl rfl rfl hi (by decide)
theorem u_l329 {σ : Mem} (h : ST σ) : aL σ 11 (some 329) = some (nI 4) := q_aL h (by decide) rfl rfl
theorem u_a330 {σ : Mem} (h : ST σ) {i : Nat} (hi : i < 1) : aJ σ 12 (some 330) (nI i) = some (gJ σ 330 i) := q_aJ h (by decide) rfl rfl rfl hi (by decide)
theorem u_w330 {σ : Mem} (h : ST σ) {i : Nat} (hi : i < 1) {y : Int64} : wJ σ 12 (some 330) (nI i) y = some (sJ σ 330 i y) := q_wJ h (by decide) rfl rfl rfl hi (by decide)
theorem u_l330 {σ : Mem} (h : ST σ) : aL σ 12 (some 330) = some (nI 1) := q_aL h (by decide) rfl rfl
def isB (b : Nat) : Prop := b = 4 ∨ b = 162
theorem kb3b : ∀ p, p < 10 → ∀ s, s < 4 → (r0 (4 + 2 + 14 * p + 1) s = some (4 + 2 + 14 * p + 2 + 3 * s) ∧ k0 (4 + 2 + 14 * p + 2 + 3 * s) = 0 ∧ r0 (4 + 2 + 14 * p + 2 + 3 * s) 0 = some (4 + 2 + 14 * p + 2 + 3 * s + 1) ∧ r0 (4 + 2 + 14 * p + 2 + 3 * s) 1 = some (4 + 2 + 14 * p + 2 + 3 * s + 2)) ∧ k0 (4 + 2 + 14 * p + 2 + 3 * s + 1) = 11 ∧ k0 (4 + 2 + 14 * p + 2 + 3 * s + 2) = 11 ∧ l0 (4 + 2 + 14 * p + 2 + 3 * s + 1) = 3 ∧ l0 (4 + 2 + 14 * p + 2 + 3 * s + 2) = 3 := by decide +kernel
theorem kb3c : ∀ p, p < 10 → ∀ s, s < 4 → (r0 (162 + 2 + 14 * p + 1) s = some (162 + 2 + 14 * p + 2 + 3 * s) ∧ k0 (162 + 2 + 14 * p + 2 + 3 * s) = 0 ∧ r0 (162 + 2 + 14 * p + 2 + 3 * s) 0 = some (162 + 2 + 14 * p + 2 + 3 * s + 1) ∧ r0 (162 + 2 + 14 * p + 2 + 3 * s) 1 = some (162 + 2 + 14 * p + 2 + 3 * s + 2)) ∧ k0 (162 + 2 + 14 * p + 2 + 3 * s + 1) = 11 ∧ k0 (162 + 2 + 14 * p + 2 + 3 * s + 2) = 11 ∧ l0 (162 + 2 + 14 * p + 2 + 3 * s + 1) = 3 ∧ l0 (162 + 2 + 14 * p + 2 + 3 * s + 2) = 3 := by decide +kernel
theorem kb3d : ∀ p, p < 10 → r0 (4 + 1) p = some (4 + 2 + 14 * p) ∧ k0 (4 + 2 + 14 * p) = 2 ∧ r0 (4 + 2 + 14 * p) 0 = some (4 + 2 + 14 * p + 1) ∧ k0 (4 + 2 + 14 * p + 1) = 14 ∧ l0 (4 + 2 + 14 * p + 1) = 4 := by decide +kernel
theorem kb3e : ∀ p, p < 10 → r0 (162 + 1) p = some (162 + 2 + 14 * p) ∧ k0 (162 + 2 + 14 * p) = 2 ∧ r0 (162 + 2 + 14 * p) 0 = some (162 + 2 + 14 * p + 1) ∧ k0 (162 + 2 + 14 * p + 1) = 14 ∧ l0 (162 + 2 + 14 * p + 1) = 4 := by decide +kernel
theorem kb3 (b : Nat) (_ : b < 331) (hb : b = 4 ∨ b = 162) : k0 b = 3 ∧ k0 (b + 1) = 15 ∧ l0 (b + 1) = 10 ∧ r0 b 0 = some (b + 1) ∧ ∀ p, p < 10 → r0 (b + 1) p = some (b + 2 + 14 * p) ∧ k0 (b + 2 + 14 * p) = 2 ∧ r0 (b + 2 + 14 * p) 0 = some (b + 2 + 14 * p + 1) ∧ k0 (b + 2 + 14 * p + 1) = 14 ∧ l0 (b + 2 + 14 * p + 1) = 4 ∧ ∀ s, s < 4 → r0 (b + 2 + 14 * p + 1) s = some (b + 2 + 14 * p + 2 + 3 * s) ∧ k0 (b + 2 + 14 * p + 2 + 3 * s) = 0 ∧ r0 (b + 2 + 14 * p + 2 + 3 * s) 0 = some (b + 2 + 14 * p + 2 + 3 * s + 1) ∧ r0 (b + 2 + 14 * p + 2 + 3 * s) 1 = some (b + 2 + 14 * p + 2 + 3 * s + 2) ∧ k0 (b + 2 + 14 * p + 2 + 3 * s + 1) = 11 ∧ k0 (b + 2 + 14 * p + 2 + 3 * s + 2) = 11 ∧ l0 (b + 2 + 14 * p + 2 + 3 * s + 1) = 3 ∧ l0 (b + 2 + 14 * p + 2 + 3 * s + 2) = 3 := by
  rcases hb with rfl | rfl
  · refine ⟨rfl, rfl, rfl, rfl, fun p hp => ?_⟩
    obtain ⟨a1, a2, a3, a4, a5⟩ := kb3d p hp
    refine ⟨a1, a2, a3, a4, a5, fun s hs => ?_⟩
    obtain ⟨⟨b1, b2, b3, b4⟩, b5, b6, b7, b8⟩ := kb3b p hp s hs
    exact ⟨b1, b2, b3, b4, b5, b6, b7, b8⟩
  · refine ⟨rfl, rfl, rfl, rfl, fun p hp => ?_⟩
    obtain ⟨a1, a2, a3, a4, a5⟩ := kb3e p hp
    refine ⟨a1, a2, a3, a4, a5, fun s hs => ?_⟩
    obtain ⟨⟨b1, b2, b3, b4⟩, b5, b6, b7, b8⟩ := kb3c p hp s hs
    exact ⟨b1, b2, b3, b4, b5, b6, b7, b8⟩
theorem kbB {b : Nat} (hb : isB b) : b < 331 ∧ b + 1 < 331 := by rcases hb with rfl | rfl <;> decide
theorem kbP {b p : Nat} (hb : isB b) (hp : p < 10) : b + 2 + 14 * p + 13 < 331 := by rcases hb with rfl | rfl <;> omega
def Pl (b p : Nat) : Nat := b + 2 + 14 * p
def Pt (b p s : Nat) : Nat := b + 2 + 14 * p + 2 + 3 * s
theorem v_fIB {σ : Mem} (h : ST σ) {b j : Nat} (hb : isB b) : fI σ 3 j (some b) = some (gI σ b j) := q_fI h (kbB hb).1 (kb3 b (kbB hb).1 hb).1
theorem v_pIB {σ : Mem} (h : ST σ) {b j : Nat} {x : Int32} (hb : isB b) : pI σ 3 j (some b) x = some (sI σ b j x) := q_pI h (kbB hb).1 (kb3 b (kbB hb).1 hb).1
theorem v_kTB {σ : Mem} (h : ST σ) {b : Nat} (hb : isB b) : kT σ 3 (some b) = some b := q_kT h (kbB hb).1 (kb3 b (kbB hb).1 hb).1
theorem v_RB {σ : Mem} (h : ST σ) {b : Nat} (hb : isB b) : fR σ 3 0 (some b) = some (some (b + 1)) := q_fR h (kbB hb).1 (kb3 b (kbB hb).1 hb).1 (by decide) (kb3 b (kbB hb).1 hb).2.2.2.1
theorem v_aE {σ : Mem} (h : ST σ) {b p : Nat} (hb : isB b) (hp : p < 10) : aR σ 15 (some (b + 1)) (nI p) = some (some (Pl b p)) := by
  obtain ⟨-, k1, k2, -, k3⟩ := kb3 b (kbB hb).1 hb
  rw [q_aR h (kbB hb).2 k1 k2 rfl hp (by decide)]
  exact congrArg some (q_r h (kbB hb).2 (by omega) (k3 p hp).1)
theorem v_fIP {σ : Mem} (h : ST σ) {b p j : Nat} (hb : isB b) (hp : p < 10) : fI σ 2 j (some (Pl b p)) = some (gI σ (Pl b p) j) := q_fI h (by have := kbP hb hp; unfold Pl; omega) ((kb3 b (kbB hb).1 hb).2.2.2.2 p hp).2.1
theorem v_fJP {σ : Mem} (h : ST σ) {b p j : Nat} (hb : isB b) (hp : p < 10) : fJ σ 2 j (some (Pl b p)) = some (gJ σ (Pl b p) j) := q_fJ h (by have := kbP hb hp; unfold Pl; omega) ((kb3 b (kbB hb).1 hb).2.2.2.2 p hp).2.1
theorem v_pIP {σ : Mem} (h : ST σ) {b p j : Nat} {x : Int32} (hb : isB b) (hp : p < 10) : pI σ 2 j (some (Pl b p)) x = some (sI σ (Pl b p) j x) := q_pI h (by have := kbP hb hp; unfold Pl; omega) ((kb3 b (kbB hb).1 hb).2.2.2.2 p hp).2.1
theorem v_pJP {σ : Mem} (h : ST σ) {b p j : Nat} {x : Int64} (hb : isB b) (hp : p < 10) : pJ σ 2 j (some (Pl b p)) x = some (sJ σ (Pl b p) j x) := q_pJ h (by have := kbP hb hp; unfold Pl; omega) ((kb3 b (kbB hb).1 hb).2.2.2.2 p hp).2.1
theorem v_kTP {σ : Mem} (h : ST σ) {b p : Nat} (hb : isB b) (hp : p < 10) : kT σ 2 (some (Pl b p)) = some (Pl b p) := q_kT h (by have := kbP hb hp; unfold Pl; omega) ((kb3 b (kbB hb).1 hb).2.2.2.2 p hp).2.1
theorem v_RP {σ : Mem} (h : ST σ) {b p : Nat} (hb : isB b) (hp : p < 10) : fR σ 2 0 (some (Pl b p)) = some (some (Pl b p + 1)) := q_fR h (by have := kbP hb hp; unfold Pl; omega) ((kb3 b (kbB hb).1 hb).2.2.2.2 p hp).2.1 (by decide) ((kb3 b (kbB hb).1 hb).2.2.2.2 p hp).2.2.1
theorem v_aP {σ : Mem} (h : ST σ) {b p s : Nat} (hb : isB b) (hp : p < 10) (hs : s < 4) : aR σ 14 (some (Pl b p + 1)) (nI s) = some (some (Pt b p s)) := by
  obtain ⟨-, -, -, k1, k2, k3⟩ := (kb3 b (kbB hb).1 hb).2.2.2.2 p hp
  have hc : Pl b p + 1 < 331 := by have := kbP hb hp; unfold Pl; omega
  rw [q_aR h hc k1 k2 rfl hs (by decide)]
  exact congrArg some (q_r h hc (by omega) (k3 s hs).1)
theorem v_fIT {σ : Mem} (h : ST σ) {b p s j : Nat} (hb : isB b) (hp : p < 10) (hs : s < 4) : fI σ 0 j (some (Pt b p s)) = some (gI σ (Pt b p s) j) := q_fI h (by have := kbP hb hp; unfold Pt; omega) (((kb3 b (kbB hb).1 hb).2.2.2.2 p hp).2.2.2.2.2 s hs).2.1
theorem v_pIT {σ : Mem} (h : ST σ) {b p s j : Nat} {x : Int32} (hb : isB b) (hp : p < 10) (hs : s < 4) : pI σ 0 j (some (Pt b p s)) x = some (sI σ (Pt b p s) j x) := q_pI h (by have := kbP hb hp; unfold Pt; omega) (((kb3 b (kbB hb).1 hb).2.2.2.2 p hp).2.2.2.2.2 s hs).2.1
theorem v_kTT {σ : Mem} (h : ST σ) {b p s : Nat} (hb : isB b) (hp : p < 10) (hs : s < 4) : kT σ 0 (some (Pt b p s)) = some (Pt b p s) := q_kT h (by have := kbP hb hp; unfold Pt; omega) (((kb3 b (kbB hb).1 hb).2.2.2.2 p hp).2.2.2.2.2 s hs).2.1
theorem v_RT0 {σ : Mem} (h : ST σ) {b p s : Nat} (hb : isB b) (hp : p < 10) (hs : s < 4) : fR σ 0 0 (some (Pt b p s)) = some (some (Pt b p s + 1)) := q_fR h (by have := kbP hb hp; unfold Pt; omega) (((kb3 b (kbB hb).1 hb).2.2.2.2 p hp).2.2.2.2.2 s hs).2.1 (by decide) (((kb3 b (kbB hb).1 hb).2.2.2.2 p hp).2.2.2.2.2 s hs).2.2.1
theorem v_RT1 {σ : Mem} (h : ST σ) {b p s : Nat} (hb : isB b) (hp : p < 10) (hs : s < 4) : fR σ 0 1 (some (Pt b p s)) = some (some (Pt b p s + 2)) := q_fR h (by have := kbP hb hp; unfold Pt; omega) (((kb3 b (kbB hb).1 hb).2.2.2.2 p hp).2.2.2.2.2 s hs).2.1 (by decide) (((kb3 b (kbB hb).1 hb).2.2.2.2 p hp).2.2.2.2.2 s hs).2.2.2.1
theorem v_aT1 {σ : Mem} (h : ST σ) {b p s i : Nat} (hb : isB b) (hp : p < 10) (hs : s < 4) (hi : i < 3) : aI σ 11 (some (Pt b p s + 1)) (nI i) = some (gI σ (Pt b p s + 1) i) := q_aI h (by have := kbP hb hp; unfold Pt; omega) (((kb3 b (kbB hb).1 hb).2.2.2.2 p hp).2.2.2.2.2 s hs).2.2.2.2.1 (((kb3 b (kbB hb).1 hb).2.2.2.2 p hp).2.2.2.2.2 s hs).2.2.2.2.2.2.1 rfl hi (by decide)
theorem v_aT2 {σ : Mem} (h : ST σ) {b p s i : Nat} (hb : isB b) (hp : p < 10) (hs : s < 4) (hi : i < 3) : aI σ 11 (some (Pt b p s + 2)) (nI i) = some (gI σ (Pt b p s + 2) i) := q_aI h (by have := kbP hb hp; unfold Pt; omega) (((kb3 b (kbB hb).1 hb).2.2.2.2 p hp).2.2.2.2.2 s hs).2.2.2.2.2.1 (((kb3 b (kbB hb).1 hb).2.2.2.2 p hp).2.2.2.2.2 s hs).2.2.2.2.2.2.2 rfl hi (by decide)
theorem v_wT1 {σ : Mem} (h : ST σ) {b p s i : Nat} {y : Int32} (hb : isB b) (hp : p < 10) (hs : s < 4) (hi : i < 3) : wI σ 11 (some (Pt b p s + 1)) (nI i) y = some (sI σ (Pt b p s + 1) i y) := q_wI h (by have := kbP hb hp; unfold Pt; omega) (((kb3 b (kbB hb).1 hb).2.2.2.2 p hp).2.2.2.2.2 s hs).2.2.2.2.1 (((kb3 b (kbB hb).1 hb).2.2.2.2 p hp).2.2.2.2.2 s hs).2.2.2.2.2.2.1 rfl hi (by decide)
theorem v_wT2 {σ : Mem} (h : ST σ) {b p s i : Nat} {y : Int32} (hb : isB b) (hp : p < 10) (hs : s < 4) (hi : i < 3) : wI σ 11 (some (Pt b p s + 2)) (nI i) y = some (sI σ (Pt b p s + 2) i y) := q_wI h (by have := kbP hb hp; unfold Pt; omega) (((kb3 b (kbB hb).1 hb).2.2.2.2 p hp).2.2.2.2.2 s hs).2.2.2.2.2.1 (((kb3 b (kbB hb).1 hb).2.2.2.2 p hp).2.2.2.2.2 s hs).2.2.2.2.2.2.2 rfl hi (by decide)
theorem w_0 : (0 : Int32) = nI 0 := rfl
theorem w_1 : (1 : Int32) = nI 1 := rfl
theorem w_2 : (2 : Int32) = nI 2 := rfl
theorem w_3 : (3 : Int32) = nI 3 := rfl
theorem w_4 : (4 : Int32) = nI 4 := rfl
theorem w_5 : (5 : Int32) = nI 5 := rfl
theorem w_6 : (6 : Int32) = nI 6 := rfl
theorem w_7 : (7 : Int32) = nI 7 := rfl
theorem w_8 : (8 : Int32) = nI 8 := rfl
theorem w_9 : (9 : Int32) = nI 9 := rfl
theorem w_10 : (10 : Int32) = nI 10 := rfl
theorem w_11 : (11 : Int32) = nI 11 := rfl
theorem w_12 : (12 : Int32) = nI 12 := rfl
theorem w_15 : (15 : Int32) = nI 15 := rfl
theorem w_16 : (16 : Int32) = nI 16 := rfl
theorem w_20 : (20 : Int32) = nI 20 := rfl
theorem w_22 : (22 : Int32) = nI 22 := rfl
theorem w_23 : (23 : Int32) = nI 23 := rfl
theorem w_24 : (24 : Int32) = nI 24 := rfl
theorem w_25 : (25 : Int32) = nI 25 := rfl
theorem w_27 : (27 : Int32) = nI 27 := rfl
theorem w_31 : (31 : Int32) = nI 31 := rfl
theorem w_32 : (32 : Int32) = nI 32 := rfl
theorem w_48 : (48 : Int32) = nI 48 := rfl
theorem w_57 : (57 : Int32) = nI 57 := rfl
theorem w_59 : (59 : Int32) = nI 59 := rfl
theorem w_97 : (97 : Int32) = nI 97 := rfl
theorem w_96 : (96 : Int32) = nI 96 := rfl
theorem w_122 : (122 : Int32) = nI 122 := rfl
theorem w_250 : (250 : Int32) = nI 250 := rfl
theorem w_255 : (255 : Int32) = nI 255 := rfl
theorem w_256 : (256 : Int32) = nI 256 := rfl
theorem w_800 : (800 : Int32) = nI 800 := rfl
theorem w_840 : (840 : Int32) = nI 840 := rfl
theorem w_9999 : (9999 : Int32) = nI 9999 := rfl
theorem w_20000 : (20000 : Int32) = nI 20000 := rfl
theorem w_100000 : (100000 : Int32) = nI 100000 := rfl
theorem w_999999 : (999999 : Int32) = nI 999999 := rfl
theorem bd_ {α β : Type} (v : α) (f : α → β) : bd v f = f v := rfl
theorem m1_ne {a : Nat} (h : a < 2 ^ 31) : (nI a = -nI 1) = False := by
  refine eq_false (fun e => ?_)
  have := congrArg Int32.toInt e
  rw [nI_toInt h, show (-nI 1).toInt = -1 by decide] at this
  omega
theorem lm1_ne {a : Nat} (h : a < 2 ^ 63) : (lN a = -1) = False := by
  refine eq_false (fun e => ?_)
  have := congrArg Int64.toInt e
  rw [pk_lT h, show (-1 : Int64).toInt = -1 by decide] at this
  omega
/-- where nothing but the told places changes -/
def Fr (p : Nat → Nat → Prop) (σ τ : Mem) : Prop := ST τ ∧ ∀ c k, ¬ p c k → gI τ c k = gI σ c k ∧ gJ τ c k = gJ σ c k ∧ gR τ c k = gR σ c k
theorem Fr.refl {p : Nat → Nat → Prop} {σ : Mem} (h : ST σ) : Fr p σ σ := ⟨h, fun _ _ _ => ⟨rfl, rfl, rfl⟩⟩
theorem Fr.trans {p q r : Nat → Nat → Prop} {σ τ υ : Mem} (h : Fr p σ τ) (h' : Fr q τ υ) (hp : ∀ c k, p c k → r c k) (hq : ∀ c k, q c k → r c k) : Fr r σ υ := by
  refine ⟨h'.1, fun c k hn => ?_⟩
  obtain ⟨a1, a2, a3⟩ := h.2 c k (fun x => hn (hp c k x))
  obtain ⟨b1, b2, b3⟩ := h'.2 c k (fun x => hn (hq c k x))
  exact ⟨b1.trans a1, b2.trans a2, b3.trans a3⟩
theorem Fr.tr {p : Nat → Nat → Prop} {σ τ υ : Mem} (h : Fr p σ τ) (h' : Fr p τ υ) : Fr p σ υ := h.trans h' (fun _ _ x => x) (fun _ _ x => x)
theorem Fr.mono {p q : Nat → Nat → Prop} {σ τ : Mem} (h : Fr p σ τ) (hp : ∀ c k, p c k → q c k) : Fr q σ τ := h.trans (Fr.refl h.1) hp hp
theorem FrsI {p : Nat → Nat → Prop} {σ : Mem} (h : ST σ) {c k : Nat} {v : Int32} (hp : p c k) : Fr p σ (sI σ c k v) := by
  refine ⟨h, fun a j hn => ⟨?_, rfl, rfl⟩⟩
  show (if a = c ∧ j = k then v else gI σ a j) = gI σ a j
  exact if_neg (fun e => hn (by rw [e.1, e.2]; exact hp))
theorem FrsJ {p : Nat → Nat → Prop} {σ : Mem} (h : ST σ) {c k : Nat} {v : Int64} (hp : p c k) : Fr p σ (sJ σ c k v) := by
  refine ⟨h, fun a j hn => ⟨rfl, ?_, rfl⟩⟩
  show (if a = c ∧ j = k then v else gJ σ a j) = gJ σ a j
  exact if_neg (fun e => hn (by rw [e.1, e.2]; exact hp))
theorem FrsR {p : Nat → Nat → Prop} {σ : Mem} {c k : Nat} {v : Option Nat} (h : ST (sR σ c k v)) (hp : p c k) : Fr p σ (sR σ c k v) := by
  refine ⟨h, fun a j hn => ⟨rfl, rfl, ?_⟩⟩
  show (if a = c ∧ j = k then v else gR σ a j) = gR σ a j
  exact if_neg (fun e => hn (by rw [e.1, e.2]; exact hp))
theorem Fr.cI {p : Nat → Nat → Prop} {σ τ : Mem} (h : Fr p σ τ) {c k : Nat} {v : Int32} (hp : p c k) : Fr p σ (sI τ c k v) := h.tr (FrsI h.1 hp)
theorem Fr.cJ {p : Nat → Nat → Prop} {σ τ : Mem} (h : Fr p σ τ) {c k : Nat} {v : Int64} (hp : p c k) : Fr p σ (sJ τ c k v) := h.tr (FrsJ h.1 hp)
theorem Fr.eI {p : Nat → Nat → Prop} {σ τ : Mem} (h : Fr p σ τ) {c : Nat} (hp : ∀ k, ¬ p c k) : gI τ c = gI σ c := funext fun k => (h.2 c k (hp k)).1
theorem Fr.eJ {p : Nat → Nat → Prop} {σ τ : Mem} (h : Fr p σ τ) {c : Nat} (hp : ∀ k, ¬ p c k) : gJ τ c = gJ σ c := funext fun k => (h.2 c k (hp k)).2.1
theorem Fr.eR {p : Nat → Nat → Prop} {σ τ : Mem} (h : Fr p σ τ) {c : Nat} (hp : ∀ k, ¬ p c k) : gR τ c = gR σ c := funext fun k => (h.2 c k (hp k)).2.2
theorem rdI {σ : Mem} {c k a j : Nat} {v : Int32} : gI (sI σ c k v) a j = if a = c ∧ j = k then v else gI σ a j := rfl
theorem rdJ {σ : Mem} {c k a j : Nat} {v : Int64} : gJ (sJ σ c k v) a j = if a = c ∧ j = k then v else gJ σ a j := rfl
theorem rdR {σ : Mem} {c k a j : Nat} {v : Option Nat} : gR (sR σ c k v) a j = if a = c ∧ j = k then v else gR σ a j := rfl
theorem rdIJ {σ : Mem} {c k a j : Nat} {v : Int64} : gI (sJ σ c k v) a j = gI σ a j := rfl
theorem rdJI {σ : Mem} {c k a j : Nat} {v : Int32} : gJ (sI σ c k v) a j = gJ σ a j := rfl
theorem gI_sI1 {σ : Mem} {c k : Nat} {v : Int32} : gI (sI σ c k v) c k = v := by simp [gI, sI]
theorem gJ_sJ1 {σ : Mem} {c k : Nat} {v : Int64} : gJ (sJ σ c k v) c k = v := by simp [gJ, sJ]
theorem gR_sR1 {σ : Mem} {c k : Nat} {v : Option Nat} : gR (sR σ c k v) c k = v := by simp [gR, sR]
theorem gI_sI2 {σ : Mem} {c k a j : Nat} {v : Int32} (h : ¬ (a = c ∧ j = k)) : gI (sI σ c k v) a j = gI σ a j := by simp [gI, sI, h]
theorem gJ_sJ2 {σ : Mem} {c k a j : Nat} {v : Int64} (h : ¬ (a = c ∧ j = k)) : gJ (sJ σ c k v) a j = gJ σ a j := by simp [gJ, sJ, h]
theorem gR_sR2 {σ : Mem} {c k a j : Nat} {v : Option Nat} (h : ¬ (a = c ∧ j = k)) : gR (sR σ c k v) a j = gR σ a j := by simp [gR, sR, h]
/-- the places that the relation speaks of -/
def rl (c k : Nat) : Prop := (c = 1 ∧ k = 1) ∨ c = 2 ∨ (c = 3 ∧ (k = 1 ∨ k = 4)) ∨ c = 147 ∨ (c = 0 ∧ 8 ≤ k) ∨ (158 ≤ c ∧ c ≤ 161) ∨ c = 305 ∨ c = 317 ∨ c = 318 ∨ c = 323 ∨ (327 ≤ c ∧ c ≤ 329) ∨ (c = 304 ∧ (k = 2 ∨ k = 8 ∨ k = 22 ∨ k = 26 ∨ k = 28 ∨ k = 34 ∨ k = 35)) ∨ inBk c
theorem rl1 : rl 1 1 := by unfold rl; omega
theorem R_book_Fr {p : Nat → Nat → Prop} {σ τ : Mem} (h : Fr p σ τ) (h1 : ∀ c, inBk c → ∀ k, ¬ p c k) (h2 : ¬ p 304 22) (h3 : ¬ p 0 8) (h4 : ¬ p 3 1) (hr : R_book σ) : R_book τ :=
  R_book_fr (fun c hc => h.eI (h1 c hc)) (fun c hc => h.eJ (h1 c hc)) (h.2 _ _ h2).1 (h.2 _ _ h3).2.2 (h.2 _ _ h4).2.2 hr
