theorem xi_o197_0 : ∀ k, k < 40 → xi_chk (xm_c 197) (0 + k) (xi_t 197 (0 + k)) = true := by decide +kernel
theorem xi_o197_40 : ∀ k, k < 25 → xi_chk (xm_c 197) (40 + k) (xi_t 197 (40 + k)) = true := by decide +kernel
theorem xi_o197 : ∀ pc, pc < xm_n 197 → xi_chk (xm_c 197) pc (xi_t 197 pc) = true := xi_r (hi := 65) 25 (xi_r (hi := 40) 40 (lt_0 (p := fun pc => xi_chk (xm_c 197) pc (xi_t 197 pc) = true)) xi_o197_0 rfl) xi_o197_40 rfl
theorem xi_o198_0 : ∀ k, k < 40 → xi_chk (xm_c 198) (0 + k) (xi_t 198 (0 + k)) = true := by decide +kernel
theorem xi_o198_40 : ∀ k, k < 40 → xi_chk (xm_c 198) (40 + k) (xi_t 198 (40 + k)) = true := by decide +kernel
theorem xi_o198_80 : ∀ k, k < 35 → xi_chk (xm_c 198) (80 + k) (xi_t 198 (80 + k)) = true := by decide +kernel
theorem xi_o198 : ∀ pc, pc < xm_n 198 → xi_chk (xm_c 198) pc (xi_t 198 pc) = true := xi_r (hi := 115) 35 (xi_r (hi := 80) 40 (xi_r (hi := 40) 40 (lt_0 (p := fun pc => xi_chk (xm_c 198) pc (xi_t 198 pc) = true)) xi_o198_0 rfl) xi_o198_40 rfl) xi_o198_80 rfl
theorem xi_o199_0 : ∀ k, k < 40 → xi_chk (xm_c 199) (0 + k) (xi_t 199 (0 + k)) = true := by decide +kernel
theorem xi_o199_40 : ∀ k, k < 40 → xi_chk (xm_c 199) (40 + k) (xi_t 199 (40 + k)) = true := by decide +kernel
theorem xi_o199_80 : ∀ k, k < 3 → xi_chk (xm_c 199) (80 + k) (xi_t 199 (80 + k)) = true := by decide +kernel
theorem xi_o199 : ∀ pc, pc < xm_n 199 → xi_chk (xm_c 199) pc (xi_t 199 pc) = true := xi_r (hi := 83) 3 (xi_r (hi := 80) 40 (xi_r (hi := 40) 40 (lt_0 (p := fun pc => xi_chk (xm_c 199) pc (xi_t 199 pc) = true)) xi_o199_0 rfl) xi_o199_40 rfl) xi_o199_80 rfl
theorem xi_o200_0 : ∀ k, k < 40 → xi_chk (xm_c 200) (0 + k) (xi_t 200 (0 + k)) = true := by decide +kernel
theorem xi_o200_40 : ∀ k, k < 40 → xi_chk (xm_c 200) (40 + k) (xi_t 200 (40 + k)) = true := by decide +kernel
theorem xi_o200_80 : ∀ k, k < 40 → xi_chk (xm_c 200) (80 + k) (xi_t 200 (80 + k)) = true := by decide +kernel
theorem xi_o200_120 : ∀ k, k < 40 → xi_chk (xm_c 200) (120 + k) (xi_t 200 (120 + k)) = true := by decide +kernel
theorem xi_o200_160 : ∀ k, k < 23 → xi_chk (xm_c 200) (160 + k) (xi_t 200 (160 + k)) = true := by decide +kernel
theorem xi_o200 : ∀ pc, pc < xm_n 200 → xi_chk (xm_c 200) pc (xi_t 200 pc) = true := xi_r (hi := 183) 23 (xi_r (hi := 160) 40 (xi_r (hi := 120) 40 (xi_r (hi := 80) 40 (xi_r (hi := 40) 40 (lt_0 (p := fun pc => xi_chk (xm_c 200) pc (xi_t 200 pc) = true)) xi_o200_0 rfl) xi_o200_40 rfl) xi_o200_80 rfl) xi_o200_120 rfl) xi_o200_160 rfl
theorem xi_o201_0 : ∀ k, k < 40 → xi_chk (xm_c 201) (0 + k) (xi_t 201 (0 + k)) = true := by decide +kernel
theorem xi_o201_40 : ∀ k, k < 40 → xi_chk (xm_c 201) (40 + k) (xi_t 201 (40 + k)) = true := by decide +kernel
theorem xi_o201_80 : ∀ k, k < 40 → xi_chk (xm_c 201) (80 + k) (xi_t 201 (80 + k)) = true := by decide +kernel
theorem xi_o201_120 : ∀ k, k < 12 → xi_chk (xm_c 201) (120 + k) (xi_t 201 (120 + k)) = true := by decide +kernel
theorem xi_o201 : ∀ pc, pc < xm_n 201 → xi_chk (xm_c 201) pc (xi_t 201 pc) = true := xi_r (hi := 132) 12 (xi_r (hi := 120) 40 (xi_r (hi := 80) 40 (xi_r (hi := 40) 40 (lt_0 (p := fun pc => xi_chk (xm_c 201) pc (xi_t 201 pc) = true)) xi_o201_0 rfl) xi_o201_40 rfl) xi_o201_80 rfl) xi_o201_120 rfl
theorem xi_o202_0 : ∀ k, k < 40 → xi_chk (xm_c 202) (0 + k) (xi_t 202 (0 + k)) = true := by decide +kernel
theorem xi_o202_40 : ∀ k, k < 40 → xi_chk (xm_c 202) (40 + k) (xi_t 202 (40 + k)) = true := by decide +kernel
theorem xi_o202_80 : ∀ k, k < 20 → xi_chk (xm_c 202) (80 + k) (xi_t 202 (80 + k)) = true := by decide +kernel
theorem xi_o202 : ∀ pc, pc < xm_n 202 → xi_chk (xm_c 202) pc (xi_t 202 pc) = true := xi_r (hi := 100) 20 (xi_r (hi := 80) 40 (xi_r (hi := 40) 40 (lt_0 (p := fun pc => xi_chk (xm_c 202) pc (xi_t 202 pc) = true)) xi_o202_0 rfl) xi_o202_40 rfl) xi_o202_80 rfl
theorem xi_o203 : ∀ pc, pc < xm_n 203 → xi_chk (xm_c 203) pc (xi_t 203 pc) = true := by decide +kernel
theorem xi_o204_0 : ∀ k, k < 40 → xi_chk (xm_c 204) (0 + k) (xi_t 204 (0 + k)) = true := by decide +kernel
theorem xi_o204_40 : ∀ k, k < 40 → xi_chk (xm_c 204) (40 + k) (xi_t 204 (40 + k)) = true := by decide +kernel
theorem xi_o204_80 : ∀ k, k < 15 → xi_chk (xm_c 204) (80 + k) (xi_t 204 (80 + k)) = true := by decide +kernel
theorem xi_o204 : ∀ pc, pc < xm_n 204 → xi_chk (xm_c 204) pc (xi_t 204 pc) = true := xi_r (hi := 95) 15 (xi_r (hi := 80) 40 (xi_r (hi := 40) 40 (lt_0 (p := fun pc => xi_chk (xm_c 204) pc (xi_t 204 pc) = true)) xi_o204_0 rfl) xi_o204_40 rfl) xi_o204_80 rfl
theorem xi_o205_0 : ∀ k, k < 40 → xi_chk (xm_c 205) (0 + k) (xi_t 205 (0 + k)) = true := by decide +kernel
theorem xi_o205_40 : ∀ k, k < 27 → xi_chk (xm_c 205) (40 + k) (xi_t 205 (40 + k)) = true := by decide +kernel
theorem xi_o205 : ∀ pc, pc < xm_n 205 → xi_chk (xm_c 205) pc (xi_t 205 pc) = true := xi_r (hi := 67) 27 (xi_r (hi := 40) 40 (lt_0 (p := fun pc => xi_chk (xm_c 205) pc (xi_t 205 pc) = true)) xi_o205_0 rfl) xi_o205_40 rfl
theorem xi_o206_0 : ∀ k, k < 40 → xi_chk (xm_c 206) (0 + k) (xi_t 206 (0 + k)) = true := by decide +kernel
theorem xi_o206_40 : ∀ k, k < 40 → xi_chk (xm_c 206) (40 + k) (xi_t 206 (40 + k)) = true := by decide +kernel
theorem xi_o206_80 : ∀ k, k < 40 → xi_chk (xm_c 206) (80 + k) (xi_t 206 (80 + k)) = true := by decide +kernel
theorem xi_o206_120 : ∀ k, k < 40 → xi_chk (xm_c 206) (120 + k) (xi_t 206 (120 + k)) = true := by decide +kernel
theorem xi_o206_160 : ∀ k, k < 8 → xi_chk (xm_c 206) (160 + k) (xi_t 206 (160 + k)) = true := by decide +kernel
theorem xi_o206 : ∀ pc, pc < xm_n 206 → xi_chk (xm_c 206) pc (xi_t 206 pc) = true := xi_r (hi := 168) 8 (xi_r (hi := 160) 40 (xi_r (hi := 120) 40 (xi_r (hi := 80) 40 (xi_r (hi := 40) 40 (lt_0 (p := fun pc => xi_chk (xm_c 206) pc (xi_t 206 pc) = true)) xi_o206_0 rfl) xi_o206_40 rfl) xi_o206_80 rfl) xi_o206_120 rfl) xi_o206_160 rfl
theorem xi_o207_0 : ∀ k, k < 40 → xi_chk (xm_c 207) (0 + k) (xi_t 207 (0 + k)) = true := by decide +kernel
theorem xi_o207_40 : ∀ k, k < 40 → xi_chk (xm_c 207) (40 + k) (xi_t 207 (40 + k)) = true := by decide +kernel
theorem xi_o207_80 : ∀ k, k < 40 → xi_chk (xm_c 207) (80 + k) (xi_t 207 (80 + k)) = true := by decide +kernel
theorem xi_o207_120 : ∀ k, k < 40 → xi_chk (xm_c 207) (120 + k) (xi_t 207 (120 + k)) = true := by decide +kernel
theorem xi_o207_160 : ∀ k, k < 9 → xi_chk (xm_c 207) (160 + k) (xi_t 207 (160 + k)) = true := by decide +kernel
theorem xi_o207 : ∀ pc, pc < xm_n 207 → xi_chk (xm_c 207) pc (xi_t 207 pc) = true := xi_r (hi := 169) 9 (xi_r (hi := 160) 40 (xi_r (hi := 120) 40 (xi_r (hi := 80) 40 (xi_r (hi := 40) 40 (lt_0 (p := fun pc => xi_chk (xm_c 207) pc (xi_t 207 pc) = true)) xi_o207_0 rfl) xi_o207_40 rfl) xi_o207_80 rfl) xi_o207_120 rfl) xi_o207_160 rfl
theorem xi_o208_0 : ∀ k, k < 40 → xi_chk (xm_c 208) (0 + k) (xi_t 208 (0 + k)) = true := by decide +kernel
theorem xi_o208_40 : ∀ k, k < 38 → xi_chk (xm_c 208) (40 + k) (xi_t 208 (40 + k)) = true := by decide +kernel
theorem xi_o208 : ∀ pc, pc < xm_n 208 → xi_chk (xm_c 208) pc (xi_t 208 pc) = true := xi_r (hi := 78) 38 (xi_r (hi := 40) 40 (lt_0 (p := fun pc => xi_chk (xm_c 208) pc (xi_t 208 pc) = true)) xi_o208_0 rfl) xi_o208_40 rfl
theorem xi_o209_0 : ∀ k, k < 40 → xi_chk (xm_c 209) (0 + k) (xi_t 209 (0 + k)) = true := by decide +kernel
theorem xi_o209_40 : ∀ k, k < 40 → xi_chk (xm_c 209) (40 + k) (xi_t 209 (40 + k)) = true := by decide +kernel
theorem xi_o209_80 : ∀ k, k < 40 → xi_chk (xm_c 209) (80 + k) (xi_t 209 (80 + k)) = true := by decide +kernel
theorem xi_o209_120 : ∀ k, k < 40 → xi_chk (xm_c 209) (120 + k) (xi_t 209 (120 + k)) = true := by decide +kernel
theorem xi_o209_160 : ∀ k, k < 19 → xi_chk (xm_c 209) (160 + k) (xi_t 209 (160 + k)) = true := by decide +kernel
theorem xi_o209 : ∀ pc, pc < xm_n 209 → xi_chk (xm_c 209) pc (xi_t 209 pc) = true := xi_r (hi := 179) 19 (xi_r (hi := 160) 40 (xi_r (hi := 120) 40 (xi_r (hi := 80) 40 (xi_r (hi := 40) 40 (lt_0 (p := fun pc => xi_chk (xm_c 209) pc (xi_t 209 pc) = true)) xi_o209_0 rfl) xi_o209_40 rfl) xi_o209_80 rfl) xi_o209_120 rfl) xi_o209_160 rfl
theorem xi_o210 : ∀ pc, pc < xm_n 210 → xi_chk (xm_c 210) pc (xi_t 210 pc) = true := by decide +kernel
theorem xi_o211_0 : ∀ k, k < 40 → xi_chk (xm_c 211) (0 + k) (xi_t 211 (0 + k)) = true := by decide +kernel
theorem xi_o211_40 : ∀ k, k < 31 → xi_chk (xm_c 211) (40 + k) (xi_t 211 (40 + k)) = true := by decide +kernel
theorem xi_o211 : ∀ pc, pc < xm_n 211 → xi_chk (xm_c 211) pc (xi_t 211 pc) = true := xi_r (hi := 71) 31 (xi_r (hi := 40) 40 (lt_0 (p := fun pc => xi_chk (xm_c 211) pc (xi_t 211 pc) = true)) xi_o211_0 rfl) xi_o211_40 rfl
theorem xi_o212 : ∀ pc, pc < xm_n 212 → xi_chk (xm_c 212) pc (xi_t 212 pc) = true := by decide +kernel
theorem xi_o213 : ∀ pc, pc < xm_n 213 → xi_chk (xm_c 213) pc (xi_t 213 pc) = true := by decide +kernel
theorem xi_o214 : ∀ pc, pc < xm_n 214 → xi_chk (xm_c 214) pc (xi_t 214 pc) = true := by decide +kernel
theorem xi_o215 : ∀ pc, pc < xm_n 215 → xi_chk (xm_c 215) pc (xi_t 215 pc) = true := by decide +kernel
theorem xi_o216 : ∀ pc, pc < xm_n 216 → xi_chk (xm_c 216) pc (xi_t 216 pc) = true := by decide +kernel
