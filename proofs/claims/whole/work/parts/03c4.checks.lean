theorem xi_o158 : ∀ pc, pc < xm_n 158 → xi_chk (xm_c 158) pc (xi_t 158 pc) = true := by decide +kernel
theorem xi_o159_0 : ∀ k, k < 40 → xi_chk (xm_c 159) (0 + k) (xi_t 159 (0 + k)) = true := by decide +kernel
theorem xi_o159_40 : ∀ k, k < 40 → xi_chk (xm_c 159) (40 + k) (xi_t 159 (40 + k)) = true := by decide +kernel
theorem xi_o159_80 : ∀ k, k < 13 → xi_chk (xm_c 159) (80 + k) (xi_t 159 (80 + k)) = true := by decide +kernel
theorem xi_o159 : ∀ pc, pc < xm_n 159 → xi_chk (xm_c 159) pc (xi_t 159 pc) = true := xi_r (hi := 93) 13 (xi_r (hi := 80) 40 (xi_r (hi := 40) 40 (lt_0 (p := fun pc => xi_chk (xm_c 159) pc (xi_t 159 pc) = true)) xi_o159_0 rfl) xi_o159_40 rfl) xi_o159_80 rfl
theorem xi_o160_0 : ∀ k, k < 40 → xi_chk (xm_c 160) (0 + k) (xi_t 160 (0 + k)) = true := by decide +kernel
theorem xi_o160_40 : ∀ k, k < 31 → xi_chk (xm_c 160) (40 + k) (xi_t 160 (40 + k)) = true := by decide +kernel
theorem xi_o160 : ∀ pc, pc < xm_n 160 → xi_chk (xm_c 160) pc (xi_t 160 pc) = true := xi_r (hi := 71) 31 (xi_r (hi := 40) 40 (lt_0 (p := fun pc => xi_chk (xm_c 160) pc (xi_t 160 pc) = true)) xi_o160_0 rfl) xi_o160_40 rfl
theorem xi_o161_0 : ∀ k, k < 40 → xi_chk (xm_c 161) (0 + k) (xi_t 161 (0 + k)) = true := by decide +kernel
theorem xi_o161_40 : ∀ k, k < 40 → xi_chk (xm_c 161) (40 + k) (xi_t 161 (40 + k)) = true := by decide +kernel
theorem xi_o161_80 : ∀ k, k < 40 → xi_chk (xm_c 161) (80 + k) (xi_t 161 (80 + k)) = true := by decide +kernel
theorem xi_o161_120 : ∀ k, k < 29 → xi_chk (xm_c 161) (120 + k) (xi_t 161 (120 + k)) = true := by decide +kernel
theorem xi_o161 : ∀ pc, pc < xm_n 161 → xi_chk (xm_c 161) pc (xi_t 161 pc) = true := xi_r (hi := 149) 29 (xi_r (hi := 120) 40 (xi_r (hi := 80) 40 (xi_r (hi := 40) 40 (lt_0 (p := fun pc => xi_chk (xm_c 161) pc (xi_t 161 pc) = true)) xi_o161_0 rfl) xi_o161_40 rfl) xi_o161_80 rfl) xi_o161_120 rfl
theorem xi_o162 : ∀ pc, pc < xm_n 162 → xi_chk (xm_c 162) pc (xi_t 162 pc) = true := by decide +kernel
theorem xi_o163_0 : ∀ k, k < 40 → xi_chk (xm_c 163) (0 + k) (xi_t 163 (0 + k)) = true := by decide +kernel
theorem xi_o163_40 : ∀ k, k < 37 → xi_chk (xm_c 163) (40 + k) (xi_t 163 (40 + k)) = true := by decide +kernel
theorem xi_o163 : ∀ pc, pc < xm_n 163 → xi_chk (xm_c 163) pc (xi_t 163 pc) = true := xi_r (hi := 77) 37 (xi_r (hi := 40) 40 (lt_0 (p := fun pc => xi_chk (xm_c 163) pc (xi_t 163 pc) = true)) xi_o163_0 rfl) xi_o163_40 rfl
theorem xi_o164 : ∀ pc, pc < xm_n 164 → xi_chk (xm_c 164) pc (xi_t 164 pc) = true := by decide +kernel
theorem xi_o165_0 : ∀ k, k < 40 → xi_chk (xm_c 165) (0 + k) (xi_t 165 (0 + k)) = true := by decide +kernel
theorem xi_o165_40 : ∀ k, k < 40 → xi_chk (xm_c 165) (40 + k) (xi_t 165 (40 + k)) = true := by decide +kernel
theorem xi_o165_80 : ∀ k, k < 40 → xi_chk (xm_c 165) (80 + k) (xi_t 165 (80 + k)) = true := by decide +kernel
theorem xi_o165_120 : ∀ k, k < 40 → xi_chk (xm_c 165) (120 + k) (xi_t 165 (120 + k)) = true := by decide +kernel
theorem xi_o165_160 : ∀ k, k < 9 → xi_chk (xm_c 165) (160 + k) (xi_t 165 (160 + k)) = true := by decide +kernel
theorem xi_o165 : ∀ pc, pc < xm_n 165 → xi_chk (xm_c 165) pc (xi_t 165 pc) = true := xi_r (hi := 169) 9 (xi_r (hi := 160) 40 (xi_r (hi := 120) 40 (xi_r (hi := 80) 40 (xi_r (hi := 40) 40 (lt_0 (p := fun pc => xi_chk (xm_c 165) pc (xi_t 165 pc) = true)) xi_o165_0 rfl) xi_o165_40 rfl) xi_o165_80 rfl) xi_o165_120 rfl) xi_o165_160 rfl
theorem xi_o166 : ∀ pc, pc < xm_n 166 → xi_chk (xm_c 166) pc (xi_t 166 pc) = true := by decide +kernel
theorem xi_o167 : ∀ pc, pc < xm_n 167 → xi_chk (xm_c 167) pc (xi_t 167 pc) = true := by decide +kernel
theorem xi_o168_0 : ∀ k, k < 40 → xi_chk (xm_c 168) (0 + k) (xi_t 168 (0 + k)) = true := by decide +kernel
theorem xi_o168_40 : ∀ k, k < 26 → xi_chk (xm_c 168) (40 + k) (xi_t 168 (40 + k)) = true := by decide +kernel
theorem xi_o168 : ∀ pc, pc < xm_n 168 → xi_chk (xm_c 168) pc (xi_t 168 pc) = true := xi_r (hi := 66) 26 (xi_r (hi := 40) 40 (lt_0 (p := fun pc => xi_chk (xm_c 168) pc (xi_t 168 pc) = true)) xi_o168_0 rfl) xi_o168_40 rfl
theorem xi_o169_0 : ∀ k, k < 40 → xi_chk (xm_c 169) (0 + k) (xi_t 169 (0 + k)) = true := by decide +kernel
theorem xi_o169_40 : ∀ k, k < 40 → xi_chk (xm_c 169) (40 + k) (xi_t 169 (40 + k)) = true := by decide +kernel
theorem xi_o169_80 : ∀ k, k < 17 → xi_chk (xm_c 169) (80 + k) (xi_t 169 (80 + k)) = true := by decide +kernel
theorem xi_o169 : ∀ pc, pc < xm_n 169 → xi_chk (xm_c 169) pc (xi_t 169 pc) = true := xi_r (hi := 97) 17 (xi_r (hi := 80) 40 (xi_r (hi := 40) 40 (lt_0 (p := fun pc => xi_chk (xm_c 169) pc (xi_t 169 pc) = true)) xi_o169_0 rfl) xi_o169_40 rfl) xi_o169_80 rfl
theorem xi_o170_0 : ∀ k, k < 40 → xi_chk (xm_c 170) (0 + k) (xi_t 170 (0 + k)) = true := by decide +kernel
theorem xi_o170_40 : ∀ k, k < 40 → xi_chk (xm_c 170) (40 + k) (xi_t 170 (40 + k)) = true := by decide +kernel
theorem xi_o170_80 : ∀ k, k < 40 → xi_chk (xm_c 170) (80 + k) (xi_t 170 (80 + k)) = true := by decide +kernel
theorem xi_o170_120 : ∀ k, k < 19 → xi_chk (xm_c 170) (120 + k) (xi_t 170 (120 + k)) = true := by decide +kernel
theorem xi_o170 : ∀ pc, pc < xm_n 170 → xi_chk (xm_c 170) pc (xi_t 170 pc) = true := xi_r (hi := 139) 19 (xi_r (hi := 120) 40 (xi_r (hi := 80) 40 (xi_r (hi := 40) 40 (lt_0 (p := fun pc => xi_chk (xm_c 170) pc (xi_t 170 pc) = true)) xi_o170_0 rfl) xi_o170_40 rfl) xi_o170_80 rfl) xi_o170_120 rfl
theorem xi_o171 : ∀ pc, pc < xm_n 171 → xi_chk (xm_c 171) pc (xi_t 171 pc) = true := by decide +kernel
theorem xi_o172_0 : ∀ k, k < 40 → xi_chk (xm_c 172) (0 + k) (xi_t 172 (0 + k)) = true := by decide +kernel
theorem xi_o172_40 : ∀ k, k < 40 → xi_chk (xm_c 172) (40 + k) (xi_t 172 (40 + k)) = true := by decide +kernel
theorem xi_o172_80 : ∀ k, k < 40 → xi_chk (xm_c 172) (80 + k) (xi_t 172 (80 + k)) = true := by decide +kernel
theorem xi_o172_120 : ∀ k, k < 40 → xi_chk (xm_c 172) (120 + k) (xi_t 172 (120 + k)) = true := by decide +kernel
theorem xi_o172_160 : ∀ k, k < 40 → xi_chk (xm_c 172) (160 + k) (xi_t 172 (160 + k)) = true := by decide +kernel
theorem xi_o172_200 : ∀ k, k < 40 → xi_chk (xm_c 172) (200 + k) (xi_t 172 (200 + k)) = true := by decide +kernel
theorem xi_o172_240 : ∀ k, k < 40 → xi_chk (xm_c 172) (240 + k) (xi_t 172 (240 + k)) = true := by decide +kernel
theorem xi_o172_280 : ∀ k, k < 27 → xi_chk (xm_c 172) (280 + k) (xi_t 172 (280 + k)) = true := by decide +kernel
theorem xi_o172 : ∀ pc, pc < xm_n 172 → xi_chk (xm_c 172) pc (xi_t 172 pc) = true := xi_r (hi := 307) 27 (xi_r (hi := 280) 40 (xi_r (hi := 240) 40 (xi_r (hi := 200) 40 (xi_r (hi := 160) 40 (xi_r (hi := 120) 40 (xi_r (hi := 80) 40 (xi_r (hi := 40) 40 (lt_0 (p := fun pc => xi_chk (xm_c 172) pc (xi_t 172 pc) = true)) xi_o172_0 rfl) xi_o172_40 rfl) xi_o172_80 rfl) xi_o172_120 rfl) xi_o172_160 rfl) xi_o172_200 rfl) xi_o172_240 rfl) xi_o172_280 rfl
theorem xi_o173 : ∀ pc, pc < xm_n 173 → xi_chk (xm_c 173) pc (xi_t 173 pc) = true := by decide +kernel
theorem xi_o174 : ∀ pc, pc < xm_n 174 → xi_chk (xm_c 174) pc (xi_t 174 pc) = true := by decide +kernel
theorem xi_o175 : ∀ pc, pc < xm_n 175 → xi_chk (xm_c 175) pc (xi_t 175 pc) = true := by decide +kernel
theorem xi_o176_0 : ∀ k, k < 40 → xi_chk (xm_c 176) (0 + k) (xi_t 176 (0 + k)) = true := by decide +kernel
theorem xi_o176_40 : ∀ k, k < 40 → xi_chk (xm_c 176) (40 + k) (xi_t 176 (40 + k)) = true := by decide +kernel
theorem xi_o176_80 : ∀ k, k < 40 → xi_chk (xm_c 176) (80 + k) (xi_t 176 (80 + k)) = true := by decide +kernel
theorem xi_o176_120 : ∀ k, k < 32 → xi_chk (xm_c 176) (120 + k) (xi_t 176 (120 + k)) = true := by decide +kernel
theorem xi_o176 : ∀ pc, pc < xm_n 176 → xi_chk (xm_c 176) pc (xi_t 176 pc) = true := xi_r (hi := 152) 32 (xi_r (hi := 120) 40 (xi_r (hi := 80) 40 (xi_r (hi := 40) 40 (lt_0 (p := fun pc => xi_chk (xm_c 176) pc (xi_t 176 pc) = true)) xi_o176_0 rfl) xi_o176_40 rfl) xi_o176_80 rfl) xi_o176_120 rfl
theorem xi_o177_0 : ∀ k, k < 40 → xi_chk (xm_c 177) (0 + k) (xi_t 177 (0 + k)) = true := by decide +kernel
theorem xi_o177_40 : ∀ k, k < 40 → xi_chk (xm_c 177) (40 + k) (xi_t 177 (40 + k)) = true := by decide +kernel
theorem xi_o177_80 : ∀ k, k < 40 → xi_chk (xm_c 177) (80 + k) (xi_t 177 (80 + k)) = true := by decide +kernel
theorem xi_o177_120 : ∀ k, k < 40 → xi_chk (xm_c 177) (120 + k) (xi_t 177 (120 + k)) = true := by decide +kernel
theorem xi_o177_160 : ∀ k, k < 40 → xi_chk (xm_c 177) (160 + k) (xi_t 177 (160 + k)) = true := by decide +kernel
theorem xi_o177_200 : ∀ k, k < 29 → xi_chk (xm_c 177) (200 + k) (xi_t 177 (200 + k)) = true := by decide +kernel
theorem xi_o177 : ∀ pc, pc < xm_n 177 → xi_chk (xm_c 177) pc (xi_t 177 pc) = true := xi_r (hi := 229) 29 (xi_r (hi := 200) 40 (xi_r (hi := 160) 40 (xi_r (hi := 120) 40 (xi_r (hi := 80) 40 (xi_r (hi := 40) 40 (lt_0 (p := fun pc => xi_chk (xm_c 177) pc (xi_t 177 pc) = true)) xi_o177_0 rfl) xi_o177_40 rfl) xi_o177_80 rfl) xi_o177_120 rfl) xi_o177_160 rfl) xi_o177_200 rfl
theorem xi_o178 : ∀ pc, pc < xm_n 178 → xi_chk (xm_c 178) pc (xi_t 178 pc) = true := by decide +kernel
theorem xi_o179 : ∀ pc, pc < xm_n 179 → xi_chk (xm_c 179) pc (xi_t 179 pc) = true := by decide +kernel
theorem xi_o180 : ∀ pc, pc < xm_n 180 → xi_chk (xm_c 180) pc (xi_t 180 pc) = true := by decide +kernel
theorem xi_o181 : ∀ pc, pc < xm_n 181 → xi_chk (xm_c 181) pc (xi_t 181 pc) = true := by decide +kernel
theorem xi_o182_0 : ∀ k, k < 40 → xi_chk (xm_c 182) (0 + k) (xi_t 182 (0 + k)) = true := by decide +kernel
theorem xi_o182_40 : ∀ k, k < 40 → xi_chk (xm_c 182) (40 + k) (xi_t 182 (40 + k)) = true := by decide +kernel
theorem xi_o182_80 : ∀ k, k < 40 → xi_chk (xm_c 182) (80 + k) (xi_t 182 (80 + k)) = true := by decide +kernel
theorem xi_o182_120 : ∀ k, k < 40 → xi_chk (xm_c 182) (120 + k) (xi_t 182 (120 + k)) = true := by decide +kernel
theorem xi_o182_160 : ∀ k, k < 29 → xi_chk (xm_c 182) (160 + k) (xi_t 182 (160 + k)) = true := by decide +kernel
theorem xi_o182 : ∀ pc, pc < xm_n 182 → xi_chk (xm_c 182) pc (xi_t 182 pc) = true := xi_r (hi := 189) 29 (xi_r (hi := 160) 40 (xi_r (hi := 120) 40 (xi_r (hi := 80) 40 (xi_r (hi := 40) 40 (lt_0 (p := fun pc => xi_chk (xm_c 182) pc (xi_t 182 pc) = true)) xi_o182_0 rfl) xi_o182_40 rfl) xi_o182_80 rfl) xi_o182_120 rfl) xi_o182_160 rfl
theorem xi_o183_0 : ∀ k, k < 40 → xi_chk (xm_c 183) (0 + k) (xi_t 183 (0 + k)) = true := by decide +kernel
theorem xi_o183_40 : ∀ k, k < 40 → xi_chk (xm_c 183) (40 + k) (xi_t 183 (40 + k)) = true := by decide +kernel
theorem xi_o183_80 : ∀ k, k < 31 → xi_chk (xm_c 183) (80 + k) (xi_t 183 (80 + k)) = true := by decide +kernel
theorem xi_o183 : ∀ pc, pc < xm_n 183 → xi_chk (xm_c 183) pc (xi_t 183 pc) = true := xi_r (hi := 111) 31 (xi_r (hi := 80) 40 (xi_r (hi := 40) 40 (lt_0 (p := fun pc => xi_chk (xm_c 183) pc (xi_t 183 pc) = true)) xi_o183_0 rfl) xi_o183_40 rfl) xi_o183_80 rfl
theorem xi_o184 : ∀ pc, pc < xm_n 184 → xi_chk (xm_c 184) pc (xi_t 184 pc) = true := by decide +kernel
theorem xi_o185_0 : ∀ k, k < 40 → xi_chk (xm_c 185) (0 + k) (xi_t 185 (0 + k)) = true := by decide +kernel
theorem xi_o185_40 : ∀ k, k < 40 → xi_chk (xm_c 185) (40 + k) (xi_t 185 (40 + k)) = true := by decide +kernel
theorem xi_o185_80 : ∀ k, k < 16 → xi_chk (xm_c 185) (80 + k) (xi_t 185 (80 + k)) = true := by decide +kernel
theorem xi_o185 : ∀ pc, pc < xm_n 185 → xi_chk (xm_c 185) pc (xi_t 185 pc) = true := xi_r (hi := 96) 16 (xi_r (hi := 80) 40 (xi_r (hi := 40) 40 (lt_0 (p := fun pc => xi_chk (xm_c 185) pc (xi_t 185 pc) = true)) xi_o185_0 rfl) xi_o185_40 rfl) xi_o185_80 rfl
theorem xi_o186_0 : ∀ k, k < 40 → xi_chk (xm_c 186) (0 + k) (xi_t 186 (0 + k)) = true := by decide +kernel
theorem xi_o186_40 : ∀ k, k < 40 → xi_chk (xm_c 186) (40 + k) (xi_t 186 (40 + k)) = true := by decide +kernel
theorem xi_o186_80 : ∀ k, k < 19 → xi_chk (xm_c 186) (80 + k) (xi_t 186 (80 + k)) = true := by decide +kernel
theorem xi_o186 : ∀ pc, pc < xm_n 186 → xi_chk (xm_c 186) pc (xi_t 186 pc) = true := xi_r (hi := 99) 19 (xi_r (hi := 80) 40 (xi_r (hi := 40) 40 (lt_0 (p := fun pc => xi_chk (xm_c 186) pc (xi_t 186 pc) = true)) xi_o186_0 rfl) xi_o186_40 rfl) xi_o186_80 rfl
theorem xi_o187_0 : ∀ k, k < 40 → xi_chk (xm_c 187) (0 + k) (xi_t 187 (0 + k)) = true := by decide +kernel
theorem xi_o187_40 : ∀ k, k < 40 → xi_chk (xm_c 187) (40 + k) (xi_t 187 (40 + k)) = true := by decide +kernel
theorem xi_o187_80 : ∀ k, k < 40 → xi_chk (xm_c 187) (80 + k) (xi_t 187 (80 + k)) = true := by decide +kernel
theorem xi_o187_120 : ∀ k, k < 40 → xi_chk (xm_c 187) (120 + k) (xi_t 187 (120 + k)) = true := by decide +kernel
theorem xi_o187_160 : ∀ k, k < 40 → xi_chk (xm_c 187) (160 + k) (xi_t 187 (160 + k)) = true := by decide +kernel
theorem xi_o187_200 : ∀ k, k < 40 → xi_chk (xm_c 187) (200 + k) (xi_t 187 (200 + k)) = true := by decide +kernel
theorem xi_o187_240 : ∀ k, k < 40 → xi_chk (xm_c 187) (240 + k) (xi_t 187 (240 + k)) = true := by decide +kernel
theorem xi_o187_280 : ∀ k, k < 40 → xi_chk (xm_c 187) (280 + k) (xi_t 187 (280 + k)) = true := by decide +kernel
theorem xi_o187_320 : ∀ k, k < 20 → xi_chk (xm_c 187) (320 + k) (xi_t 187 (320 + k)) = true := by decide +kernel
theorem xi_o187 : ∀ pc, pc < xm_n 187 → xi_chk (xm_c 187) pc (xi_t 187 pc) = true := xi_r (hi := 340) 20 (xi_r (hi := 320) 40 (xi_r (hi := 280) 40 (xi_r (hi := 240) 40 (xi_r (hi := 200) 40 (xi_r (hi := 160) 40 (xi_r (hi := 120) 40 (xi_r (hi := 80) 40 (xi_r (hi := 40) 40 (lt_0 (p := fun pc => xi_chk (xm_c 187) pc (xi_t 187 pc) = true)) xi_o187_0 rfl) xi_o187_40 rfl) xi_o187_80 rfl) xi_o187_120 rfl) xi_o187_160 rfl) xi_o187_200 rfl) xi_o187_240 rfl) xi_o187_280 rfl) xi_o187_320 rfl
theorem xi_o188 : ∀ pc, pc < xm_n 188 → xi_chk (xm_c 188) pc (xi_t 188 pc) = true := by decide +kernel
theorem xi_o189_0 : ∀ k, k < 40 → xi_chk (xm_c 189) (0 + k) (xi_t 189 (0 + k)) = true := by decide +kernel
theorem xi_o189_40 : ∀ k, k < 21 → xi_chk (xm_c 189) (40 + k) (xi_t 189 (40 + k)) = true := by decide +kernel
theorem xi_o189 : ∀ pc, pc < xm_n 189 → xi_chk (xm_c 189) pc (xi_t 189 pc) = true := xi_r (hi := 61) 21 (xi_r (hi := 40) 40 (lt_0 (p := fun pc => xi_chk (xm_c 189) pc (xi_t 189 pc) = true)) xi_o189_0 rfl) xi_o189_40 rfl
theorem xi_o190_0 : ∀ k, k < 40 → xi_chk (xm_c 190) (0 + k) (xi_t 190 (0 + k)) = true := by decide +kernel
theorem xi_o190_40 : ∀ k, k < 28 → xi_chk (xm_c 190) (40 + k) (xi_t 190 (40 + k)) = true := by decide +kernel
theorem xi_o190 : ∀ pc, pc < xm_n 190 → xi_chk (xm_c 190) pc (xi_t 190 pc) = true := xi_r (hi := 68) 28 (xi_r (hi := 40) 40 (lt_0 (p := fun pc => xi_chk (xm_c 190) pc (xi_t 190 pc) = true)) xi_o190_0 rfl) xi_o190_40 rfl
theorem xi_o191 : ∀ pc, pc < xm_n 191 → xi_chk (xm_c 191) pc (xi_t 191 pc) = true := by decide +kernel
theorem xi_o192_0 : ∀ k, k < 40 → xi_chk (xm_c 192) (0 + k) (xi_t 192 (0 + k)) = true := by decide +kernel
theorem xi_o192_40 : ∀ k, k < 40 → xi_chk (xm_c 192) (40 + k) (xi_t 192 (40 + k)) = true := by decide +kernel
theorem xi_o192_80 : ∀ k, k < 29 → xi_chk (xm_c 192) (80 + k) (xi_t 192 (80 + k)) = true := by decide +kernel
theorem xi_o192 : ∀ pc, pc < xm_n 192 → xi_chk (xm_c 192) pc (xi_t 192 pc) = true := xi_r (hi := 109) 29 (xi_r (hi := 80) 40 (xi_r (hi := 40) 40 (lt_0 (p := fun pc => xi_chk (xm_c 192) pc (xi_t 192 pc) = true)) xi_o192_0 rfl) xi_o192_40 rfl) xi_o192_80 rfl
theorem xi_o193_0 : ∀ k, k < 40 → xi_chk (xm_c 193) (0 + k) (xi_t 193 (0 + k)) = true := by decide +kernel
theorem xi_o193_40 : ∀ k, k < 40 → xi_chk (xm_c 193) (40 + k) (xi_t 193 (40 + k)) = true := by decide +kernel
theorem xi_o193_80 : ∀ k, k < 40 → xi_chk (xm_c 193) (80 + k) (xi_t 193 (80 + k)) = true := by decide +kernel
theorem xi_o193_120 : ∀ k, k < 31 → xi_chk (xm_c 193) (120 + k) (xi_t 193 (120 + k)) = true := by decide +kernel
theorem xi_o193 : ∀ pc, pc < xm_n 193 → xi_chk (xm_c 193) pc (xi_t 193 pc) = true := xi_r (hi := 151) 31 (xi_r (hi := 120) 40 (xi_r (hi := 80) 40 (xi_r (hi := 40) 40 (lt_0 (p := fun pc => xi_chk (xm_c 193) pc (xi_t 193 pc) = true)) xi_o193_0 rfl) xi_o193_40 rfl) xi_o193_80 rfl) xi_o193_120 rfl
theorem xi_o194 : ∀ pc, pc < xm_n 194 → xi_chk (xm_c 194) pc (xi_t 194 pc) = true := by decide +kernel
theorem xi_o195 : ∀ pc, pc < xm_n 195 → xi_chk (xm_c 195) pc (xi_t 195 pc) = true := by decide +kernel
theorem xi_o196_0 : ∀ k, k < 40 → xi_chk (xm_c 196) (0 + k) (xi_t 196 (0 + k)) = true := by decide +kernel
theorem xi_o196_40 : ∀ k, k < 40 → xi_chk (xm_c 196) (40 + k) (xi_t 196 (40 + k)) = true := by decide +kernel
theorem xi_o196_80 : ∀ k, k < 40 → xi_chk (xm_c 196) (80 + k) (xi_t 196 (80 + k)) = true := by decide +kernel
theorem xi_o196_120 : ∀ k, k < 40 → xi_chk (xm_c 196) (120 + k) (xi_t 196 (120 + k)) = true := by decide +kernel
theorem xi_o196_160 : ∀ k, k < 14 → xi_chk (xm_c 196) (160 + k) (xi_t 196 (160 + k)) = true := by decide +kernel
theorem xi_o196 : ∀ pc, pc < xm_n 196 → xi_chk (xm_c 196) pc (xi_t 196 pc) = true := xi_r (hi := 174) 14 (xi_r (hi := 160) 40 (xi_r (hi := 120) 40 (xi_r (hi := 80) 40 (xi_r (hi := 40) 40 (lt_0 (p := fun pc => xi_chk (xm_c 196) pc (xi_t 196 pc) = true)) xi_o196_0 rfl) xi_o196_40 rfl) xi_o196_80 rfl) xi_o196_120 rfl) xi_o196_160 rfl
