theorem xi_o105_0 : ∀ k, k < 40 → xi_chk (xm_c 105) (0 + k) (xi_t 105 (0 + k)) = true := by decide +kernel
theorem xi_o105_40 : ∀ k, k < 40 → xi_chk (xm_c 105) (40 + k) (xi_t 105 (40 + k)) = true := by decide +kernel
theorem xi_o105_80 : ∀ k, k < 24 → xi_chk (xm_c 105) (80 + k) (xi_t 105 (80 + k)) = true := by decide +kernel
theorem xi_o105 : ∀ pc, pc < xm_n 105 → xi_chk (xm_c 105) pc (xi_t 105 pc) = true := xi_r (hi := 104) 24 (xi_r (hi := 80) 40 (xi_r (hi := 40) 40 (lt_0 (p := fun pc => xi_chk (xm_c 105) pc (xi_t 105 pc) = true)) xi_o105_0 rfl) xi_o105_40 rfl) xi_o105_80 rfl
theorem xi_o106_0 : ∀ k, k < 40 → xi_chk (xm_c 106) (0 + k) (xi_t 106 (0 + k)) = true := by decide +kernel
theorem xi_o106_40 : ∀ k, k < 24 → xi_chk (xm_c 106) (40 + k) (xi_t 106 (40 + k)) = true := by decide +kernel
theorem xi_o106 : ∀ pc, pc < xm_n 106 → xi_chk (xm_c 106) pc (xi_t 106 pc) = true := xi_r (hi := 64) 24 (xi_r (hi := 40) 40 (lt_0 (p := fun pc => xi_chk (xm_c 106) pc (xi_t 106 pc) = true)) xi_o106_0 rfl) xi_o106_40 rfl
theorem xi_o107_0 : ∀ k, k < 40 → xi_chk (xm_c 107) (0 + k) (xi_t 107 (0 + k)) = true := by decide +kernel
theorem xi_o107_40 : ∀ k, k < 40 → xi_chk (xm_c 107) (40 + k) (xi_t 107 (40 + k)) = true := by decide +kernel
theorem xi_o107_80 : ∀ k, k < 21 → xi_chk (xm_c 107) (80 + k) (xi_t 107 (80 + k)) = true := by decide +kernel
theorem xi_o107 : ∀ pc, pc < xm_n 107 → xi_chk (xm_c 107) pc (xi_t 107 pc) = true := xi_r (hi := 101) 21 (xi_r (hi := 80) 40 (xi_r (hi := 40) 40 (lt_0 (p := fun pc => xi_chk (xm_c 107) pc (xi_t 107 pc) = true)) xi_o107_0 rfl) xi_o107_40 rfl) xi_o107_80 rfl
theorem xi_o108 : ∀ pc, pc < xm_n 108 → xi_chk (xm_c 108) pc (xi_t 108 pc) = true := by decide +kernel
theorem xi_o109 : ∀ pc, pc < xm_n 109 → xi_chk (xm_c 109) pc (xi_t 109 pc) = true := by decide +kernel
theorem xi_o110 : ∀ pc, pc < xm_n 110 → xi_chk (xm_c 110) pc (xi_t 110 pc) = true := by decide +kernel
theorem xi_o111 : ∀ pc, pc < xm_n 111 → xi_chk (xm_c 111) pc (xi_t 111 pc) = true := by decide +kernel
theorem xi_o112_0 : ∀ k, k < 40 → xi_chk (xm_c 112) (0 + k) (xi_t 112 (0 + k)) = true := by decide +kernel
theorem xi_o112_40 : ∀ k, k < 30 → xi_chk (xm_c 112) (40 + k) (xi_t 112 (40 + k)) = true := by decide +kernel
theorem xi_o112 : ∀ pc, pc < xm_n 112 → xi_chk (xm_c 112) pc (xi_t 112 pc) = true := xi_r (hi := 70) 30 (xi_r (hi := 40) 40 (lt_0 (p := fun pc => xi_chk (xm_c 112) pc (xi_t 112 pc) = true)) xi_o112_0 rfl) xi_o112_40 rfl
theorem xi_o113_0 : ∀ k, k < 40 → xi_chk (xm_c 113) (0 + k) (xi_t 113 (0 + k)) = true := by decide +kernel
theorem xi_o113_40 : ∀ k, k < 40 → xi_chk (xm_c 113) (40 + k) (xi_t 113 (40 + k)) = true := by decide +kernel
theorem xi_o113_80 : ∀ k, k < 26 → xi_chk (xm_c 113) (80 + k) (xi_t 113 (80 + k)) = true := by decide +kernel
theorem xi_o113 : ∀ pc, pc < xm_n 113 → xi_chk (xm_c 113) pc (xi_t 113 pc) = true := xi_r (hi := 106) 26 (xi_r (hi := 80) 40 (xi_r (hi := 40) 40 (lt_0 (p := fun pc => xi_chk (xm_c 113) pc (xi_t 113 pc) = true)) xi_o113_0 rfl) xi_o113_40 rfl) xi_o113_80 rfl
theorem xi_o114 : ∀ pc, pc < xm_n 114 → xi_chk (xm_c 114) pc (xi_t 114 pc) = true := by decide +kernel
theorem xi_o115 : ∀ pc, pc < xm_n 115 → xi_chk (xm_c 115) pc (xi_t 115 pc) = true := by decide +kernel
theorem xi_o116 : ∀ pc, pc < xm_n 116 → xi_chk (xm_c 116) pc (xi_t 116 pc) = true := by decide +kernel
theorem xi_o117_0 : ∀ k, k < 40 → xi_chk (xm_c 117) (0 + k) (xi_t 117 (0 + k)) = true := by decide +kernel
theorem xi_o117_40 : ∀ k, k < 40 → xi_chk (xm_c 117) (40 + k) (xi_t 117 (40 + k)) = true := by decide +kernel
theorem xi_o117_80 : ∀ k, k < 26 → xi_chk (xm_c 117) (80 + k) (xi_t 117 (80 + k)) = true := by decide +kernel
theorem xi_o117 : ∀ pc, pc < xm_n 117 → xi_chk (xm_c 117) pc (xi_t 117 pc) = true := xi_r (hi := 106) 26 (xi_r (hi := 80) 40 (xi_r (hi := 40) 40 (lt_0 (p := fun pc => xi_chk (xm_c 117) pc (xi_t 117 pc) = true)) xi_o117_0 rfl) xi_o117_40 rfl) xi_o117_80 rfl
theorem xi_o118_0 : ∀ k, k < 40 → xi_chk (xm_c 118) (0 + k) (xi_t 118 (0 + k)) = true := by decide +kernel
theorem xi_o118_40 : ∀ k, k < 40 → xi_chk (xm_c 118) (40 + k) (xi_t 118 (40 + k)) = true := by decide +kernel
theorem xi_o118_80 : ∀ k, k < 40 → xi_chk (xm_c 118) (80 + k) (xi_t 118 (80 + k)) = true := by decide +kernel
theorem xi_o118_120 : ∀ k, k < 20 → xi_chk (xm_c 118) (120 + k) (xi_t 118 (120 + k)) = true := by decide +kernel
theorem xi_o118 : ∀ pc, pc < xm_n 118 → xi_chk (xm_c 118) pc (xi_t 118 pc) = true := xi_r (hi := 140) 20 (xi_r (hi := 120) 40 (xi_r (hi := 80) 40 (xi_r (hi := 40) 40 (lt_0 (p := fun pc => xi_chk (xm_c 118) pc (xi_t 118 pc) = true)) xi_o118_0 rfl) xi_o118_40 rfl) xi_o118_80 rfl) xi_o118_120 rfl
theorem xi_o119 : ∀ pc, pc < xm_n 119 → xi_chk (xm_c 119) pc (xi_t 119 pc) = true := by decide +kernel
theorem xi_o120 : ∀ pc, pc < xm_n 120 → xi_chk (xm_c 120) pc (xi_t 120 pc) = true := by decide +kernel
theorem xi_o121_0 : ∀ k, k < 40 → xi_chk (xm_c 121) (0 + k) (xi_t 121 (0 + k)) = true := by decide +kernel
theorem xi_o121_40 : ∀ k, k < 40 → xi_chk (xm_c 121) (40 + k) (xi_t 121 (40 + k)) = true := by decide +kernel
theorem xi_o121_80 : ∀ k, k < 40 → xi_chk (xm_c 121) (80 + k) (xi_t 121 (80 + k)) = true := by decide +kernel
theorem xi_o121_120 : ∀ k, k < 40 → xi_chk (xm_c 121) (120 + k) (xi_t 121 (120 + k)) = true := by decide +kernel
theorem xi_o121_160 : ∀ k, k < 40 → xi_chk (xm_c 121) (160 + k) (xi_t 121 (160 + k)) = true := by decide +kernel
theorem xi_o121_200 : ∀ k, k < 33 → xi_chk (xm_c 121) (200 + k) (xi_t 121 (200 + k)) = true := by decide +kernel
theorem xi_o121 : ∀ pc, pc < xm_n 121 → xi_chk (xm_c 121) pc (xi_t 121 pc) = true := xi_r (hi := 233) 33 (xi_r (hi := 200) 40 (xi_r (hi := 160) 40 (xi_r (hi := 120) 40 (xi_r (hi := 80) 40 (xi_r (hi := 40) 40 (lt_0 (p := fun pc => xi_chk (xm_c 121) pc (xi_t 121 pc) = true)) xi_o121_0 rfl) xi_o121_40 rfl) xi_o121_80 rfl) xi_o121_120 rfl) xi_o121_160 rfl) xi_o121_200 rfl
theorem xi_o122 : ∀ pc, pc < xm_n 122 → xi_chk (xm_c 122) pc (xi_t 122 pc) = true := by decide +kernel
theorem xi_o123 : ∀ pc, pc < xm_n 123 → xi_chk (xm_c 123) pc (xi_t 123 pc) = true := by decide +kernel
theorem xi_o124_0 : ∀ k, k < 40 → xi_chk (xm_c 124) (0 + k) (xi_t 124 (0 + k)) = true := by decide +kernel
theorem xi_o124_40 : ∀ k, k < 40 → xi_chk (xm_c 124) (40 + k) (xi_t 124 (40 + k)) = true := by decide +kernel
theorem xi_o124_80 : ∀ k, k < 40 → xi_chk (xm_c 124) (80 + k) (xi_t 124 (80 + k)) = true := by decide +kernel
theorem xi_o124_120 : ∀ k, k < 19 → xi_chk (xm_c 124) (120 + k) (xi_t 124 (120 + k)) = true := by decide +kernel
theorem xi_o124 : ∀ pc, pc < xm_n 124 → xi_chk (xm_c 124) pc (xi_t 124 pc) = true := xi_r (hi := 139) 19 (xi_r (hi := 120) 40 (xi_r (hi := 80) 40 (xi_r (hi := 40) 40 (lt_0 (p := fun pc => xi_chk (xm_c 124) pc (xi_t 124 pc) = true)) xi_o124_0 rfl) xi_o124_40 rfl) xi_o124_80 rfl) xi_o124_120 rfl
theorem xi_o125_0 : ∀ k, k < 40 → xi_chk (xm_c 125) (0 + k) (xi_t 125 (0 + k)) = true := by decide +kernel
theorem xi_o125_40 : ∀ k, k < 40 → xi_chk (xm_c 125) (40 + k) (xi_t 125 (40 + k)) = true := by decide +kernel
theorem xi_o125_80 : ∀ k, k < 28 → xi_chk (xm_c 125) (80 + k) (xi_t 125 (80 + k)) = true := by decide +kernel
theorem xi_o125 : ∀ pc, pc < xm_n 125 → xi_chk (xm_c 125) pc (xi_t 125 pc) = true := xi_r (hi := 108) 28 (xi_r (hi := 80) 40 (xi_r (hi := 40) 40 (lt_0 (p := fun pc => xi_chk (xm_c 125) pc (xi_t 125 pc) = true)) xi_o125_0 rfl) xi_o125_40 rfl) xi_o125_80 rfl
theorem xi_o126 : ∀ pc, pc < xm_n 126 → xi_chk (xm_c 126) pc (xi_t 126 pc) = true := by decide +kernel
theorem xi_o127_0 : ∀ k, k < 40 → xi_chk (xm_c 127) (0 + k) (xi_t 127 (0 + k)) = true := by decide +kernel
theorem xi_o127_40 : ∀ k, k < 40 → xi_chk (xm_c 127) (40 + k) (xi_t 127 (40 + k)) = true := by decide +kernel
theorem xi_o127_80 : ∀ k, k < 37 → xi_chk (xm_c 127) (80 + k) (xi_t 127 (80 + k)) = true := by decide +kernel
theorem xi_o127 : ∀ pc, pc < xm_n 127 → xi_chk (xm_c 127) pc (xi_t 127 pc) = true := xi_r (hi := 117) 37 (xi_r (hi := 80) 40 (xi_r (hi := 40) 40 (lt_0 (p := fun pc => xi_chk (xm_c 127) pc (xi_t 127 pc) = true)) xi_o127_0 rfl) xi_o127_40 rfl) xi_o127_80 rfl
theorem xi_o128_0 : ∀ k, k < 40 → xi_chk (xm_c 128) (0 + k) (xi_t 128 (0 + k)) = true := by decide +kernel
theorem xi_o128_40 : ∀ k, k < 40 → xi_chk (xm_c 128) (40 + k) (xi_t 128 (40 + k)) = true := by decide +kernel
theorem xi_o128_80 : ∀ k, k < 40 → xi_chk (xm_c 128) (80 + k) (xi_t 128 (80 + k)) = true := by decide +kernel
theorem xi_o128_120 : ∀ k, k < 40 → xi_chk (xm_c 128) (120 + k) (xi_t 128 (120 + k)) = true := by decide +kernel
theorem xi_o128_160 : ∀ k, k < 5 → xi_chk (xm_c 128) (160 + k) (xi_t 128 (160 + k)) = true := by decide +kernel
theorem xi_o128 : ∀ pc, pc < xm_n 128 → xi_chk (xm_c 128) pc (xi_t 128 pc) = true := xi_r (hi := 165) 5 (xi_r (hi := 160) 40 (xi_r (hi := 120) 40 (xi_r (hi := 80) 40 (xi_r (hi := 40) 40 (lt_0 (p := fun pc => xi_chk (xm_c 128) pc (xi_t 128 pc) = true)) xi_o128_0 rfl) xi_o128_40 rfl) xi_o128_80 rfl) xi_o128_120 rfl) xi_o128_160 rfl
theorem xi_o129 : ∀ pc, pc < xm_n 129 → xi_chk (xm_c 129) pc (xi_t 129 pc) = true := by decide +kernel
theorem xi_o130_0 : ∀ k, k < 40 → xi_chk (xm_c 130) (0 + k) (xi_t 130 (0 + k)) = true := by decide +kernel
theorem xi_o130_40 : ∀ k, k < 40 → xi_chk (xm_c 130) (40 + k) (xi_t 130 (40 + k)) = true := by decide +kernel
theorem xi_o130_80 : ∀ k, k < 22 → xi_chk (xm_c 130) (80 + k) (xi_t 130 (80 + k)) = true := by decide +kernel
theorem xi_o130 : ∀ pc, pc < xm_n 130 → xi_chk (xm_c 130) pc (xi_t 130 pc) = true := xi_r (hi := 102) 22 (xi_r (hi := 80) 40 (xi_r (hi := 40) 40 (lt_0 (p := fun pc => xi_chk (xm_c 130) pc (xi_t 130 pc) = true)) xi_o130_0 rfl) xi_o130_40 rfl) xi_o130_80 rfl
theorem xi_o131_0 : ∀ k, k < 40 → xi_chk (xm_c 131) (0 + k) (xi_t 131 (0 + k)) = true := by decide +kernel
theorem xi_o131_40 : ∀ k, k < 27 → xi_chk (xm_c 131) (40 + k) (xi_t 131 (40 + k)) = true := by decide +kernel
theorem xi_o131 : ∀ pc, pc < xm_n 131 → xi_chk (xm_c 131) pc (xi_t 131 pc) = true := xi_r (hi := 67) 27 (xi_r (hi := 40) 40 (lt_0 (p := fun pc => xi_chk (xm_c 131) pc (xi_t 131 pc) = true)) xi_o131_0 rfl) xi_o131_40 rfl
theorem xi_o132 : ∀ pc, pc < xm_n 132 → xi_chk (xm_c 132) pc (xi_t 132 pc) = true := by decide +kernel
theorem xi_o133 : ∀ pc, pc < xm_n 133 → xi_chk (xm_c 133) pc (xi_t 133 pc) = true := by decide +kernel
theorem xi_o134_0 : ∀ k, k < 40 → xi_chk (xm_c 134) (0 + k) (xi_t 134 (0 + k)) = true := by decide +kernel
theorem xi_o134_40 : ∀ k, k < 37 → xi_chk (xm_c 134) (40 + k) (xi_t 134 (40 + k)) = true := by decide +kernel
theorem xi_o134 : ∀ pc, pc < xm_n 134 → xi_chk (xm_c 134) pc (xi_t 134 pc) = true := xi_r (hi := 77) 37 (xi_r (hi := 40) 40 (lt_0 (p := fun pc => xi_chk (xm_c 134) pc (xi_t 134 pc) = true)) xi_o134_0 rfl) xi_o134_40 rfl
theorem xi_o135 : ∀ pc, pc < xm_n 135 → xi_chk (xm_c 135) pc (xi_t 135 pc) = true := by decide +kernel
theorem xi_o136_0 : ∀ k, k < 40 → xi_chk (xm_c 136) (0 + k) (xi_t 136 (0 + k)) = true := by decide +kernel
theorem xi_o136_40 : ∀ k, k < 40 → xi_chk (xm_c 136) (40 + k) (xi_t 136 (40 + k)) = true := by decide +kernel
theorem xi_o136_80 : ∀ k, k < 40 → xi_chk (xm_c 136) (80 + k) (xi_t 136 (80 + k)) = true := by decide +kernel
theorem xi_o136_120 : ∀ k, k < 40 → xi_chk (xm_c 136) (120 + k) (xi_t 136 (120 + k)) = true := by decide +kernel
theorem xi_o136_160 : ∀ k, k < 5 → xi_chk (xm_c 136) (160 + k) (xi_t 136 (160 + k)) = true := by decide +kernel
theorem xi_o136 : ∀ pc, pc < xm_n 136 → xi_chk (xm_c 136) pc (xi_t 136 pc) = true := xi_r (hi := 165) 5 (xi_r (hi := 160) 40 (xi_r (hi := 120) 40 (xi_r (hi := 80) 40 (xi_r (hi := 40) 40 (lt_0 (p := fun pc => xi_chk (xm_c 136) pc (xi_t 136 pc) = true)) xi_o136_0 rfl) xi_o136_40 rfl) xi_o136_80 rfl) xi_o136_120 rfl) xi_o136_160 rfl
theorem xi_o137_0 : ∀ k, k < 40 → xi_chk (xm_c 137) (0 + k) (xi_t 137 (0 + k)) = true := by decide +kernel
theorem xi_o137_40 : ∀ k, k < 23 → xi_chk (xm_c 137) (40 + k) (xi_t 137 (40 + k)) = true := by decide +kernel
theorem xi_o137 : ∀ pc, pc < xm_n 137 → xi_chk (xm_c 137) pc (xi_t 137 pc) = true := xi_r (hi := 63) 23 (xi_r (hi := 40) 40 (lt_0 (p := fun pc => xi_chk (xm_c 137) pc (xi_t 137 pc) = true)) xi_o137_0 rfl) xi_o137_40 rfl
theorem xi_o138 : ∀ pc, pc < xm_n 138 → xi_chk (xm_c 138) pc (xi_t 138 pc) = true := by decide +kernel
theorem xi_o139_0 : ∀ k, k < 40 → xi_chk (xm_c 139) (0 + k) (xi_t 139 (0 + k)) = true := by decide +kernel
theorem xi_o139_40 : ∀ k, k < 40 → xi_chk (xm_c 139) (40 + k) (xi_t 139 (40 + k)) = true := by decide +kernel
theorem xi_o139_80 : ∀ k, k < 40 → xi_chk (xm_c 139) (80 + k) (xi_t 139 (80 + k)) = true := by decide +kernel
theorem xi_o139_120 : ∀ k, k < 14 → xi_chk (xm_c 139) (120 + k) (xi_t 139 (120 + k)) = true := by decide +kernel
theorem xi_o139 : ∀ pc, pc < xm_n 139 → xi_chk (xm_c 139) pc (xi_t 139 pc) = true := xi_r (hi := 134) 14 (xi_r (hi := 120) 40 (xi_r (hi := 80) 40 (xi_r (hi := 40) 40 (lt_0 (p := fun pc => xi_chk (xm_c 139) pc (xi_t 139 pc) = true)) xi_o139_0 rfl) xi_o139_40 rfl) xi_o139_80 rfl) xi_o139_120 rfl
theorem xi_o140 : ∀ pc, pc < xm_n 140 → xi_chk (xm_c 140) pc (xi_t 140 pc) = true := by decide +kernel
theorem xi_o141 : ∀ pc, pc < xm_n 141 → xi_chk (xm_c 141) pc (xi_t 141 pc) = true := by decide +kernel
theorem xi_o142 : ∀ pc, pc < xm_n 142 → xi_chk (xm_c 142) pc (xi_t 142 pc) = true := by decide +kernel
theorem xi_o143 : ∀ pc, pc < xm_n 143 → xi_chk (xm_c 143) pc (xi_t 143 pc) = true := by decide +kernel
theorem xi_o144 : ∀ pc, pc < xm_n 144 → xi_chk (xm_c 144) pc (xi_t 144 pc) = true := by decide +kernel
theorem xi_o145 : ∀ pc, pc < xm_n 145 → xi_chk (xm_c 145) pc (xi_t 145 pc) = true := by decide +kernel
theorem xi_o146 : ∀ pc, pc < xm_n 146 → xi_chk (xm_c 146) pc (xi_t 146 pc) = true := by decide +kernel
theorem xi_o147 : ∀ pc, pc < xm_n 147 → xi_chk (xm_c 147) pc (xi_t 147 pc) = true := by decide +kernel
theorem xi_o148_0 : ∀ k, k < 40 → xi_chk (xm_c 148) (0 + k) (xi_t 148 (0 + k)) = true := by decide +kernel
theorem xi_o148_40 : ∀ k, k < 40 → xi_chk (xm_c 148) (40 + k) (xi_t 148 (40 + k)) = true := by decide +kernel
theorem xi_o148_80 : ∀ k, k < 40 → xi_chk (xm_c 148) (80 + k) (xi_t 148 (80 + k)) = true := by decide +kernel
theorem xi_o148_120 : ∀ k, k < 40 → xi_chk (xm_c 148) (120 + k) (xi_t 148 (120 + k)) = true := by decide +kernel
theorem xi_o148_160 : ∀ k, k < 40 → xi_chk (xm_c 148) (160 + k) (xi_t 148 (160 + k)) = true := by decide +kernel
theorem xi_o148_200 : ∀ k, k < 40 → xi_chk (xm_c 148) (200 + k) (xi_t 148 (200 + k)) = true := by decide +kernel
theorem xi_o148_240 : ∀ k, k < 40 → xi_chk (xm_c 148) (240 + k) (xi_t 148 (240 + k)) = true := by decide +kernel
theorem xi_o148_280 : ∀ k, k < 40 → xi_chk (xm_c 148) (280 + k) (xi_t 148 (280 + k)) = true := by decide +kernel
theorem xi_o148_320 : ∀ k, k < 9 → xi_chk (xm_c 148) (320 + k) (xi_t 148 (320 + k)) = true := by decide +kernel
theorem xi_o148 : ∀ pc, pc < xm_n 148 → xi_chk (xm_c 148) pc (xi_t 148 pc) = true := xi_r (hi := 329) 9 (xi_r (hi := 320) 40 (xi_r (hi := 280) 40 (xi_r (hi := 240) 40 (xi_r (hi := 200) 40 (xi_r (hi := 160) 40 (xi_r (hi := 120) 40 (xi_r (hi := 80) 40 (xi_r (hi := 40) 40 (lt_0 (p := fun pc => xi_chk (xm_c 148) pc (xi_t 148 pc) = true)) xi_o148_0 rfl) xi_o148_40 rfl) xi_o148_80 rfl) xi_o148_120 rfl) xi_o148_160 rfl) xi_o148_200 rfl) xi_o148_240 rfl) xi_o148_280 rfl) xi_o148_320 rfl
theorem xi_o149 : ∀ pc, pc < xm_n 149 → xi_chk (xm_c 149) pc (xi_t 149 pc) = true := by decide +kernel
theorem xi_o150_0 : ∀ k, k < 40 → xi_chk (xm_c 150) (0 + k) (xi_t 150 (0 + k)) = true := by decide +kernel
theorem xi_o150_40 : ∀ k, k < 40 → xi_chk (xm_c 150) (40 + k) (xi_t 150 (40 + k)) = true := by decide +kernel
theorem xi_o150_80 : ∀ k, k < 23 → xi_chk (xm_c 150) (80 + k) (xi_t 150 (80 + k)) = true := by decide +kernel
theorem xi_o150 : ∀ pc, pc < xm_n 150 → xi_chk (xm_c 150) pc (xi_t 150 pc) = true := xi_r (hi := 103) 23 (xi_r (hi := 80) 40 (xi_r (hi := 40) 40 (lt_0 (p := fun pc => xi_chk (xm_c 150) pc (xi_t 150 pc) = true)) xi_o150_0 rfl) xi_o150_40 rfl) xi_o150_80 rfl
theorem xi_o151 : ∀ pc, pc < xm_n 151 → xi_chk (xm_c 151) pc (xi_t 151 pc) = true := by decide +kernel
theorem xi_o152 : ∀ pc, pc < xm_n 152 → xi_chk (xm_c 152) pc (xi_t 152 pc) = true := by decide +kernel
theorem xi_o153 : ∀ pc, pc < xm_n 153 → xi_chk (xm_c 153) pc (xi_t 153 pc) = true := by decide +kernel
theorem xi_o154 : ∀ pc, pc < xm_n 154 → xi_chk (xm_c 154) pc (xi_t 154 pc) = true := by decide +kernel
theorem xi_o155_0 : ∀ k, k < 40 → xi_chk (xm_c 155) (0 + k) (xi_t 155 (0 + k)) = true := by decide +kernel
theorem xi_o155_40 : ∀ k, k < 40 → xi_chk (xm_c 155) (40 + k) (xi_t 155 (40 + k)) = true := by decide +kernel
theorem xi_o155_80 : ∀ k, k < 32 → xi_chk (xm_c 155) (80 + k) (xi_t 155 (80 + k)) = true := by decide +kernel
theorem xi_o155 : ∀ pc, pc < xm_n 155 → xi_chk (xm_c 155) pc (xi_t 155 pc) = true := xi_r (hi := 112) 32 (xi_r (hi := 80) 40 (xi_r (hi := 40) 40 (lt_0 (p := fun pc => xi_chk (xm_c 155) pc (xi_t 155 pc) = true)) xi_o155_0 rfl) xi_o155_40 rfl) xi_o155_80 rfl
theorem xi_o156 : ∀ pc, pc < xm_n 156 → xi_chk (xm_c 156) pc (xi_t 156 pc) = true := by decide +kernel
theorem xi_o157_0 : ∀ k, k < 40 → xi_chk (xm_c 157) (0 + k) (xi_t 157 (0 + k)) = true := by decide +kernel
theorem xi_o157_40 : ∀ k, k < 21 → xi_chk (xm_c 157) (40 + k) (xi_t 157 (40 + k)) = true := by decide +kernel
theorem xi_o157 : ∀ pc, pc < xm_n 157 → xi_chk (xm_c 157) pc (xi_t 157 pc) = true := xi_r (hi := 61) 21 (xi_r (hi := 40) 40 (lt_0 (p := fun pc => xi_chk (xm_c 157) pc (xi_t 157 pc) = true)) xi_o157_0 rfl) xi_o157_40 rfl
