theorem xi_o1_0 : ∀ k, k < 40 → xi_chk (xm_c 1) (0 + k) (xi_t 1 (0 + k)) = true := by decide +kernel
theorem xi_o1_40 : ∀ k, k < 40 → xi_chk (xm_c 1) (40 + k) (xi_t 1 (40 + k)) = true := by decide +kernel
theorem xi_o1_80 : ∀ k, k < 18 → xi_chk (xm_c 1) (80 + k) (xi_t 1 (80 + k)) = true := by decide +kernel
theorem xi_o1 : ∀ pc, pc < xm_n 1 → xi_chk (xm_c 1) pc (xi_t 1 pc) = true := xi_r (hi := 98) 18 (xi_r (hi := 80) 40 (xi_r (hi := 40) 40 (lt_0 (p := fun pc => xi_chk (xm_c 1) pc (xi_t 1 pc) = true)) xi_o1_0 rfl) xi_o1_40 rfl) xi_o1_80 rfl
theorem xi_o2 : ∀ pc, pc < xm_n 2 → xi_chk (xm_c 2) pc (xi_t 2 pc) = true := by decide +kernel
theorem xi_o3 : ∀ pc, pc < xm_n 3 → xi_chk (xm_c 3) pc (xi_t 3 pc) = true := by decide +kernel
theorem xi_o4 : ∀ pc, pc < xm_n 4 → xi_chk (xm_c 4) pc (xi_t 4 pc) = true := by decide +kernel
theorem xi_o5 : ∀ pc, pc < xm_n 5 → xi_chk (xm_c 5) pc (xi_t 5 pc) = true := by decide +kernel
theorem xi_o6 : ∀ pc, pc < xm_n 6 → xi_chk (xm_c 6) pc (xi_t 6 pc) = true := by decide +kernel
theorem xi_o7 : ∀ pc, pc < xm_n 7 → xi_chk (xm_c 7) pc (xi_t 7 pc) = true := by decide +kernel
theorem xi_o8 : ∀ pc, pc < xm_n 8 → xi_chk (xm_c 8) pc (xi_t 8 pc) = true := by decide +kernel
theorem xi_o9_0 : ∀ k, k < 40 → xi_chk (xm_c 9) (0 + k) (xi_t 9 (0 + k)) = true := by decide +kernel
theorem xi_o9_40 : ∀ k, k < 40 → xi_chk (xm_c 9) (40 + k) (xi_t 9 (40 + k)) = true := by decide +kernel
theorem xi_o9_80 : ∀ k, k < 18 → xi_chk (xm_c 9) (80 + k) (xi_t 9 (80 + k)) = true := by decide +kernel
theorem xi_o9 : ∀ pc, pc < xm_n 9 → xi_chk (xm_c 9) pc (xi_t 9 pc) = true := xi_r (hi := 98) 18 (xi_r (hi := 80) 40 (xi_r (hi := 40) 40 (lt_0 (p := fun pc => xi_chk (xm_c 9) pc (xi_t 9 pc) = true)) xi_o9_0 rfl) xi_o9_40 rfl) xi_o9_80 rfl
theorem xi_o10 : ∀ pc, pc < xm_n 10 → xi_chk (xm_c 10) pc (xi_t 10 pc) = true := by decide +kernel
theorem xi_o11 : ∀ pc, pc < xm_n 11 → xi_chk (xm_c 11) pc (xi_t 11 pc) = true := by decide +kernel
theorem xi_o12 : ∀ pc, pc < xm_n 12 → xi_chk (xm_c 12) pc (xi_t 12 pc) = true := by decide +kernel
theorem xi_o13 : ∀ pc, pc < xm_n 13 → xi_chk (xm_c 13) pc (xi_t 13 pc) = true := by decide +kernel
theorem xi_o14 : ∀ pc, pc < xm_n 14 → xi_chk (xm_c 14) pc (xi_t 14 pc) = true := by decide +kernel
theorem xi_o15 : ∀ pc, pc < xm_n 15 → xi_chk (xm_c 15) pc (xi_t 15 pc) = true := by decide +kernel
theorem xi_o16 : ∀ pc, pc < xm_n 16 → xi_chk (xm_c 16) pc (xi_t 16 pc) = true := by decide +kernel
theorem xi_o17 : ∀ pc, pc < xm_n 17 → xi_chk (xm_c 17) pc (xi_t 17 pc) = true := by decide +kernel
theorem xi_o18 : ∀ pc, pc < xm_n 18 → xi_chk (xm_c 18) pc (xi_t 18 pc) = true := by decide +kernel
theorem xi_o19 : ∀ pc, pc < xm_n 19 → xi_chk (xm_c 19) pc (xi_t 19 pc) = true := by decide +kernel
theorem xi_o20 : ∀ pc, pc < xm_n 20 → xi_chk (xm_c 20) pc (xi_t 20 pc) = true := by decide +kernel
theorem xi_o21 : ∀ pc, pc < xm_n 21 → xi_chk (xm_c 21) pc (xi_t 21 pc) = true := by decide +kernel
theorem xi_o22 : ∀ pc, pc < xm_n 22 → xi_chk (xm_c 22) pc (xi_t 22 pc) = true := by decide +kernel
theorem xi_o23_0 : ∀ k, k < 40 → xi_chk (xm_c 23) (0 + k) (xi_t 23 (0 + k)) = true := by decide +kernel
theorem xi_o23_40 : ∀ k, k < 40 → xi_chk (xm_c 23) (40 + k) (xi_t 23 (40 + k)) = true := by decide +kernel
theorem xi_o23_80 : ∀ k, k < 15 → xi_chk (xm_c 23) (80 + k) (xi_t 23 (80 + k)) = true := by decide +kernel
theorem xi_o23 : ∀ pc, pc < xm_n 23 → xi_chk (xm_c 23) pc (xi_t 23 pc) = true := xi_r (hi := 95) 15 (xi_r (hi := 80) 40 (xi_r (hi := 40) 40 (lt_0 (p := fun pc => xi_chk (xm_c 23) pc (xi_t 23 pc) = true)) xi_o23_0 rfl) xi_o23_40 rfl) xi_o23_80 rfl
theorem xi_o24 : ∀ pc, pc < xm_n 24 → xi_chk (xm_c 24) pc (xi_t 24 pc) = true := by decide +kernel
theorem xi_o25 : ∀ pc, pc < xm_n 25 → xi_chk (xm_c 25) pc (xi_t 25 pc) = true := by decide +kernel
theorem xi_o26 : ∀ pc, pc < xm_n 26 → xi_chk (xm_c 26) pc (xi_t 26 pc) = true := by decide +kernel
theorem xi_o27 : ∀ pc, pc < xm_n 27 → xi_chk (xm_c 27) pc (xi_t 27 pc) = true := by decide +kernel
theorem xi_o28 : ∀ pc, pc < xm_n 28 → xi_chk (xm_c 28) pc (xi_t 28 pc) = true := by decide +kernel
theorem xi_o29 : ∀ pc, pc < xm_n 29 → xi_chk (xm_c 29) pc (xi_t 29 pc) = true := by decide +kernel
theorem xi_o30_0 : ∀ k, k < 40 → xi_chk (xm_c 30) (0 + k) (xi_t 30 (0 + k)) = true := by decide +kernel
theorem xi_o30_40 : ∀ k, k < 26 → xi_chk (xm_c 30) (40 + k) (xi_t 30 (40 + k)) = true := by decide +kernel
theorem xi_o30 : ∀ pc, pc < xm_n 30 → xi_chk (xm_c 30) pc (xi_t 30 pc) = true := xi_r (hi := 66) 26 (xi_r (hi := 40) 40 (lt_0 (p := fun pc => xi_chk (xm_c 30) pc (xi_t 30 pc) = true)) xi_o30_0 rfl) xi_o30_40 rfl
theorem xi_o31 : ∀ pc, pc < xm_n 31 → xi_chk (xm_c 31) pc (xi_t 31 pc) = true := by decide +kernel
theorem xi_o32 : ∀ pc, pc < xm_n 32 → xi_chk (xm_c 32) pc (xi_t 32 pc) = true := by decide +kernel
theorem xi_o33 : ∀ pc, pc < xm_n 33 → xi_chk (xm_c 33) pc (xi_t 33 pc) = true := by decide +kernel
theorem xi_o34 : ∀ pc, pc < xm_n 34 → xi_chk (xm_c 34) pc (xi_t 34 pc) = true := by decide +kernel
theorem xi_o35 : ∀ pc, pc < xm_n 35 → xi_chk (xm_c 35) pc (xi_t 35 pc) = true := by decide +kernel
theorem xi_o36 : ∀ pc, pc < xm_n 36 → xi_chk (xm_c 36) pc (xi_t 36 pc) = true := by decide +kernel
theorem xi_o37 : ∀ pc, pc < xm_n 37 → xi_chk (xm_c 37) pc (xi_t 37 pc) = true := by decide +kernel
theorem xi_o38 : ∀ pc, pc < xm_n 38 → xi_chk (xm_c 38) pc (xi_t 38 pc) = true := by decide +kernel
theorem xi_o39 : ∀ pc, pc < xm_n 39 → xi_chk (xm_c 39) pc (xi_t 39 pc) = true := by decide +kernel
theorem xi_o40 : ∀ pc, pc < xm_n 40 → xi_chk (xm_c 40) pc (xi_t 40 pc) = true := by decide +kernel
theorem xi_o41 : ∀ pc, pc < xm_n 41 → xi_chk (xm_c 41) pc (xi_t 41 pc) = true := by decide +kernel
theorem xi_o42 : ∀ pc, pc < xm_n 42 → xi_chk (xm_c 42) pc (xi_t 42 pc) = true := by decide +kernel
theorem xi_o43 : ∀ pc, pc < xm_n 43 → xi_chk (xm_c 43) pc (xi_t 43 pc) = true := by decide +kernel
theorem xi_o44 : ∀ pc, pc < xm_n 44 → xi_chk (xm_c 44) pc (xi_t 44 pc) = true := by decide +kernel
theorem xi_o45 : ∀ pc, pc < xm_n 45 → xi_chk (xm_c 45) pc (xi_t 45 pc) = true := by decide +kernel
theorem xi_o46_0 : ∀ k, k < 40 → xi_chk (xm_c 46) (0 + k) (xi_t 46 (0 + k)) = true := by decide +kernel
theorem xi_o46_40 : ∀ k, k < 38 → xi_chk (xm_c 46) (40 + k) (xi_t 46 (40 + k)) = true := by decide +kernel
theorem xi_o46 : ∀ pc, pc < xm_n 46 → xi_chk (xm_c 46) pc (xi_t 46 pc) = true := xi_r (hi := 78) 38 (xi_r (hi := 40) 40 (lt_0 (p := fun pc => xi_chk (xm_c 46) pc (xi_t 46 pc) = true)) xi_o46_0 rfl) xi_o46_40 rfl
theorem xi_o47 : ∀ pc, pc < xm_n 47 → xi_chk (xm_c 47) pc (xi_t 47 pc) = true := by decide +kernel
theorem xi_o48 : ∀ pc, pc < xm_n 48 → xi_chk (xm_c 48) pc (xi_t 48 pc) = true := by decide +kernel
theorem xi_o49 : ∀ pc, pc < xm_n 49 → xi_chk (xm_c 49) pc (xi_t 49 pc) = true := by decide +kernel
theorem xi_o50 : ∀ pc, pc < xm_n 50 → xi_chk (xm_c 50) pc (xi_t 50 pc) = true := by decide +kernel
theorem xi_o51 : ∀ pc, pc < xm_n 51 → xi_chk (xm_c 51) pc (xi_t 51 pc) = true := by decide +kernel
theorem xi_o52 : ∀ pc, pc < xm_n 52 → xi_chk (xm_c 52) pc (xi_t 52 pc) = true := by decide +kernel
theorem xi_o53 : ∀ pc, pc < xm_n 53 → xi_chk (xm_c 53) pc (xi_t 53 pc) = true := by decide +kernel
theorem xi_o54 : ∀ pc, pc < xm_n 54 → xi_chk (xm_c 54) pc (xi_t 54 pc) = true := by decide +kernel
theorem xi_o55 : ∀ pc, pc < xm_n 55 → xi_chk (xm_c 55) pc (xi_t 55 pc) = true := by decide +kernel
theorem xi_o56 : ∀ pc, pc < xm_n 56 → xi_chk (xm_c 56) pc (xi_t 56 pc) = true := by decide +kernel
theorem xi_o57 : ∀ pc, pc < xm_n 57 → xi_chk (xm_c 57) pc (xi_t 57 pc) = true := by decide +kernel
theorem xi_o58 : ∀ pc, pc < xm_n 58 → xi_chk (xm_c 58) pc (xi_t 58 pc) = true := by decide +kernel
theorem xi_o59 : ∀ pc, pc < xm_n 59 → xi_chk (xm_c 59) pc (xi_t 59 pc) = true := by decide +kernel
theorem xi_o60 : ∀ pc, pc < xm_n 60 → xi_chk (xm_c 60) pc (xi_t 60 pc) = true := by decide +kernel
theorem xi_o61 : ∀ pc, pc < xm_n 61 → xi_chk (xm_c 61) pc (xi_t 61 pc) = true := by decide +kernel
theorem xi_o62 : ∀ pc, pc < xm_n 62 → xi_chk (xm_c 62) pc (xi_t 62 pc) = true := by decide +kernel
theorem xi_o63 : ∀ pc, pc < xm_n 63 → xi_chk (xm_c 63) pc (xi_t 63 pc) = true := by decide +kernel
theorem xi_o64 : ∀ pc, pc < xm_n 64 → xi_chk (xm_c 64) pc (xi_t 64 pc) = true := by decide +kernel
theorem xi_o65 : ∀ pc, pc < xm_n 65 → xi_chk (xm_c 65) pc (xi_t 65 pc) = true := by decide +kernel
theorem xi_o66 : ∀ pc, pc < xm_n 66 → xi_chk (xm_c 66) pc (xi_t 66 pc) = true := by decide +kernel
theorem xi_o67 : ∀ pc, pc < xm_n 67 → xi_chk (xm_c 67) pc (xi_t 67 pc) = true := by decide +kernel
theorem xi_o68 : ∀ pc, pc < xm_n 68 → xi_chk (xm_c 68) pc (xi_t 68 pc) = true := by decide +kernel
theorem xi_o69_0 : ∀ k, k < 40 → xi_chk (xm_c 69) (0 + k) (xi_t 69 (0 + k)) = true := by decide +kernel
theorem xi_o69_40 : ∀ k, k < 37 → xi_chk (xm_c 69) (40 + k) (xi_t 69 (40 + k)) = true := by decide +kernel
theorem xi_o69 : ∀ pc, pc < xm_n 69 → xi_chk (xm_c 69) pc (xi_t 69 pc) = true := xi_r (hi := 77) 37 (xi_r (hi := 40) 40 (lt_0 (p := fun pc => xi_chk (xm_c 69) pc (xi_t 69 pc) = true)) xi_o69_0 rfl) xi_o69_40 rfl
theorem xi_o70 : ∀ pc, pc < xm_n 70 → xi_chk (xm_c 70) pc (xi_t 70 pc) = true := by decide +kernel
theorem xi_o71 : ∀ pc, pc < xm_n 71 → xi_chk (xm_c 71) pc (xi_t 71 pc) = true := by decide +kernel
theorem xi_o72 : ∀ pc, pc < xm_n 72 → xi_chk (xm_c 72) pc (xi_t 72 pc) = true := by decide +kernel
theorem xi_o73 : ∀ pc, pc < xm_n 73 → xi_chk (xm_c 73) pc (xi_t 73 pc) = true := by decide +kernel
theorem xi_o74 : ∀ pc, pc < xm_n 74 → xi_chk (xm_c 74) pc (xi_t 74 pc) = true := by decide +kernel
theorem xi_o75 : ∀ pc, pc < xm_n 75 → xi_chk (xm_c 75) pc (xi_t 75 pc) = true := by decide +kernel
theorem xi_o76 : ∀ pc, pc < xm_n 76 → xi_chk (xm_c 76) pc (xi_t 76 pc) = true := by decide +kernel
theorem xi_o77 : ∀ pc, pc < xm_n 77 → xi_chk (xm_c 77) pc (xi_t 77 pc) = true := by decide +kernel
theorem xi_o78 : ∀ pc, pc < xm_n 78 → xi_chk (xm_c 78) pc (xi_t 78 pc) = true := by decide +kernel
theorem xi_o79 : ∀ pc, pc < xm_n 79 → xi_chk (xm_c 79) pc (xi_t 79 pc) = true := by decide +kernel
theorem xi_o80 : ∀ pc, pc < xm_n 80 → xi_chk (xm_c 80) pc (xi_t 80 pc) = true := by decide +kernel
theorem xi_o81 : ∀ pc, pc < xm_n 81 → xi_chk (xm_c 81) pc (xi_t 81 pc) = true := by decide +kernel
theorem xi_o82 : ∀ pc, pc < xm_n 82 → xi_chk (xm_c 82) pc (xi_t 82 pc) = true := by decide +kernel
theorem xi_o83 : ∀ pc, pc < xm_n 83 → xi_chk (xm_c 83) pc (xi_t 83 pc) = true := by decide +kernel
theorem xi_o84 : ∀ pc, pc < xm_n 84 → xi_chk (xm_c 84) pc (xi_t 84 pc) = true := by decide +kernel
theorem xi_o85 : ∀ pc, pc < xm_n 85 → xi_chk (xm_c 85) pc (xi_t 85 pc) = true := by decide +kernel
theorem xi_o86 : ∀ pc, pc < xm_n 86 → xi_chk (xm_c 86) pc (xi_t 86 pc) = true := by decide +kernel
theorem xi_o87 : ∀ pc, pc < xm_n 87 → xi_chk (xm_c 87) pc (xi_t 87 pc) = true := by decide +kernel
theorem xi_o88 : ∀ pc, pc < xm_n 88 → xi_chk (xm_c 88) pc (xi_t 88 pc) = true := by decide +kernel
theorem xi_o89 : ∀ pc, pc < xm_n 89 → xi_chk (xm_c 89) pc (xi_t 89 pc) = true := by decide +kernel
theorem xi_o90 : ∀ pc, pc < xm_n 90 → xi_chk (xm_c 90) pc (xi_t 90 pc) = true := by decide +kernel
theorem xi_o91_0 : ∀ k, k < 40 → xi_chk (xm_c 91) (0 + k) (xi_t 91 (0 + k)) = true := by decide +kernel
theorem xi_o91_40 : ∀ k, k < 40 → xi_chk (xm_c 91) (40 + k) (xi_t 91 (40 + k)) = true := by decide +kernel
theorem xi_o91_80 : ∀ k, k < 25 → xi_chk (xm_c 91) (80 + k) (xi_t 91 (80 + k)) = true := by decide +kernel
theorem xi_o91 : ∀ pc, pc < xm_n 91 → xi_chk (xm_c 91) pc (xi_t 91 pc) = true := xi_r (hi := 105) 25 (xi_r (hi := 80) 40 (xi_r (hi := 40) 40 (lt_0 (p := fun pc => xi_chk (xm_c 91) pc (xi_t 91 pc) = true)) xi_o91_0 rfl) xi_o91_40 rfl) xi_o91_80 rfl
theorem xi_o92 : ∀ pc, pc < xm_n 92 → xi_chk (xm_c 92) pc (xi_t 92 pc) = true := by decide +kernel
theorem xi_o93_0 : ∀ k, k < 40 → xi_chk (xm_c 93) (0 + k) (xi_t 93 (0 + k)) = true := by decide +kernel
theorem xi_o93_40 : ∀ k, k < 40 → xi_chk (xm_c 93) (40 + k) (xi_t 93 (40 + k)) = true := by decide +kernel
theorem xi_o93_80 : ∀ k, k < 32 → xi_chk (xm_c 93) (80 + k) (xi_t 93 (80 + k)) = true := by decide +kernel
theorem xi_o93 : ∀ pc, pc < xm_n 93 → xi_chk (xm_c 93) pc (xi_t 93 pc) = true := xi_r (hi := 112) 32 (xi_r (hi := 80) 40 (xi_r (hi := 40) 40 (lt_0 (p := fun pc => xi_chk (xm_c 93) pc (xi_t 93 pc) = true)) xi_o93_0 rfl) xi_o93_40 rfl) xi_o93_80 rfl
theorem xi_o94 : ∀ pc, pc < xm_n 94 → xi_chk (xm_c 94) pc (xi_t 94 pc) = true := by decide +kernel
theorem xi_o95_0 : ∀ k, k < 40 → xi_chk (xm_c 95) (0 + k) (xi_t 95 (0 + k)) = true := by decide +kernel
theorem xi_o95_40 : ∀ k, k < 40 → xi_chk (xm_c 95) (40 + k) (xi_t 95 (40 + k)) = true := by decide +kernel
theorem xi_o95_80 : ∀ k, k < 29 → xi_chk (xm_c 95) (80 + k) (xi_t 95 (80 + k)) = true := by decide +kernel
theorem xi_o95 : ∀ pc, pc < xm_n 95 → xi_chk (xm_c 95) pc (xi_t 95 pc) = true := xi_r (hi := 109) 29 (xi_r (hi := 80) 40 (xi_r (hi := 40) 40 (lt_0 (p := fun pc => xi_chk (xm_c 95) pc (xi_t 95 pc) = true)) xi_o95_0 rfl) xi_o95_40 rfl) xi_o95_80 rfl
theorem xi_o96_0 : ∀ k, k < 40 → xi_chk (xm_c 96) (0 + k) (xi_t 96 (0 + k)) = true := by decide +kernel
theorem xi_o96_40 : ∀ k, k < 40 → xi_chk (xm_c 96) (40 + k) (xi_t 96 (40 + k)) = true := by decide +kernel
theorem xi_o96_80 : ∀ k, k < 28 → xi_chk (xm_c 96) (80 + k) (xi_t 96 (80 + k)) = true := by decide +kernel
theorem xi_o96 : ∀ pc, pc < xm_n 96 → xi_chk (xm_c 96) pc (xi_t 96 pc) = true := xi_r (hi := 108) 28 (xi_r (hi := 80) 40 (xi_r (hi := 40) 40 (lt_0 (p := fun pc => xi_chk (xm_c 96) pc (xi_t 96 pc) = true)) xi_o96_0 rfl) xi_o96_40 rfl) xi_o96_80 rfl
theorem xi_o97_0 : ∀ k, k < 40 → xi_chk (xm_c 97) (0 + k) (xi_t 97 (0 + k)) = true := by decide +kernel
theorem xi_o97_40 : ∀ k, k < 40 → xi_chk (xm_c 97) (40 + k) (xi_t 97 (40 + k)) = true := by decide +kernel
theorem xi_o97_80 : ∀ k, k < 8 → xi_chk (xm_c 97) (80 + k) (xi_t 97 (80 + k)) = true := by decide +kernel
theorem xi_o97 : ∀ pc, pc < xm_n 97 → xi_chk (xm_c 97) pc (xi_t 97 pc) = true := xi_r (hi := 88) 8 (xi_r (hi := 80) 40 (xi_r (hi := 40) 40 (lt_0 (p := fun pc => xi_chk (xm_c 97) pc (xi_t 97 pc) = true)) xi_o97_0 rfl) xi_o97_40 rfl) xi_o97_80 rfl
theorem xi_o98 : ∀ pc, pc < xm_n 98 → xi_chk (xm_c 98) pc (xi_t 98 pc) = true := by decide +kernel
theorem xi_o99_0 : ∀ k, k < 40 → xi_chk (xm_c 99) (0 + k) (xi_t 99 (0 + k)) = true := by decide +kernel
theorem xi_o99_40 : ∀ k, k < 25 → xi_chk (xm_c 99) (40 + k) (xi_t 99 (40 + k)) = true := by decide +kernel
theorem xi_o99 : ∀ pc, pc < xm_n 99 → xi_chk (xm_c 99) pc (xi_t 99 pc) = true := xi_r (hi := 65) 25 (xi_r (hi := 40) 40 (lt_0 (p := fun pc => xi_chk (xm_c 99) pc (xi_t 99 pc) = true)) xi_o99_0 rfl) xi_o99_40 rfl
theorem xi_o100 : ∀ pc, pc < xm_n 100 → xi_chk (xm_c 100) pc (xi_t 100 pc) = true := by decide +kernel
theorem xi_o101 : ∀ pc, pc < xm_n 101 → xi_chk (xm_c 101) pc (xi_t 101 pc) = true := by decide +kernel
theorem xi_o102 : ∀ pc, pc < xm_n 102 → xi_chk (xm_c 102) pc (xi_t 102 pc) = true := by decide +kernel
theorem xi_o103_0 : ∀ k, k < 40 → xi_chk (xm_c 103) (0 + k) (xi_t 103 (0 + k)) = true := by decide +kernel
theorem xi_o103_40 : ∀ k, k < 40 → xi_chk (xm_c 103) (40 + k) (xi_t 103 (40 + k)) = true := by decide +kernel
theorem xi_o103_80 : ∀ k, k < 1 → xi_chk (xm_c 103) (80 + k) (xi_t 103 (80 + k)) = true := by decide +kernel
theorem xi_o103 : ∀ pc, pc < xm_n 103 → xi_chk (xm_c 103) pc (xi_t 103 pc) = true := xi_r (hi := 81) 1 (xi_r (hi := 80) 40 (xi_r (hi := 40) 40 (lt_0 (p := fun pc => xi_chk (xm_c 103) pc (xi_t 103 pc) = true)) xi_o103_0 rfl) xi_o103_40 rfl) xi_o103_80 rfl
theorem xi_o104_0 : ∀ k, k < 40 → xi_chk (xm_c 104) (0 + k) (xi_t 104 (0 + k)) = true := by decide +kernel
theorem xi_o104_40 : ∀ k, k < 40 → xi_chk (xm_c 104) (40 + k) (xi_t 104 (40 + k)) = true := by decide +kernel
theorem xi_o104_80 : ∀ k, k < 4 → xi_chk (xm_c 104) (80 + k) (xi_t 104 (80 + k)) = true := by decide +kernel
theorem xi_o104 : ∀ pc, pc < xm_n 104 → xi_chk (xm_c 104) pc (xi_t 104 pc) = true := xi_r (hi := 84) 4 (xi_r (hi := 80) 40 (xi_r (hi := 40) 40 (lt_0 (p := fun pc => xi_chk (xm_c 104) pc (xi_t 104 pc) = true)) xi_o104_0 rfl) xi_o104_40 rfl) xi_o104_80 rfl
