set_option maxRecDepth 100000 in
theorem s_okm0 : s_okM s_m0 := ⟨by decide +kernel, by decide +kernel, s_wAt_mem (p := 144) (by decide +kernel), s_d0, by decide +kernel, by decide +kernel, s_wAt_mem (p := 114) (by decide +kernel), by decide +kernel, by decide +kernel⟩
set_option maxRecDepth 100000 in
theorem s_okm1 : s_okM s_m1 := ⟨by decide +kernel, by decide +kernel, s_wAt_mem (p := 152) (by decide +kernel), s_d1, by decide +kernel, by decide +kernel, s_wAt_mem (p := 115) (by decide +kernel), by decide +kernel, by decide +kernel⟩
set_option maxRecDepth 100000 in
theorem s_okm2 : s_okM s_m2 := ⟨by decide +kernel, by decide +kernel, s_wAt_mem (p := 211) (by decide +kernel), s_d2, by decide +kernel, by decide +kernel, s_wAt_mem (p := 116) (by decide +kernel), by decide +kernel, by decide +kernel⟩
set_option maxRecDepth 100000 in
theorem s_okm3 : s_okM s_m3 := ⟨by decide +kernel, by decide +kernel, s_wAt_mem (p := 216) (by decide +kernel), s_d3, by decide +kernel, by decide +kernel, s_wAt_mem (p := 116) (by decide +kernel), by decide +kernel, by decide +kernel⟩
set_option maxRecDepth 100000 in
theorem s_okm4 : s_okM s_m4 := ⟨by decide +kernel, by decide +kernel, s_wAt_mem (p := 219) (by decide +kernel), s_d4, by decide +kernel, by decide +kernel, s_wAt_mem (p := 117) (by decide +kernel), by decide +kernel, by decide +kernel⟩
set_option maxRecDepth 100000 in
theorem s_okm5 : s_okM s_m5 := ⟨by decide +kernel, by decide +kernel, s_wAt_mem (p := 297) (by decide +kernel), s_d5, by decide +kernel, by decide +kernel, s_wAt_mem (p := 118) (by decide +kernel), by decide +kernel, by decide +kernel⟩
set_option maxRecDepth 100000 in
theorem s_okm6 : s_okM s_m6 := ⟨by decide +kernel, by decide +kernel, s_wAt_mem (p := 348) (by decide +kernel), s_d6, by decide +kernel, by decide +kernel, s_wAt_mem (p := 119) (by decide +kernel), by decide +kernel, by decide +kernel⟩
set_option maxRecDepth 100000 in
theorem s_okm7 : s_okM s_m7 := ⟨by decide +kernel, by decide +kernel, s_wAt_mem (p := 380) (by decide +kernel), s_d7, by decide +kernel, by decide +kernel, s_wAt_mem (p := 120) (by decide +kernel), by decide +kernel, by decide +kernel⟩
set_option maxRecDepth 100000 in
theorem s_okm8 : s_okM s_m8 := ⟨by decide +kernel, by decide +kernel, s_wAt_mem (p := 425) (by decide +kernel), s_d8, by decide +kernel, by decide +kernel, s_wAt_mem (p := 121) (by decide +kernel), by decide +kernel, by decide +kernel⟩
set_option maxRecDepth 100000 in
theorem s_okm9 : s_okM s_m9 := ⟨by decide +kernel, by decide +kernel, s_wAt_mem (p := 445) (by decide +kernel), s_d9, by decide +kernel, by decide +kernel, s_wAt_mem (p := 122) (by decide +kernel), by decide +kernel, by decide +kernel⟩
set_option maxRecDepth 100000 in
theorem s_okm10 : s_okM s_m10 := ⟨by decide +kernel, by decide +kernel, s_wAt_mem (p := 471) (by decide +kernel), s_d10, by decide +kernel, by decide +kernel, s_wAt_mem (p := 123) (by decide +kernel), by decide +kernel, by decide +kernel⟩
set_option maxRecDepth 100000 in
theorem s_okm11 : s_okM s_m11 := ⟨by decide +kernel, by decide +kernel, s_wAt_mem (p := 504) (by decide +kernel), s_d11, by decide +kernel, by decide +kernel, s_wAt_mem (p := 124) (by decide +kernel), by decide +kernel, by decide +kernel⟩
set_option maxRecDepth 100000 in
theorem s_okm12 : s_okM s_m12 := ⟨by decide +kernel, by decide +kernel, s_wAt_mem (p := 514) (by decide +kernel), s_d12, by decide +kernel, by decide +kernel, s_wAt_mem (p := 125) (by decide +kernel), by decide +kernel, by decide +kernel⟩
set_option maxRecDepth 100000 in
theorem s_okm13 : s_okM s_m13 := ⟨by decide +kernel, by decide +kernel, s_wAt_mem (p := 523) (by decide +kernel), s_d13, by decide +kernel, by decide +kernel, s_wAt_mem (p := 118) (by decide +kernel), by decide +kernel, by decide +kernel⟩
set_option maxRecDepth 100000 in
theorem s_okm14 : s_okM s_m14 := ⟨by decide +kernel, by decide +kernel, s_wAt_mem (p := 528) (by decide +kernel), s_d14, by decide +kernel, by decide +kernel, s_wAt_mem (p := 118) (by decide +kernel), by decide +kernel, by decide +kernel⟩
set_option maxRecDepth 100000 in
theorem s_okm15 : s_okM s_m15 := ⟨by decide +kernel, by decide +kernel, s_wAt_mem (p := 581) (by decide +kernel), s_d15, by decide +kernel, by decide +kernel, s_wAt_mem (p := 114) (by decide +kernel), by decide +kernel, by decide +kernel⟩
set_option maxRecDepth 100000 in
theorem s_okm16 : s_okM s_m16 := ⟨by decide +kernel, by decide +kernel, s_wAt_mem (p := 585) (by decide +kernel), s_d16, by decide +kernel, by decide +kernel, s_wAt_mem (p := 115) (by decide +kernel), by decide +kernel, by decide +kernel⟩
set_option maxRecDepth 100000 in
theorem s_okm17 : s_okM s_m17 := ⟨by decide +kernel, by decide +kernel, s_wAt_mem (p := 589) (by decide +kernel), s_d17, by decide +kernel, by decide +kernel, s_wAt_mem (p := 114) (by decide +kernel), by decide +kernel, by decide +kernel⟩
set_option maxRecDepth 100000 in
theorem s_okm18 : s_okM s_m18 := ⟨by decide +kernel, by decide +kernel, s_wAt_mem (p := 593) (by decide +kernel), s_d18, by decide +kernel, by decide +kernel, s_wAt_mem (p := 114) (by decide +kernel), by decide +kernel, by decide +kernel⟩
set_option maxRecDepth 100000 in
theorem s_okm19 : s_okM s_m19 := ⟨by decide +kernel, by decide +kernel, s_wAt_mem (p := 597) (by decide +kernel), s_d19, by decide +kernel, by decide +kernel, s_wAt_mem (p := 115) (by decide +kernel), by decide +kernel, by decide +kernel⟩
set_option maxRecDepth 100000 in
theorem s_okm20 : s_okM s_m20 := ⟨by decide +kernel, by decide +kernel, s_wAt_mem (p := 601) (by decide +kernel), s_d20, by decide +kernel, by decide +kernel, s_wAt_mem (p := 115) (by decide +kernel), by decide +kernel, by decide +kernel⟩
set_option maxRecDepth 100000 in
theorem s_okm22 : s_okM s_m22 := ⟨by decide +kernel, by decide +kernel, s_wAt_mem (p := 608) (by decide +kernel), s_d22, by decide +kernel, by decide +kernel, s_wAt_mem (p := 115) (by decide +kernel), by decide +kernel, by decide +kernel⟩
set_option maxRecDepth 100000 in
theorem s_okm23 : s_okM s_m23 := ⟨by decide +kernel, by decide +kernel, s_wAt_mem (p := 613) (by decide +kernel), s_d23, by decide +kernel, by decide +kernel, s_wAt_mem (p := 115) (by decide +kernel), by decide +kernel, by decide +kernel⟩
set_option maxRecDepth 100000 in
theorem s_okm24 : s_okM s_m24 := ⟨by decide +kernel, by decide +kernel, s_wAt_mem (p := 616) (by decide +kernel), s_d24, by decide +kernel, by decide +kernel, s_wAt_mem (p := 129) (by decide +kernel), by decide +kernel, by decide +kernel⟩
set_option maxRecDepth 100000 in
theorem s_okm25 : s_okM s_m25 := ⟨by decide +kernel, by decide +kernel, s_wAt_mem (p := 622) (by decide +kernel), s_d25, by decide +kernel, by decide +kernel, s_wAt_mem (p := 116) (by decide +kernel), by decide +kernel, by decide +kernel⟩
set_option maxRecDepth 100000 in
theorem s_okm26 : s_okM s_m26 := ⟨by decide +kernel, by decide +kernel, s_wAt_mem (p := 626) (by decide +kernel), s_d26, by decide +kernel, by decide +kernel, s_wAt_mem (p := 115) (by decide +kernel), by decide +kernel, by decide +kernel⟩
set_option maxRecDepth 100000 in
theorem s_okm27 : s_okM s_m27 := ⟨by decide +kernel, by decide +kernel, s_wAt_mem (p := 630) (by decide +kernel), s_d27, by decide +kernel, by decide +kernel, s_wAt_mem (p := 116) (by decide +kernel), by decide +kernel, by decide +kernel⟩
set_option maxRecDepth 100000 in
theorem s_okm28 : s_okM s_m28 := ⟨by decide +kernel, by decide +kernel, s_wAt_mem (p := 636) (by decide +kernel), s_d28, by decide +kernel, by decide +kernel, s_wAt_mem (p := 115) (by decide +kernel), by decide +kernel, by decide +kernel⟩
set_option maxRecDepth 100000 in
theorem s_okm29 : s_okM s_m29 := ⟨by decide +kernel, by decide +kernel, s_wAt_mem (p := 640) (by decide +kernel), s_d29, by decide +kernel, by decide +kernel, s_wAt_mem (p := 116) (by decide +kernel), by decide +kernel, by decide +kernel⟩
set_option maxRecDepth 100000 in
theorem s_okm30 : s_okM s_m30 := ⟨by decide +kernel, by decide +kernel, s_wAt_mem (p := 644) (by decide +kernel), s_d30, by decide +kernel, by decide +kernel, s_wAt_mem (p := 115) (by decide +kernel), by decide +kernel, by decide +kernel⟩
set_option maxRecDepth 100000 in
theorem s_okm31 : s_okM s_m31 := ⟨by decide +kernel, by decide +kernel, s_wAt_mem (p := 649) (by decide +kernel), s_d31, by decide +kernel, by decide +kernel, s_wAt_mem (p := 116) (by decide +kernel), by decide +kernel, by decide +kernel⟩
set_option maxRecDepth 100000 in
theorem s_okm32 : s_okM s_m32 := ⟨by decide +kernel, by decide +kernel, s_wAt_mem (p := 653) (by decide +kernel), s_d32, by decide +kernel, by decide +kernel, s_wAt_mem (p := 116) (by decide +kernel), by decide +kernel, by decide +kernel⟩
set_option maxRecDepth 100000 in
theorem s_okm33 : s_okM s_m33 := ⟨by decide +kernel, by decide +kernel, s_wAt_mem (p := 657) (by decide +kernel), s_d33, by decide +kernel, by decide +kernel, s_wAt_mem (p := 116) (by decide +kernel), by decide +kernel, by decide +kernel⟩
set_option maxRecDepth 100000 in
theorem s_okm34 : s_okM s_m34 := ⟨by decide +kernel, by decide +kernel, s_wAt_mem (p := 661) (by decide +kernel), s_d34, by decide +kernel, by decide +kernel, s_wAt_mem (p := 115) (by decide +kernel), by decide +kernel, by decide +kernel⟩
set_option maxRecDepth 100000 in
theorem s_okm35 : s_okM s_m35 := ⟨by decide +kernel, by decide +kernel, s_wAt_mem (p := 668) (by decide +kernel), s_d35, by decide +kernel, by decide +kernel, s_wAt_mem (p := 116) (by decide +kernel), by decide +kernel, by decide +kernel⟩
set_option maxRecDepth 100000 in
theorem s_okm36 : s_okM s_m36 := ⟨by decide +kernel, by decide +kernel, s_wAt_mem (p := 672) (by decide +kernel), s_d36, by decide +kernel, by decide +kernel, s_wAt_mem (p := 115) (by decide +kernel), by decide +kernel, by decide +kernel⟩
set_option maxRecDepth 100000 in
theorem s_okm37 : s_okM s_m37 := ⟨by decide +kernel, by decide +kernel, s_wAt_mem (p := 675) (by decide +kernel), s_d37, by decide +kernel, by decide +kernel, s_wAt_mem (p := 116) (by decide +kernel), by decide +kernel, by decide +kernel⟩
set_option maxRecDepth 100000 in
theorem s_okm38 : s_okM s_m38 := ⟨by decide +kernel, by decide +kernel, s_wAt_mem (p := 681) (by decide +kernel), s_d38, by decide +kernel, by decide +kernel, s_wAt_mem (p := 116) (by decide +kernel), by decide +kernel, by decide +kernel⟩
set_option maxRecDepth 100000 in
theorem s_okm39 : s_okM s_m39 := ⟨by decide +kernel, by decide +kernel, s_wAt_mem (p := 685) (by decide +kernel), s_d39, by decide +kernel, by decide +kernel, s_wAt_mem (p := 116) (by decide +kernel), by decide +kernel, by decide +kernel⟩
set_option maxRecDepth 100000 in
theorem s_okm40 : s_okM s_m40 := ⟨by decide +kernel, by decide +kernel, s_wAt_mem (p := 691) (by decide +kernel), s_d40, by decide +kernel, by decide +kernel, s_wAt_mem (p := 116) (by decide +kernel), by decide +kernel, by decide +kernel⟩
set_option maxRecDepth 100000 in
theorem s_okm41 : s_okM s_m41 := ⟨by decide +kernel, by decide +kernel, s_wAt_mem (p := 701) (by decide +kernel), s_d41, by decide +kernel, by decide +kernel, s_wAt_mem (p := 115) (by decide +kernel), by decide +kernel, by decide +kernel⟩
set_option maxRecDepth 100000 in
theorem s_okm42 : s_okM s_m42 := ⟨by decide +kernel, by decide +kernel, s_wAt_mem (p := 705) (by decide +kernel), s_d42, by decide +kernel, by decide +kernel, s_wAt_mem (p := 115) (by decide +kernel), by decide +kernel, by decide +kernel⟩
set_option maxRecDepth 100000 in
theorem s_okm43 : s_okM s_m43 := ⟨by decide +kernel, by decide +kernel, s_wAt_mem (p := 709) (by decide +kernel), s_d43, by decide +kernel, by decide +kernel, s_wAt_mem (p := 116) (by decide +kernel), by decide +kernel, by decide +kernel⟩
set_option maxRecDepth 100000 in
theorem s_okm44 : s_okM s_m44 := ⟨by decide +kernel, by decide +kernel, s_wAt_mem (p := 716) (by decide +kernel), s_d44, by decide +kernel, by decide +kernel, s_wAt_mem (p := 119) (by decide +kernel), by decide +kernel, by decide +kernel⟩
set_option maxRecDepth 100000 in
theorem s_okm45 : s_okM s_m45 := ⟨by decide +kernel, by decide +kernel, s_wAt_mem (p := 720) (by decide +kernel), s_d45, by decide +kernel, by decide +kernel, s_wAt_mem (p := 121) (by decide +kernel), by decide +kernel, by decide +kernel⟩
set_option maxRecDepth 100000 in
theorem s_okm46 : s_okM s_m46 := ⟨by decide +kernel, by decide +kernel, s_wAt_mem (p := 724) (by decide +kernel), s_d46, by decide +kernel, by decide +kernel, s_wAt_mem (p := 114) (by decide +kernel), by decide +kernel, by decide +kernel⟩
set_option maxRecDepth 100000 in
theorem s_okm47 : s_okM s_m47 := ⟨by decide +kernel, by decide +kernel, s_wAt_mem (p := 728) (by decide +kernel), s_d47, by decide +kernel, by decide +kernel, s_wAt_mem (p := 114) (by decide +kernel), by decide +kernel, by decide +kernel⟩
set_option maxRecDepth 100000 in
theorem s_okm48 : s_okM s_m48 := ⟨by decide +kernel, by decide +kernel, s_wAt_mem (p := 732) (by decide +kernel), s_d48, by decide +kernel, by decide +kernel, s_wAt_mem (p := 116) (by decide +kernel), by decide +kernel, by decide +kernel⟩
set_option maxRecDepth 100000 in
theorem s_okm49 : s_okM s_m49 := ⟨by decide +kernel, by decide +kernel, s_wAt_mem (p := 736) (by decide +kernel), s_d49, by decide +kernel, by decide +kernel, s_wAt_mem (p := 116) (by decide +kernel), by decide +kernel, by decide +kernel⟩
set_option maxRecDepth 100000 in
theorem s_okm50 : s_okM s_m50 := ⟨by decide +kernel, by decide +kernel, s_wAt_mem (p := 740) (by decide +kernel), s_d50, by decide +kernel, by decide +kernel, s_wAt_mem (p := 118) (by decide +kernel), by decide +kernel, by decide +kernel⟩
set_option maxRecDepth 100000 in
theorem s_okm51 : s_okM s_m51 := ⟨by decide +kernel, by decide +kernel, s_wAt_mem (p := 744) (by decide +kernel), s_d51, by decide +kernel, by decide +kernel, s_wAt_mem (p := 114) (by decide +kernel), by decide +kernel, by decide +kernel⟩
set_option maxRecDepth 100000 in
theorem s_okm52 : s_okM s_m52 := ⟨by decide +kernel, by decide +kernel, s_wAt_mem (p := 748) (by decide +kernel), s_d52, by decide +kernel, by decide +kernel, s_wAt_mem (p := 118) (by decide +kernel), by decide +kernel, by decide +kernel⟩
set_option maxRecDepth 100000 in
theorem s_okm53 : s_okM s_m53 := ⟨by decide +kernel, by decide +kernel, s_wAt_mem (p := 753) (by decide +kernel), s_d53, by decide +kernel, by decide +kernel, s_wAt_mem (p := 114) (by decide +kernel), by decide +kernel, by decide +kernel⟩
set_option maxRecDepth 100000 in
theorem s_okm54 : s_okM s_m54 := ⟨by decide +kernel, by decide +kernel, s_wAt_mem (p := 757) (by decide +kernel), s_d54, by decide +kernel, by decide +kernel, s_wAt_mem (p := 118) (by decide +kernel), by decide +kernel, by decide +kernel⟩
set_option maxRecDepth 100000 in
theorem s_okm55 : s_okM s_m55 := ⟨by decide +kernel, by decide +kernel, s_wAt_mem (p := 761) (by decide +kernel), s_d55, by decide +kernel, by decide +kernel, s_wAt_mem (p := 114) (by decide +kernel), by decide +kernel, by decide +kernel⟩
set_option maxRecDepth 100000 in
theorem s_okm56 : s_okM s_m56 := ⟨by decide +kernel, by decide +kernel, s_wAt_mem (p := 765) (by decide +kernel), s_d56, by decide +kernel, by decide +kernel, s_wAt_mem (p := 114) (by decide +kernel), by decide +kernel, by decide +kernel⟩
set_option maxRecDepth 100000 in
theorem s_okm57 : s_okM s_m57 := ⟨by decide +kernel, by decide +kernel, s_wAt_mem (p := 769) (by decide +kernel), s_d57, by decide +kernel, by decide +kernel, s_wAt_mem (p := 118) (by decide +kernel), by decide +kernel, by decide +kernel⟩
set_option maxRecDepth 100000 in
theorem s_okm58 : s_okM s_m58 := ⟨by decide +kernel, by decide +kernel, s_wAt_mem (p := 773) (by decide +kernel), s_d58, by decide +kernel, by decide +kernel, s_wAt_mem (p := 118) (by decide +kernel), by decide +kernel, by decide +kernel⟩
set_option maxRecDepth 100000 in
theorem s_okm59 : s_okM s_m59 := ⟨by decide +kernel, by decide +kernel, s_wAt_mem (p := 777) (by decide +kernel), s_d59, by decide +kernel, by decide +kernel, s_wAt_mem (p := 118) (by decide +kernel), by decide +kernel, by decide +kernel⟩
set_option maxRecDepth 100000 in
theorem s_okm60 : s_okM s_m60 := ⟨by decide +kernel, by decide +kernel, s_wAt_mem (p := 781) (by decide +kernel), s_d60, by decide +kernel, by decide +kernel, s_wAt_mem (p := 118) (by decide +kernel), by decide +kernel, by decide +kernel⟩
set_option maxRecDepth 100000 in
theorem s_okm61 : s_okM s_m61 := ⟨by decide +kernel, by decide +kernel, s_wAt_mem (p := 785) (by decide +kernel), s_d61, by decide +kernel, by decide +kernel, s_wAt_mem (p := 114) (by decide +kernel), by decide +kernel, by decide +kernel⟩
set_option maxRecDepth 100000 in
theorem s_okm62 : s_okM s_m62 := ⟨by decide +kernel, by decide +kernel, s_wAt_mem (p := 789) (by decide +kernel), s_d62, by decide +kernel, by decide +kernel, s_wAt_mem (p := 118) (by decide +kernel), by decide +kernel, by decide +kernel⟩
set_option maxRecDepth 100000 in
theorem s_okm63 : s_okM s_m63 := ⟨by decide +kernel, by decide +kernel, s_wAt_mem (p := 794) (by decide +kernel), s_d63, by decide +kernel, by decide +kernel, s_wAt_mem (p := 118) (by decide +kernel), by decide +kernel, by decide +kernel⟩
set_option maxRecDepth 100000 in
theorem s_okm64 : s_okM s_m64 := ⟨by decide +kernel, by decide +kernel, s_wAt_mem (p := 798) (by decide +kernel), s_d64, by decide +kernel, by decide +kernel, s_wAt_mem (p := 118) (by decide +kernel), by decide +kernel, by decide +kernel⟩
set_option maxRecDepth 100000 in
theorem s_okm65 : s_okM s_m65 := ⟨by decide +kernel, by decide +kernel, s_wAt_mem (p := 803) (by decide +kernel), s_d65, by decide +kernel, by decide +kernel, s_wAt_mem (p := 118) (by decide +kernel), by decide +kernel, by decide +kernel⟩
set_option maxRecDepth 100000 in
theorem s_okm66 : s_okM s_m66 := ⟨by decide +kernel, by decide +kernel, s_wAt_mem (p := 809) (by decide +kernel), s_d66, by decide +kernel, by decide +kernel, s_wAt_mem (p := 118) (by decide +kernel), by decide +kernel, by decide +kernel⟩
set_option maxRecDepth 100000 in
theorem s_okm67 : s_okM s_m67 := ⟨by decide +kernel, by decide +kernel, s_wAt_mem (p := 813) (by decide +kernel), s_d67, by decide +kernel, by decide +kernel, s_wAt_mem (p := 114) (by decide +kernel), by decide +kernel, by decide +kernel⟩
set_option maxRecDepth 100000 in
theorem s_okm68 : s_okM s_m68 := ⟨by decide +kernel, by decide +kernel, s_wAt_mem (p := 817) (by decide +kernel), s_d68, by decide +kernel, by decide +kernel, s_wAt_mem (p := 114) (by decide +kernel), by decide +kernel, by decide +kernel⟩
set_option maxRecDepth 100000 in
theorem s_okm69 : s_okM s_m69 := ⟨by decide +kernel, by decide +kernel, s_wAt_mem (p := 821) (by decide +kernel), s_d69, by decide +kernel, by decide +kernel, s_wAt_mem (p := 121) (by decide +kernel), by decide +kernel, by decide +kernel⟩
set_option maxRecDepth 100000 in
theorem s_okm70 : s_okM s_m70 := ⟨by decide +kernel, by decide +kernel, s_wAt_mem (p := 827) (by decide +kernel), s_d70, by decide +kernel, by decide +kernel, s_wAt_mem (p := 114) (by decide +kernel), by decide +kernel, by decide +kernel⟩
set_option maxRecDepth 100000 in
theorem s_okm71 : s_okM s_m71 := ⟨by decide +kernel, by decide +kernel, s_wAt_mem (p := 831) (by decide +kernel), s_d71, by decide +kernel, by decide +kernel, s_wAt_mem (p := 118) (by decide +kernel), by decide +kernel, by decide +kernel⟩
set_option maxRecDepth 100000 in
theorem s_okm72 : s_okM s_m72 := ⟨by decide +kernel, by decide +kernel, s_wAt_mem (p := 835) (by decide +kernel), s_d72, by decide +kernel, by decide +kernel, s_wAt_mem (p := 114) (by decide +kernel), by decide +kernel, by decide +kernel⟩
set_option maxRecDepth 100000 in
theorem s_okm73 : s_okM s_m73 := ⟨by decide +kernel, by decide +kernel, s_wAt_mem (p := 839) (by decide +kernel), s_d73, by decide +kernel, by decide +kernel, s_wAt_mem (p := 118) (by decide +kernel), by decide +kernel, by decide +kernel⟩
set_option maxRecDepth 100000 in
theorem s_okm74 : s_okM s_m74 := ⟨by decide +kernel, by decide +kernel, s_wAt_mem (p := 843) (by decide +kernel), s_d74, by decide +kernel, by decide +kernel, s_wAt_mem (p := 114) (by decide +kernel), by decide +kernel, by decide +kernel⟩
set_option maxRecDepth 100000 in
theorem s_okm75 : s_okM s_m75 := ⟨by decide +kernel, by decide +kernel, s_wAt_mem (p := 847) (by decide +kernel), s_d75, by decide +kernel, by decide +kernel, s_wAt_mem (p := 118) (by decide +kernel), by decide +kernel, by decide +kernel⟩
set_option maxRecDepth 100000 in
theorem s_okm76 : s_okM s_m76 := ⟨by decide +kernel, by decide +kernel, s_wAt_mem (p := 851) (by decide +kernel), s_d76, by decide +kernel, by decide +kernel, s_wAt_mem (p := 114) (by decide +kernel), by decide +kernel, by decide +kernel⟩
set_option maxRecDepth 100000 in
theorem s_okm77 : s_okM s_m77 := ⟨by decide +kernel, by decide +kernel, s_wAt_mem (p := 855) (by decide +kernel), s_d77, by decide +kernel, by decide +kernel, s_wAt_mem (p := 118) (by decide +kernel), by decide +kernel, by decide +kernel⟩
set_option maxRecDepth 100000 in
theorem s_okm78 : s_okM s_m78 := ⟨by decide +kernel, by decide +kernel, s_wAt_mem (p := 859) (by decide +kernel), s_d78, by decide +kernel, by decide +kernel, s_wAt_mem (p := 114) (by decide +kernel), by decide +kernel, by decide +kernel⟩
set_option maxRecDepth 100000 in
theorem s_okm79 : s_okM s_m79 := ⟨by decide +kernel, by decide +kernel, s_wAt_mem (p := 863) (by decide +kernel), s_d79, by decide +kernel, by decide +kernel, s_wAt_mem (p := 118) (by decide +kernel), by decide +kernel, by decide +kernel⟩
set_option maxRecDepth 100000 in
theorem s_okm80 : s_okM s_m80 := ⟨by decide +kernel, by decide +kernel, s_wAt_mem (p := 867) (by decide +kernel), s_d80, by decide +kernel, by decide +kernel, s_wAt_mem (p := 118) (by decide +kernel), by decide +kernel, by decide +kernel⟩
set_option maxRecDepth 100000 in
theorem s_okm81 : s_okM s_m81 := ⟨by decide +kernel, by decide +kernel, s_wAt_mem (p := 871) (by decide +kernel), s_d81, by decide +kernel, by decide +kernel, s_wAt_mem (p := 118) (by decide +kernel), by decide +kernel, by decide +kernel⟩
set_option maxRecDepth 100000 in
theorem s_okm82 : s_okM s_m82 := ⟨by decide +kernel, by decide +kernel, s_wAt_mem (p := 875) (by decide +kernel), s_d82, by decide +kernel, by decide +kernel, s_wAt_mem (p := 114) (by decide +kernel), by decide +kernel, by decide +kernel⟩
set_option maxRecDepth 100000 in
theorem s_okm83 : s_okM s_m83 := ⟨by decide +kernel, by decide +kernel, s_wAt_mem (p := 879) (by decide +kernel), s_d83, by decide +kernel, by decide +kernel, s_wAt_mem (p := 121) (by decide +kernel), by decide +kernel, by decide +kernel⟩
set_option maxRecDepth 100000 in
theorem s_okm84 : s_okM s_m84 := ⟨by decide +kernel, by decide +kernel, s_wAt_mem (p := 883) (by decide +kernel), s_d84, by decide +kernel, by decide +kernel, s_wAt_mem (p := 114) (by decide +kernel), by decide +kernel, by decide +kernel⟩
set_option maxRecDepth 100000 in
theorem s_okm85 : s_okM s_m85 := ⟨by decide +kernel, by decide +kernel, s_wAt_mem (p := 887) (by decide +kernel), s_d85, by decide +kernel, by decide +kernel, s_wAt_mem (p := 123) (by decide +kernel), by decide +kernel, by decide +kernel⟩
set_option maxRecDepth 100000 in
theorem s_okm86 : s_okM s_m86 := ⟨by decide +kernel, by decide +kernel, s_wAt_mem (p := 891) (by decide +kernel), s_d86, by decide +kernel, by decide +kernel, s_wAt_mem (p := 123) (by decide +kernel), by decide +kernel, by decide +kernel⟩
set_option maxRecDepth 100000 in
theorem s_okm87 : s_okM s_m87 := ⟨by decide +kernel, by decide +kernel, s_wAt_mem (p := 895) (by decide +kernel), s_d87, by decide +kernel, by decide +kernel, s_wAt_mem (p := 118) (by decide +kernel), by decide +kernel, by decide +kernel⟩
set_option maxRecDepth 100000 in
theorem s_okm88 : s_okM s_m88 := ⟨by decide +kernel, by decide +kernel, s_wAt_mem (p := 900) (by decide +kernel), s_d88, by decide +kernel, by decide +kernel, s_wAt_mem (p := 123) (by decide +kernel), by decide +kernel, by decide +kernel⟩
set_option maxRecDepth 100000 in
theorem s_okm89 : s_okM s_m89 := ⟨by decide +kernel, by decide +kernel, s_wAt_mem (p := 903) (by decide +kernel), s_d89, by decide +kernel, by decide +kernel, s_wAt_mem (p := 135) (by decide +kernel), by decide +kernel, by decide +kernel⟩
set_option maxRecDepth 100000 in
theorem s_okm91 : s_okM s_m91 := ⟨by decide +kernel, by decide +kernel, s_wAt_mem (p := 915) (by decide +kernel), s_d91, by decide +kernel, by decide +kernel, s_wAt_mem (p := 123) (by decide +kernel), by decide +kernel, by decide +kernel⟩
set_option maxRecDepth 100000 in
theorem s_okm92 : s_okM s_m92 := ⟨by decide +kernel, by decide +kernel, s_wAt_mem (p := 919) (by decide +kernel), s_d92, by decide +kernel, by decide +kernel, s_wAt_mem (p := 114) (by decide +kernel), by decide +kernel, by decide +kernel⟩
set_option maxRecDepth 100000 in
theorem s_okm93 : s_okM s_m93 := ⟨by decide +kernel, by decide +kernel, s_wAt_mem (p := 923) (by decide +kernel), s_d93, by decide +kernel, by decide +kernel, s_wAt_mem (p := 114) (by decide +kernel), by decide +kernel, by decide +kernel⟩
set_option maxRecDepth 100000 in
theorem s_okm94 : s_okM s_m94 := ⟨by decide +kernel, by decide +kernel, s_wAt_mem (p := 927) (by decide +kernel), s_d94, by decide +kernel, by decide +kernel, s_wAt_mem (p := 123) (by decide +kernel), by decide +kernel, by decide +kernel⟩
set_option maxRecDepth 100000 in
theorem s_okm95 : s_okM s_m95 := ⟨by decide +kernel, by decide +kernel, s_wAt_mem (p := 933) (by decide +kernel), s_d95, by decide +kernel, by decide +kernel, s_wAt_mem (p := 114) (by decide +kernel), by decide +kernel, by decide +kernel⟩
set_option maxRecDepth 100000 in
theorem s_okm96 : s_okM s_m96 := ⟨by decide +kernel, by decide +kernel, s_wAt_mem (p := 937) (by decide +kernel), s_d96, by decide +kernel, by decide +kernel, s_wAt_mem (p := 114) (by decide +kernel), by decide +kernel, by decide +kernel⟩
set_option maxRecDepth 100000 in
theorem s_okm97 : s_okM s_m97 := ⟨by decide +kernel, by decide +kernel, s_wAt_mem (p := 941) (by decide +kernel), s_d97, by decide +kernel, by decide +kernel, s_wAt_mem (p := 123) (by decide +kernel), by decide +kernel, by decide +kernel⟩
set_option maxRecDepth 100000 in
theorem s_okm98 : s_okM s_m98 := ⟨by decide +kernel, by decide +kernel, s_wAt_mem (p := 945) (by decide +kernel), s_d98, by decide +kernel, by decide +kernel, s_wAt_mem (p := 118) (by decide +kernel), by decide +kernel, by decide +kernel⟩
set_option maxRecDepth 100000 in
theorem s_okm99 : s_okM s_m99 := ⟨by decide +kernel, by decide +kernel, s_wAt_mem (p := 948) (by decide +kernel), s_d99, by decide +kernel, by decide +kernel, s_wAt_mem (p := 123) (by decide +kernel), by decide +kernel, by decide +kernel⟩
set_option maxRecDepth 100000 in
theorem s_okm100 : s_okM s_m100 := ⟨by decide +kernel, by decide +kernel, s_wAt_mem (p := 952) (by decide +kernel), s_d100, by decide +kernel, by decide +kernel, s_wAt_mem (p := 114) (by decide +kernel), by decide +kernel, by decide +kernel⟩
set_option maxRecDepth 100000 in
theorem s_okm101 : s_okM s_m101 := ⟨by decide +kernel, by decide +kernel, s_wAt_mem (p := 956) (by decide +kernel), s_d101, by decide +kernel, by decide +kernel, s_wAt_mem (p := 114) (by decide +kernel), by decide +kernel, by decide +kernel⟩
set_option maxRecDepth 100000 in
theorem s_okm102 : s_okM s_m102 := ⟨by decide +kernel, by decide +kernel, s_wAt_mem (p := 960) (by decide +kernel), s_d102, by decide +kernel, by decide +kernel, s_wAt_mem (p := 123) (by decide +kernel), by decide +kernel, by decide +kernel⟩
set_option maxRecDepth 100000 in
theorem s_okm103 : s_okM s_m103 := ⟨by decide +kernel, by decide +kernel, s_wAt_mem (p := 964) (by decide +kernel), s_d103, by decide +kernel, by decide +kernel, s_wAt_mem (p := 123) (by decide +kernel), by decide +kernel, by decide +kernel⟩
set_option maxRecDepth 100000 in
theorem s_okm104 : s_okM s_m104 := ⟨by decide +kernel, by decide +kernel, s_wAt_mem (p := 968) (by decide +kernel), s_d104, by decide +kernel, by decide +kernel, s_wAt_mem (p := 114) (by decide +kernel), by decide +kernel, by decide +kernel⟩
set_option maxRecDepth 100000 in
theorem s_okm105 : s_okM s_m105 := ⟨by decide +kernel, by decide +kernel, s_wAt_mem (p := 972) (by decide +kernel), s_d105, by decide +kernel, by decide +kernel, s_wAt_mem (p := 124) (by decide +kernel), by decide +kernel, by decide +kernel⟩
set_option maxRecDepth 100000 in
theorem s_okm106 : s_okM s_m106 := ⟨by decide +kernel, by decide +kernel, s_wAt_mem (p := 975) (by decide +kernel), s_d106, by decide +kernel, by decide +kernel, s_wAt_mem (p := 124) (by decide +kernel), by decide +kernel, by decide +kernel⟩
set_option maxRecDepth 100000 in
theorem s_okm107 : s_okM s_m107 := ⟨by decide +kernel, by decide +kernel, s_wAt_mem (p := 980) (by decide +kernel), s_d107, by decide +kernel, by decide +kernel, s_wAt_mem (p := 114) (by decide +kernel), by decide +kernel, by decide +kernel⟩
set_option maxRecDepth 100000 in
theorem s_okm108 : s_okM s_m108 := ⟨by decide +kernel, by decide +kernel, s_wAt_mem (p := 984) (by decide +kernel), s_d108, by decide +kernel, by decide +kernel, s_wAt_mem (p := 124) (by decide +kernel), by decide +kernel, by decide +kernel⟩
set_option maxRecDepth 100000 in
theorem s_okm109 : s_okM s_m109 := ⟨by decide +kernel, by decide +kernel, s_wAt_mem (p := 988) (by decide +kernel), s_d109, by decide +kernel, by decide +kernel, s_wAt_mem (p := 124) (by decide +kernel), by decide +kernel, by decide +kernel⟩
set_option maxRecDepth 100000 in
theorem s_okm110 : s_okM s_m110 := ⟨by decide +kernel, by decide +kernel, s_wAt_mem (p := 992) (by decide +kernel), s_d110, by decide +kernel, by decide +kernel, s_wAt_mem (p := 114) (by decide +kernel), by decide +kernel, by decide +kernel⟩
set_option maxRecDepth 100000 in
theorem s_okm111 : s_okM s_m111 := ⟨by decide +kernel, by decide +kernel, s_wAt_mem (p := 996) (by decide +kernel), s_d111, by decide +kernel, by decide +kernel, s_wAt_mem (p := 118) (by decide +kernel), by decide +kernel, by decide +kernel⟩
set_option maxRecDepth 100000 in
theorem s_okm112 : s_okM s_m112 := ⟨by decide +kernel, by decide +kernel, s_wAt_mem (p := 1000) (by decide +kernel), s_d112, by decide +kernel, by decide +kernel, s_wAt_mem (p := 118) (by decide +kernel), by decide +kernel, by decide +kernel⟩
set_option maxRecDepth 100000 in
theorem s_okm113 : s_okM s_m113 := ⟨by decide +kernel, by decide +kernel, s_wAt_mem (p := 1006) (by decide +kernel), s_d113, by decide +kernel, by decide +kernel, s_wAt_mem (p := 114) (by decide +kernel), by decide +kernel, by decide +kernel⟩
set_option maxRecDepth 100000 in
theorem s_okm114 : s_okM s_m114 := ⟨by decide +kernel, by decide +kernel, s_wAt_mem (p := 1010) (by decide +kernel), s_d114, by decide +kernel, by decide +kernel, s_wAt_mem (p := 114) (by decide +kernel), by decide +kernel, by decide +kernel⟩
set_option maxRecDepth 100000 in
theorem s_okm115 : s_okM s_m115 := ⟨by decide +kernel, by decide +kernel, s_wAt_mem (p := 1015) (by decide +kernel), s_d115, by decide +kernel, by decide +kernel, s_wAt_mem (p := 114) (by decide +kernel), by decide +kernel, by decide +kernel⟩
set_option maxRecDepth 100000 in
theorem s_okm116 : s_okM s_m116 := ⟨by decide +kernel, by decide +kernel, s_wAt_mem (p := 1020) (by decide +kernel), s_d116, by decide +kernel, by decide +kernel, s_wAt_mem (p := 114) (by decide +kernel), by decide +kernel, by decide +kernel⟩
set_option maxRecDepth 100000 in
theorem s_okm117 : s_okM s_m117 := ⟨by decide +kernel, by decide +kernel, s_wAt_mem (p := 1072) (by decide +kernel), s_d117, by decide +kernel, by decide +kernel, s_wAt_mem (p := 114) (by decide +kernel), by decide +kernel, by decide +kernel⟩
set_option maxRecDepth 100000 in
theorem s_okm118 : s_okM s_m118 := ⟨by decide +kernel, by decide +kernel, s_wAt_mem (p := 1079) (by decide +kernel), s_d118, by decide +kernel, by decide +kernel, s_wAt_mem (p := 114) (by decide +kernel), by decide +kernel, by decide +kernel⟩
set_option maxRecDepth 100000 in
theorem s_okm119 : s_okM s_m119 := ⟨by decide +kernel, by decide +kernel, s_wAt_mem (p := 1083) (by decide +kernel), s_d119, by decide +kernel, by decide +kernel, s_wAt_mem (p := 114) (by decide +kernel), by decide +kernel, by decide +kernel⟩
set_option maxRecDepth 100000 in
theorem s_okm120 : s_okM s_m120 := ⟨by decide +kernel, by decide +kernel, s_wAt_mem (p := 1087) (by decide +kernel), s_d120, by decide +kernel, by decide +kernel, s_wAt_mem (p := 125) (by decide +kernel), by decide +kernel, by decide +kernel⟩
set_option maxRecDepth 100000 in
theorem s_okm121 : s_okM s_m121 := ⟨by decide +kernel, by decide +kernel, s_wAt_mem (p := 1091) (by decide +kernel), s_d121, by decide +kernel, by decide +kernel, s_wAt_mem (p := 118) (by decide +kernel), by decide +kernel, by decide +kernel⟩
set_option maxRecDepth 100000 in
theorem s_okm122 : s_okM s_m122 := ⟨by decide +kernel, by decide +kernel, s_wAt_mem (p := 1095) (by decide +kernel), s_d122, by decide +kernel, by decide +kernel, s_wAt_mem (p := 125) (by decide +kernel), by decide +kernel, by decide +kernel⟩
set_option maxRecDepth 100000 in
theorem s_okm123 : s_okM s_m123 := ⟨by decide +kernel, by decide +kernel, s_wAt_mem (p := 1101) (by decide +kernel), s_d123, by decide +kernel, by decide +kernel, s_wAt_mem (p := 118) (by decide +kernel), by decide +kernel, by decide +kernel⟩
set_option maxRecDepth 100000 in
theorem s_okm124 : s_okM s_m124 := ⟨by decide +kernel, by decide +kernel, s_wAt_mem (p := 1106) (by decide +kernel), s_d124, by decide +kernel, by decide +kernel, s_wAt_mem (p := 114) (by decide +kernel), by decide +kernel, by decide +kernel⟩
set_option maxRecDepth 100000 in
theorem s_okm125 : s_okM s_m125 := ⟨by decide +kernel, by decide +kernel, s_wAt_mem (p := 1110) (by decide +kernel), s_d125, by decide +kernel, by decide +kernel, s_wAt_mem (p := 114) (by decide +kernel), by decide +kernel, by decide +kernel⟩
set_option maxRecDepth 100000 in
theorem s_okm126 : s_okM s_m126 := ⟨by decide +kernel, by decide +kernel, s_wAt_mem (p := 1114) (by decide +kernel), s_d126, by decide +kernel, by decide +kernel, s_wAt_mem (p := 120) (by decide +kernel), by decide +kernel, by decide +kernel⟩
set_option maxRecDepth 100000 in
theorem s_okm127 : s_okM s_m127 := ⟨by decide +kernel, by decide +kernel, s_wAt_mem (p := 1119) (by decide +kernel), s_d127, by decide +kernel, by decide +kernel, s_wAt_mem (p := 120) (by decide +kernel), by decide +kernel, by decide +kernel⟩
set_option maxRecDepth 100000 in
theorem s_okm128 : s_okM s_m128 := ⟨by decide +kernel, by decide +kernel, s_wAt_mem (p := 1132) (by decide +kernel), s_d128, by decide +kernel, by decide +kernel, s_wAt_mem (p := 120) (by decide +kernel), by decide +kernel, by decide +kernel⟩
set_option maxRecDepth 100000 in
theorem s_okm129 : s_okM s_m129 := ⟨by decide +kernel, by decide +kernel, s_wAt_mem (p := 1138) (by decide +kernel), s_d129, by decide +kernel, by decide +kernel, s_wAt_mem (p := 120) (by decide +kernel), by decide +kernel, by decide +kernel⟩
set_option maxRecDepth 100000 in
theorem s_okm130 : s_okM s_m130 := ⟨by decide +kernel, by decide +kernel, s_wAt_mem (p := 1150) (by decide +kernel), s_d130, by decide +kernel, by decide +kernel, s_wAt_mem (p := 120) (by decide +kernel), by decide +kernel, by decide +kernel⟩
set_option maxRecDepth 100000 in
theorem s_okm131 : s_okM s_m131 := ⟨by decide +kernel, by decide +kernel, s_wAt_mem (p := 1155) (by decide +kernel), s_d131, by decide +kernel, by decide +kernel, s_wAt_mem (p := 120) (by decide +kernel), by decide +kernel, by decide +kernel⟩
set_option maxRecDepth 100000 in
theorem s_okm132 : s_okM s_m132 := ⟨by decide +kernel, by decide +kernel, s_wAt_mem (p := 1159) (by decide +kernel), s_d132, by decide +kernel, by decide +kernel, s_wAt_mem (p := 120) (by decide +kernel), by decide +kernel, by decide +kernel⟩
set_option maxRecDepth 100000 in
theorem s_okm133 : s_okM s_m133 := ⟨by decide +kernel, by decide +kernel, s_wAt_mem (p := 1167) (by decide +kernel), s_d133, by decide +kernel, by decide +kernel, s_wAt_mem (p := 120) (by decide +kernel), by decide +kernel, by decide +kernel⟩
set_option maxRecDepth 100000 in
theorem s_okm134 : s_okM s_m134 := ⟨by decide +kernel, by decide +kernel, s_wAt_mem (p := 1174) (by decide +kernel), s_d134, by decide +kernel, by decide +kernel, s_wAt_mem (p := 114) (by decide +kernel), by decide +kernel, by decide +kernel⟩
set_option maxRecDepth 100000 in
theorem s_okm135 : s_okM s_m135 := ⟨by decide +kernel, by decide +kernel, s_wAt_mem (p := 1178) (by decide +kernel), s_d135, by decide +kernel, by decide +kernel, s_wAt_mem (p := 114) (by decide +kernel), by decide +kernel, by decide +kernel⟩
set_option maxRecDepth 100000 in
theorem s_okm136 : s_okM s_m136 := ⟨by decide +kernel, by decide +kernel, s_wAt_mem (p := 1182) (by decide +kernel), s_d136, by decide +kernel, by decide +kernel, s_wAt_mem (p := 119) (by decide +kernel), by decide +kernel, by decide +kernel⟩
set_option maxRecDepth 100000 in
theorem s_okm137 : s_okM s_m137 := ⟨by decide +kernel, by decide +kernel, s_wAt_mem (p := 1187) (by decide +kernel), s_d137, by decide +kernel, by decide +kernel, s_wAt_mem (p := 119) (by decide +kernel), by decide +kernel, by decide +kernel⟩
set_option maxRecDepth 100000 in
theorem s_okm138 : s_okM s_m138 := ⟨by decide +kernel, by decide +kernel, s_wAt_mem (p := 1191) (by decide +kernel), s_d138, by decide +kernel, by decide +kernel, s_wAt_mem (p := 119) (by decide +kernel), by decide +kernel, by decide +kernel⟩
set_option maxRecDepth 100000 in
theorem s_okm139 : s_okM s_m139 := ⟨by decide +kernel, by decide +kernel, s_wAt_mem (p := 1195) (by decide +kernel), s_d139, by decide +kernel, by decide +kernel, s_wAt_mem (p := 119) (by decide +kernel), by decide +kernel, by decide +kernel⟩
set_option maxRecDepth 100000 in
theorem s_okm140 : s_okM s_m140 := ⟨by decide +kernel, by decide +kernel, s_wAt_mem (p := 1198) (by decide +kernel), s_d140, by decide +kernel, by decide +kernel, s_wAt_mem (p := 119) (by decide +kernel), by decide +kernel, by decide +kernel⟩
set_option maxRecDepth 100000 in
theorem s_okm141 : s_okM s_m141 := ⟨by decide +kernel, by decide +kernel, s_wAt_mem (p := 1204) (by decide +kernel), s_d141, by decide +kernel, by decide +kernel, s_wAt_mem (p := 119) (by decide +kernel), by decide +kernel, by decide +kernel⟩
set_option maxRecDepth 100000 in
theorem s_okm142 : s_okM s_m142 := ⟨by decide +kernel, by decide +kernel, s_wAt_mem (p := 1229) (by decide +kernel), s_d142, by decide +kernel, by decide +kernel, s_wAt_mem (p := 119) (by decide +kernel), by decide +kernel, by decide +kernel⟩
set_option maxRecDepth 100000 in
theorem s_okm143 : s_okM s_m143 := ⟨by decide +kernel, by decide +kernel, s_wAt_mem (p := 1235) (by decide +kernel), s_d143, by decide +kernel, by decide +kernel, s_wAt_mem (p := 119) (by decide +kernel), by decide +kernel, by decide +kernel⟩
set_option maxRecDepth 100000 in
theorem s_okm144 : s_okM s_m144 := ⟨by decide +kernel, by decide +kernel, s_wAt_mem (p := 1245) (by decide +kernel), s_d144, by decide +kernel, by decide +kernel, s_wAt_mem (p := 119) (by decide +kernel), by decide +kernel, by decide +kernel⟩
set_option maxRecDepth 100000 in
theorem s_okm145 : s_okM s_m145 := ⟨by decide +kernel, by decide +kernel, s_wAt_mem (p := 1250) (by decide +kernel), s_d145, by decide +kernel, by decide +kernel, s_wAt_mem (p := 114) (by decide +kernel), by decide +kernel, by decide +kernel⟩
set_option maxRecDepth 100000 in
theorem s_okm146 : s_okM s_m146 := ⟨by decide +kernel, by decide +kernel, s_wAt_mem (p := 1254) (by decide +kernel), s_d146, by decide +kernel, by decide +kernel, s_wAt_mem (p := 119) (by decide +kernel), by decide +kernel, by decide +kernel⟩
set_option maxRecDepth 100000 in
theorem s_okm147 : s_okM s_m147 := ⟨by decide +kernel, by decide +kernel, s_wAt_mem (p := 1258) (by decide +kernel), s_d147, by decide +kernel, by decide +kernel, s_wAt_mem (p := 119) (by decide +kernel), by decide +kernel, by decide +kernel⟩
set_option maxRecDepth 100000 in
theorem s_okm148 : s_okM s_m148 := ⟨by decide +kernel, by decide +kernel, s_wAt_mem (p := 1262) (by decide +kernel), s_d148, by decide +kernel, by decide +kernel, s_wAt_mem (p := 119) (by decide +kernel), by decide +kernel, by decide +kernel⟩
set_option maxRecDepth 100000 in
theorem s_okm149 : s_okM s_m149 := ⟨by decide +kernel, by decide +kernel, s_wAt_mem (p := 1269) (by decide +kernel), s_d149, by decide +kernel, by decide +kernel, s_wAt_mem (p := 119) (by decide +kernel), by decide +kernel, by decide +kernel⟩
set_option maxRecDepth 100000 in
theorem s_okm150 : s_okM s_m150 := ⟨by decide +kernel, by decide +kernel, s_wAt_mem (p := 1274) (by decide +kernel), s_d150, by decide +kernel, by decide +kernel, s_wAt_mem (p := 114) (by decide +kernel), by decide +kernel, by decide +kernel⟩
set_option maxRecDepth 100000 in
theorem s_okm151 : s_okM s_m151 := ⟨by decide +kernel, by decide +kernel, s_wAt_mem (p := 1278) (by decide +kernel), s_d151, by decide +kernel, by decide +kernel, s_wAt_mem (p := 122) (by decide +kernel), by decide +kernel, by decide +kernel⟩
set_option maxRecDepth 100000 in
theorem s_okm152 : s_okM s_m152 := ⟨by decide +kernel, by decide +kernel, s_wAt_mem (p := 1285) (by decide +kernel), s_d152, by decide +kernel, by decide +kernel, s_wAt_mem (p := 114) (by decide +kernel), by decide +kernel, by decide +kernel⟩
set_option maxRecDepth 100000 in
theorem s_okm153 : s_okM s_m153 := ⟨by decide +kernel, by decide +kernel, s_wAt_mem (p := 1289) (by decide +kernel), s_d153, by decide +kernel, by decide +kernel, s_wAt_mem (p := 122) (by decide +kernel), by decide +kernel, by decide +kernel⟩
set_option maxRecDepth 100000 in
theorem s_okm154 : s_okM s_m154 := ⟨by decide +kernel, by decide +kernel, s_wAt_mem (p := 1293) (by decide +kernel), s_d154, by decide +kernel, by decide +kernel, s_wAt_mem (p := 114) (by decide +kernel), by decide +kernel, by decide +kernel⟩
set_option maxRecDepth 100000 in
theorem s_okm155 : s_okM s_m155 := ⟨by decide +kernel, by decide +kernel, s_wAt_mem (p := 1301) (by decide +kernel), s_d155, by decide +kernel, by decide +kernel, s_wAt_mem (p := 114) (by decide +kernel), by decide +kernel, by decide +kernel⟩
set_option maxRecDepth 100000 in
theorem s_okm156 : s_okM s_m156 := ⟨by decide +kernel, by decide +kernel, s_wAt_mem (p := 1373) (by decide +kernel), s_d156, by decide +kernel, by decide +kernel, s_wAt_mem (p := 126) (by decide +kernel), by decide +kernel, by decide +kernel⟩
set_option maxRecDepth 100000 in
theorem s_okm157 : s_okM s_m157 := ⟨by decide +kernel, by decide +kernel, s_wAt_mem (p := 1377) (by decide +kernel), s_d157, by decide +kernel, by decide +kernel, s_wAt_mem (p := 126) (by decide +kernel), by decide +kernel, by decide +kernel⟩
set_option maxRecDepth 100000 in
theorem s_okm158 : s_okM s_m158 := ⟨by decide +kernel, by decide +kernel, s_wAt_mem (p := 1382) (by decide +kernel), s_d158, by decide +kernel, by decide +kernel, s_wAt_mem (p := 126) (by decide +kernel), by decide +kernel, by decide +kernel⟩
set_option maxRecDepth 100000 in
theorem s_okm159 : s_okM s_m159 := ⟨by decide +kernel, by decide +kernel, s_wAt_mem (p := 1386) (by decide +kernel), s_d159, by decide +kernel, by decide +kernel, s_wAt_mem (p := 126) (by decide +kernel), by decide +kernel, by decide +kernel⟩
set_option maxRecDepth 100000 in
theorem s_okm160 : s_okM s_m160 := ⟨by decide +kernel, by decide +kernel, s_wAt_mem (p := 1390) (by decide +kernel), s_d160, by decide +kernel, by decide +kernel, s_wAt_mem (p := 126) (by decide +kernel), by decide +kernel, by decide +kernel⟩
set_option maxRecDepth 100000 in
theorem s_okm161 : s_okM s_m161 := ⟨by decide +kernel, by decide +kernel, s_wAt_mem (p := 1395) (by decide +kernel), s_d161, by decide +kernel, by decide +kernel, s_wAt_mem (p := 126) (by decide +kernel), by decide +kernel, by decide +kernel⟩
set_option maxRecDepth 100000 in
theorem s_okm162 : s_okM s_m162 := ⟨by decide +kernel, by decide +kernel, s_wAt_mem (p := 1399) (by decide +kernel), s_d162, by decide +kernel, by decide +kernel, s_wAt_mem (p := 126) (by decide +kernel), by decide +kernel, by decide +kernel⟩
set_option maxRecDepth 100000 in
theorem s_okm163 : s_okM s_m163 := ⟨by decide +kernel, by decide +kernel, s_wAt_mem (p := 1549) (by decide +kernel), s_d163, by decide +kernel, by decide +kernel, s_wAt_mem (p := 126) (by decide +kernel), by decide +kernel, by decide +kernel⟩
set_option maxRecDepth 100000 in
theorem s_okm164 : s_okM s_m164 := ⟨by decide +kernel, by decide +kernel, s_wAt_mem (p := 1553) (by decide +kernel), s_d164, by decide +kernel, by decide +kernel, s_wAt_mem (p := 126) (by decide +kernel), by decide +kernel, by decide +kernel⟩
set_option maxRecDepth 100000 in
theorem s_okm165 : s_okM s_m165 := ⟨by decide +kernel, by decide +kernel, s_wAt_mem (p := 1557) (by decide +kernel), s_d165, by decide +kernel, by decide +kernel, s_wAt_mem (p := 126) (by decide +kernel), by decide +kernel, by decide +kernel⟩
set_option maxRecDepth 100000 in
theorem s_okm166 : s_okM s_m166 := ⟨by decide +kernel, by decide +kernel, s_wAt_mem (p := 1561) (by decide +kernel), s_d166, by decide +kernel, by decide +kernel, s_wAt_mem (p := 126) (by decide +kernel), by decide +kernel, by decide +kernel⟩
set_option maxRecDepth 100000 in
theorem s_okm167 : s_okM s_m167 := ⟨by decide +kernel, by decide +kernel, s_wAt_mem (p := 1564) (by decide +kernel), s_d167, by decide +kernel, by decide +kernel, s_wAt_mem (p := 126) (by decide +kernel), by decide +kernel, by decide +kernel⟩
set_option maxRecDepth 100000 in
theorem s_okm168 : s_okM s_m168 := ⟨by decide +kernel, by decide +kernel, s_wAt_mem (p := 1567) (by decide +kernel), s_d168, by decide +kernel, by decide +kernel, s_wAt_mem (p := 126) (by decide +kernel), by decide +kernel, by decide +kernel⟩
set_option maxRecDepth 100000 in
theorem s_okm169 : s_okM s_m169 := ⟨by decide +kernel, by decide +kernel, s_wAt_mem (p := 1571) (by decide +kernel), s_d169, by decide +kernel, by decide +kernel, s_wAt_mem (p := 126) (by decide +kernel), by decide +kernel, by decide +kernel⟩
set_option maxRecDepth 100000 in
theorem s_okm170 : s_okM s_m170 := ⟨by decide +kernel, by decide +kernel, s_wAt_mem (p := 1577) (by decide +kernel), s_d170, by decide +kernel, by decide +kernel, s_wAt_mem (p := 126) (by decide +kernel), by decide +kernel, by decide +kernel⟩
set_option maxRecDepth 100000 in
theorem s_okm171 : s_okM s_m171 := ⟨by decide +kernel, by decide +kernel, s_wAt_mem (p := 1581) (by decide +kernel), s_d171, by decide +kernel, by decide +kernel, s_wAt_mem (p := 126) (by decide +kernel), by decide +kernel, by decide +kernel⟩
set_option maxRecDepth 100000 in
theorem s_okm172 : s_okM s_m172 := ⟨by decide +kernel, by decide +kernel, s_wAt_mem (p := 1584) (by decide +kernel), s_d172, by decide +kernel, by decide +kernel, s_wAt_mem (p := 126) (by decide +kernel), by decide +kernel, by decide +kernel⟩
set_option maxRecDepth 100000 in
theorem s_okm173 : s_okM s_m173 := ⟨by decide +kernel, by decide +kernel, s_wAt_mem (p := 1587) (by decide +kernel), s_d173, by decide +kernel, by decide +kernel, s_wAt_mem (p := 126) (by decide +kernel), by decide +kernel, by decide +kernel⟩
set_option maxRecDepth 100000 in
theorem s_okm174 : s_okM s_m174 := ⟨by decide +kernel, by decide +kernel, s_wAt_mem (p := 1591) (by decide +kernel), s_d174, by decide +kernel, by decide +kernel, s_wAt_mem (p := 126) (by decide +kernel), by decide +kernel, by decide +kernel⟩
set_option maxRecDepth 100000 in
theorem s_okm175 : s_okM s_m175 := ⟨by decide +kernel, by decide +kernel, s_wAt_mem (p := 1595) (by decide +kernel), s_d175, by decide +kernel, by decide +kernel, s_wAt_mem (p := 126) (by decide +kernel), by decide +kernel, by decide +kernel⟩
set_option maxRecDepth 100000 in
theorem s_okm176 : s_okM s_m176 := ⟨by decide +kernel, by decide +kernel, s_wAt_mem (p := 1599) (by decide +kernel), s_d176, by decide +kernel, by decide +kernel, s_wAt_mem (p := 126) (by decide +kernel), by decide +kernel, by decide +kernel⟩
set_option maxRecDepth 100000 in
theorem s_okm177 : s_okM s_m177 := ⟨by decide +kernel, by decide +kernel, s_wAt_mem (p := 1603) (by decide +kernel), s_d177, by decide +kernel, by decide +kernel, s_wAt_mem (p := 126) (by decide +kernel), by decide +kernel, by decide +kernel⟩
set_option maxRecDepth 100000 in
theorem s_okm178 : s_okM s_m178 := ⟨by decide +kernel, by decide +kernel, s_wAt_mem (p := 1607) (by decide +kernel), s_d178, by decide +kernel, by decide +kernel, s_wAt_mem (p := 126) (by decide +kernel), by decide +kernel, by decide +kernel⟩
set_option maxRecDepth 100000 in
theorem s_okm179 : s_okM s_m179 := ⟨by decide +kernel, by decide +kernel, s_wAt_mem (p := 1610) (by decide +kernel), s_d179, by decide +kernel, by decide +kernel, s_wAt_mem (p := 126) (by decide +kernel), by decide +kernel, by decide +kernel⟩
set_option maxRecDepth 100000 in
theorem s_okm180 : s_okM s_m180 := ⟨by decide +kernel, by decide +kernel, s_wAt_mem (p := 1614) (by decide +kernel), s_d180, by decide +kernel, by decide +kernel, s_wAt_mem (p := 126) (by decide +kernel), by decide +kernel, by decide +kernel⟩
set_option maxRecDepth 100000 in
theorem s_okm181 : s_okM s_m181 := ⟨by decide +kernel, by decide +kernel, s_wAt_mem (p := 1617) (by decide +kernel), s_d181, by decide +kernel, by decide +kernel, s_wAt_mem (p := 126) (by decide +kernel), by decide +kernel, by decide +kernel⟩
set_option maxRecDepth 100000 in
theorem s_okm182 : s_okM s_m182 := ⟨by decide +kernel, by decide +kernel, s_wAt_mem (p := 1621) (by decide +kernel), s_d182, by decide +kernel, by decide +kernel, s_wAt_mem (p := 126) (by decide +kernel), by decide +kernel, by decide +kernel⟩
set_option maxRecDepth 100000 in
theorem s_okm183 : s_okM s_m183 := ⟨by decide +kernel, by decide +kernel, s_wAt_mem (p := 1625) (by decide +kernel), s_d183, by decide +kernel, by decide +kernel, s_wAt_mem (p := 126) (by decide +kernel), by decide +kernel, by decide +kernel⟩
set_option maxRecDepth 100000 in
theorem s_okm184 : s_okM s_m184 := ⟨by decide +kernel, by decide +kernel, s_wAt_mem (p := 1629) (by decide +kernel), s_d184, by decide +kernel, by decide +kernel, s_wAt_mem (p := 126) (by decide +kernel), by decide +kernel, by decide +kernel⟩
set_option maxRecDepth 100000 in
theorem s_okm185 : s_okM s_m185 := ⟨by decide +kernel, by decide +kernel, s_wAt_mem (p := 1633) (by decide +kernel), s_d185, by decide +kernel, by decide +kernel, s_wAt_mem (p := 126) (by decide +kernel), by decide +kernel, by decide +kernel⟩
set_option maxRecDepth 100000 in
theorem s_okm186 : s_okM s_m186 := ⟨by decide +kernel, by decide +kernel, s_wAt_mem (p := 1637) (by decide +kernel), s_d186, by decide +kernel, by decide +kernel, s_wAt_mem (p := 126) (by decide +kernel), by decide +kernel, by decide +kernel⟩
set_option maxRecDepth 100000 in
theorem s_okm187 : s_okM s_m187 := ⟨by decide +kernel, by decide +kernel, s_wAt_mem (p := 1641) (by decide +kernel), s_d187, by decide +kernel, by decide +kernel, s_wAt_mem (p := 126) (by decide +kernel), by decide +kernel, by decide +kernel⟩
set_option maxRecDepth 100000 in
theorem s_okm188 : s_okM s_m188 := ⟨by decide +kernel, by decide +kernel, s_wAt_mem (p := 1645) (by decide +kernel), s_d188, by decide +kernel, by decide +kernel, s_wAt_mem (p := 126) (by decide +kernel), by decide +kernel, by decide +kernel⟩
set_option maxRecDepth 100000 in
theorem s_okm189 : s_okM s_m189 := ⟨by decide +kernel, by decide +kernel, s_wAt_mem (p := 1649) (by decide +kernel), s_d189, by decide +kernel, by decide +kernel, s_wAt_mem (p := 126) (by decide +kernel), by decide +kernel, by decide +kernel⟩
set_option maxRecDepth 100000 in
theorem s_okm190 : s_okM s_m190 := ⟨by decide +kernel, by decide +kernel, s_wAt_mem (p := 1653) (by decide +kernel), s_d190, by decide +kernel, by decide +kernel, s_wAt_mem (p := 126) (by decide +kernel), by decide +kernel, by decide +kernel⟩
set_option maxRecDepth 100000 in
theorem s_okm191 : s_okM s_m191 := ⟨by decide +kernel, by decide +kernel, s_wAt_mem (p := 1657) (by decide +kernel), s_d191, by decide +kernel, by decide +kernel, s_wAt_mem (p := 126) (by decide +kernel), by decide +kernel, by decide +kernel⟩
set_option maxRecDepth 100000 in
theorem s_okm192 : s_okM s_m192 := ⟨by decide +kernel, by decide +kernel, s_wAt_mem (p := 1661) (by decide +kernel), s_d192, by decide +kernel, by decide +kernel, s_wAt_mem (p := 126) (by decide +kernel), by decide +kernel, by decide +kernel⟩
set_option maxRecDepth 100000 in
theorem s_okm193 : s_okM s_m193 := ⟨by decide +kernel, by decide +kernel, s_wAt_mem (p := 1665) (by decide +kernel), s_d193, by decide +kernel, by decide +kernel, s_wAt_mem (p := 126) (by decide +kernel), by decide +kernel, by decide +kernel⟩
set_option maxRecDepth 100000 in
theorem s_okm194 : s_okM s_m194 := ⟨by decide +kernel, by decide +kernel, s_wAt_mem (p := 1669) (by decide +kernel), s_d194, by decide +kernel, by decide +kernel, s_wAt_mem (p := 126) (by decide +kernel), by decide +kernel, by decide +kernel⟩
set_option maxRecDepth 100000 in
theorem s_okm195 : s_okM s_m195 := ⟨by decide +kernel, by decide +kernel, s_wAt_mem (p := 1673) (by decide +kernel), s_d195, by decide +kernel, by decide +kernel, s_wAt_mem (p := 126) (by decide +kernel), by decide +kernel, by decide +kernel⟩
set_option maxRecDepth 100000 in
theorem s_okm196 : s_okM s_m196 := ⟨by decide +kernel, by decide +kernel, s_wAt_mem (p := 1677) (by decide +kernel), s_d196, by decide +kernel, by decide +kernel, s_wAt_mem (p := 126) (by decide +kernel), by decide +kernel, by decide +kernel⟩
set_option maxRecDepth 100000 in
theorem s_okm197 : s_okM s_m197 := ⟨by decide +kernel, by decide +kernel, s_wAt_mem (p := 1681) (by decide +kernel), s_d197, by decide +kernel, by decide +kernel, s_wAt_mem (p := 126) (by decide +kernel), by decide +kernel, by decide +kernel⟩
set_option maxRecDepth 100000 in
theorem s_okm198 : s_okM s_m198 := ⟨by decide +kernel, by decide +kernel, s_wAt_mem (p := 1684) (by decide +kernel), s_d198, by decide +kernel, by decide +kernel, s_wAt_mem (p := 126) (by decide +kernel), by decide +kernel, by decide +kernel⟩
set_option maxRecDepth 100000 in
theorem s_okm199 : s_okM s_m199 := ⟨by decide +kernel, by decide +kernel, s_wAt_mem (p := 1688) (by decide +kernel), s_d199, by decide +kernel, by decide +kernel, s_wAt_mem (p := 126) (by decide +kernel), by decide +kernel, by decide +kernel⟩
set_option maxRecDepth 100000 in
theorem s_okm200 : s_okM s_m200 := ⟨by decide +kernel, by decide +kernel, s_wAt_mem (p := 1692) (by decide +kernel), s_d200, by decide +kernel, by decide +kernel, s_wAt_mem (p := 126) (by decide +kernel), by decide +kernel, by decide +kernel⟩
set_option maxRecDepth 100000 in
theorem s_okm201 : s_okM s_m201 := ⟨by decide +kernel, by decide +kernel, s_wAt_mem (p := 1696) (by decide +kernel), s_d201, by decide +kernel, by decide +kernel, s_wAt_mem (p := 126) (by decide +kernel), by decide +kernel, by decide +kernel⟩
set_option maxRecDepth 100000 in
theorem s_okm202 : s_okM s_m202 := ⟨by decide +kernel, by decide +kernel, s_wAt_mem (p := 1700) (by decide +kernel), s_d202, by decide +kernel, by decide +kernel, s_wAt_mem (p := 126) (by decide +kernel), by decide +kernel, by decide +kernel⟩
set_option maxRecDepth 100000 in
theorem s_okm203 : s_okM s_m203 := ⟨by decide +kernel, by decide +kernel, s_wAt_mem (p := 1704) (by decide +kernel), s_d203, by decide +kernel, by decide +kernel, s_wAt_mem (p := 126) (by decide +kernel), by decide +kernel, by decide +kernel⟩
set_option maxRecDepth 100000 in
theorem s_okm204 : s_okM s_m204 := ⟨by decide +kernel, by decide +kernel, s_wAt_mem (p := 1708) (by decide +kernel), s_d204, by decide +kernel, by decide +kernel, s_wAt_mem (p := 126) (by decide +kernel), by decide +kernel, by decide +kernel⟩
set_option maxRecDepth 100000 in
theorem s_okm205 : s_okM s_m205 := ⟨by decide +kernel, by decide +kernel, s_wAt_mem (p := 1712) (by decide +kernel), s_d205, by decide +kernel, by decide +kernel, s_wAt_mem (p := 126) (by decide +kernel), by decide +kernel, by decide +kernel⟩
set_option maxRecDepth 100000 in
theorem s_okm206 : s_okM s_m206 := ⟨by decide +kernel, by decide +kernel, s_wAt_mem (p := 1716) (by decide +kernel), s_d206, by decide +kernel, by decide +kernel, s_wAt_mem (p := 126) (by decide +kernel), by decide +kernel, by decide +kernel⟩
set_option maxRecDepth 100000 in
theorem s_okm207 : s_okM s_m207 := ⟨by decide +kernel, by decide +kernel, s_wAt_mem (p := 1720) (by decide +kernel), s_d207, by decide +kernel, by decide +kernel, s_wAt_mem (p := 126) (by decide +kernel), by decide +kernel, by decide +kernel⟩
set_option maxRecDepth 100000 in
theorem s_okm208 : s_okM s_m208 := ⟨by decide +kernel, by decide +kernel, s_wAt_mem (p := 1724) (by decide +kernel), s_d208, by decide +kernel, by decide +kernel, s_wAt_mem (p := 126) (by decide +kernel), by decide +kernel, by decide +kernel⟩
set_option maxRecDepth 100000 in
theorem s_okm209 : s_okM s_m209 := ⟨by decide +kernel, by decide +kernel, s_wAt_mem (p := 1728) (by decide +kernel), s_d209, by decide +kernel, by decide +kernel, s_wAt_mem (p := 126) (by decide +kernel), by decide +kernel, by decide +kernel⟩
set_option maxRecDepth 100000 in
theorem s_okm210 : s_okM s_m210 := ⟨by decide +kernel, by decide +kernel, s_wAt_mem (p := 1732) (by decide +kernel), s_d210, by decide +kernel, by decide +kernel, s_wAt_mem (p := 126) (by decide +kernel), by decide +kernel, by decide +kernel⟩
set_option maxRecDepth 100000 in
theorem s_okm211 : s_okM s_m211 := ⟨by decide +kernel, by decide +kernel, s_wAt_mem (p := 1736) (by decide +kernel), s_d211, by decide +kernel, by decide +kernel, s_wAt_mem (p := 126) (by decide +kernel), by decide +kernel, by decide +kernel⟩
set_option maxRecDepth 100000 in
theorem s_okm212 : s_okM s_m212 := ⟨by decide +kernel, by decide +kernel, s_wAt_mem (p := 1740) (by decide +kernel), s_d212, by decide +kernel, by decide +kernel, s_wAt_mem (p := 126) (by decide +kernel), by decide +kernel, by decide +kernel⟩
set_option maxRecDepth 100000 in
theorem s_okm213 : s_okM s_m213 := ⟨by decide +kernel, by decide +kernel, s_wAt_mem (p := 1744) (by decide +kernel), s_d213, by decide +kernel, by decide +kernel, s_wAt_mem (p := 126) (by decide +kernel), by decide +kernel, by decide +kernel⟩
set_option maxRecDepth 100000 in
theorem s_okm214 : s_okM s_m214 := ⟨by decide +kernel, by decide +kernel, s_wAt_mem (p := 1748) (by decide +kernel), s_d214, by decide +kernel, by decide +kernel, s_wAt_mem (p := 126) (by decide +kernel), by decide +kernel, by decide +kernel⟩
set_option maxRecDepth 100000 in
theorem s_okm215 : s_okM s_m215 := ⟨by decide +kernel, by decide +kernel, s_wAt_mem (p := 1752) (by decide +kernel), s_d215, by decide +kernel, by decide +kernel, s_wAt_mem (p := 126) (by decide +kernel), by decide +kernel, by decide +kernel⟩
set_option maxRecDepth 100000 in
theorem s_okm216 : s_okM s_m216 := ⟨by decide +kernel, by decide +kernel, s_wAt_mem (p := 1756) (by decide +kernel), s_d216, by decide +kernel, by decide +kernel, s_wAt_mem (p := 126) (by decide +kernel), by decide +kernel, by decide +kernel⟩
set_option maxRecDepth 100000 in
theorem s_okm217 : s_okM s_m217 := ⟨by decide +kernel, by decide +kernel, s_wAt_mem (p := 1759) (by decide +kernel), s_d217, by decide +kernel, by decide +kernel, s_wAt_mem (p := 126) (by decide +kernel), by decide +kernel, by decide +kernel⟩
set_option maxRecDepth 100000 in
theorem s_okm218 : s_okM s_m218 := ⟨by decide +kernel, by decide +kernel, s_wAt_mem (p := 1763) (by decide +kernel), s_d218, by decide +kernel, by decide +kernel, s_wAt_mem (p := 126) (by decide +kernel), by decide +kernel, by decide +kernel⟩
set_option maxRecDepth 100000 in
theorem s_okm219 : s_okM s_m219 := ⟨by decide +kernel, by decide +kernel, s_wAt_mem (p := 1767) (by decide +kernel), s_d219, by decide +kernel, by decide +kernel, s_wAt_mem (p := 126) (by decide +kernel), by decide +kernel, by decide +kernel⟩
set_option maxRecDepth 100000 in
theorem s_okm220 : s_okM s_m220 := ⟨by decide +kernel, by decide +kernel, s_wAt_mem (p := 1771) (by decide +kernel), s_d220, by decide +kernel, by decide +kernel, s_wAt_mem (p := 126) (by decide +kernel), by decide +kernel, by decide +kernel⟩
set_option maxRecDepth 100000 in
theorem s_okm221 : s_okM s_m221 := ⟨by decide +kernel, by decide +kernel, s_wAt_mem (p := 1775) (by decide +kernel), s_d221, by decide +kernel, by decide +kernel, s_wAt_mem (p := 126) (by decide +kernel), by decide +kernel, by decide +kernel⟩
set_option maxRecDepth 100000 in
theorem s_okm222 : s_okM s_m222 := ⟨by decide +kernel, by decide +kernel, s_wAt_mem (p := 1779) (by decide +kernel), s_d222, by decide +kernel, by decide +kernel, s_wAt_mem (p := 126) (by decide +kernel), by decide +kernel, by decide +kernel⟩
set_option maxRecDepth 100000 in
theorem s_okm223 : s_okM s_m223 := ⟨by decide +kernel, by decide +kernel, s_wAt_mem (p := 1783) (by decide +kernel), s_d223, by decide +kernel, by decide +kernel, s_wAt_mem (p := 126) (by decide +kernel), by decide +kernel, by decide +kernel⟩
set_option maxRecDepth 100000 in
theorem s_okm224 : s_okM s_m224 := ⟨by decide +kernel, by decide +kernel, s_wAt_mem (p := 1787) (by decide +kernel), s_d224, by decide +kernel, by decide +kernel, s_wAt_mem (p := 126) (by decide +kernel), by decide +kernel, by decide +kernel⟩
set_option maxRecDepth 100000 in
theorem s_okm225 : s_okM s_m225 := ⟨by decide +kernel, by decide +kernel, s_wAt_mem (p := 1791) (by decide +kernel), s_d225, by decide +kernel, by decide +kernel, s_wAt_mem (p := 126) (by decide +kernel), by decide +kernel, by decide +kernel⟩
set_option maxRecDepth 100000 in
theorem s_okm226 : s_okM s_m226 := ⟨by decide +kernel, by decide +kernel, s_wAt_mem (p := 1795) (by decide +kernel), s_d226, by decide +kernel, by decide +kernel, s_wAt_mem (p := 126) (by decide +kernel), by decide +kernel, by decide +kernel⟩
set_option maxRecDepth 100000 in
theorem s_okm227 : s_okM s_m227 := ⟨by decide +kernel, by decide +kernel, s_wAt_mem (p := 1799) (by decide +kernel), s_d227, by decide +kernel, by decide +kernel, s_wAt_mem (p := 126) (by decide +kernel), by decide +kernel, by decide +kernel⟩
set_option maxRecDepth 100000 in
theorem s_okm228 : s_okM s_m228 := ⟨by decide +kernel, by decide +kernel, s_wAt_mem (p := 1803) (by decide +kernel), s_d228, by decide +kernel, by decide +kernel, s_wAt_mem (p := 126) (by decide +kernel), by decide +kernel, by decide +kernel⟩
set_option maxRecDepth 100000 in
theorem s_okm229 : s_okM s_m229 := ⟨by decide +kernel, by decide +kernel, s_wAt_mem (p := 1807) (by decide +kernel), s_d229, by decide +kernel, by decide +kernel, s_wAt_mem (p := 126) (by decide +kernel), by decide +kernel, by decide +kernel⟩
set_option maxRecDepth 100000 in
theorem s_okm230 : s_okM s_m230 := ⟨by decide +kernel, by decide +kernel, s_wAt_mem (p := 1811) (by decide +kernel), s_d230, by decide +kernel, by decide +kernel, s_wAt_mem (p := 126) (by decide +kernel), by decide +kernel, by decide +kernel⟩
set_option maxRecDepth 100000 in
theorem s_okm231 : s_okM s_m231 := ⟨by decide +kernel, by decide +kernel, s_wAt_mem (p := 1815) (by decide +kernel), s_d231, by decide +kernel, by decide +kernel, s_wAt_mem (p := 126) (by decide +kernel), by decide +kernel, by decide +kernel⟩
set_option maxRecDepth 100000 in
theorem s_okm232 : s_okM s_m232 := ⟨by decide +kernel, by decide +kernel, s_wAt_mem (p := 1819) (by decide +kernel), s_d232, by decide +kernel, by decide +kernel, s_wAt_mem (p := 126) (by decide +kernel), by decide +kernel, by decide +kernel⟩
set_option maxRecDepth 100000 in
theorem s_okm233 : s_okM s_m233 := ⟨by decide +kernel, by decide +kernel, s_wAt_mem (p := 1822) (by decide +kernel), s_d233, by decide +kernel, by decide +kernel, s_wAt_mem (p := 126) (by decide +kernel), by decide +kernel, by decide +kernel⟩
set_option maxRecDepth 100000 in
theorem s_okm234 : s_okM s_m234 := ⟨by decide +kernel, by decide +kernel, s_wAt_mem (p := 1826) (by decide +kernel), s_d234, by decide +kernel, by decide +kernel, s_wAt_mem (p := 126) (by decide +kernel), by decide +kernel, by decide +kernel⟩
set_option maxRecDepth 100000 in
theorem s_okm235 : s_okM s_m235 := ⟨by decide +kernel, by decide +kernel, s_wAt_mem (p := 1830) (by decide +kernel), s_d235, by decide +kernel, by decide +kernel, s_wAt_mem (p := 126) (by decide +kernel), by decide +kernel, by decide +kernel⟩
set_option maxRecDepth 100000 in
theorem s_okm236 : s_okM s_m236 := ⟨by decide +kernel, by decide +kernel, s_wAt_mem (p := 1834) (by decide +kernel), s_d236, by decide +kernel, by decide +kernel, s_wAt_mem (p := 126) (by decide +kernel), by decide +kernel, by decide +kernel⟩
set_option maxRecDepth 100000 in
theorem s_okm237 : s_okM s_m237 := ⟨by decide +kernel, by decide +kernel, s_wAt_mem (p := 1838) (by decide +kernel), s_d237, by decide +kernel, by decide +kernel, s_wAt_mem (p := 126) (by decide +kernel), by decide +kernel, by decide +kernel⟩
set_option maxRecDepth 100000 in
theorem s_okm238 : s_okM s_m238 := ⟨by decide +kernel, by decide +kernel, s_wAt_mem (p := 1842) (by decide +kernel), s_d238, by decide +kernel, by decide +kernel, s_wAt_mem (p := 126) (by decide +kernel), by decide +kernel, by decide +kernel⟩
set_option maxRecDepth 100000 in
theorem s_okm239 : s_okM s_m239 := ⟨by decide +kernel, by decide +kernel, s_wAt_mem (p := 1846) (by decide +kernel), s_d239, by decide +kernel, by decide +kernel, s_wAt_mem (p := 126) (by decide +kernel), by decide +kernel, by decide +kernel⟩
set_option maxRecDepth 100000 in
theorem s_okm240 : s_okM s_m240 := ⟨by decide +kernel, by decide +kernel, s_wAt_mem (p := 1850) (by decide +kernel), s_d240, by decide +kernel, by decide +kernel, s_wAt_mem (p := 126) (by decide +kernel), by decide +kernel, by decide +kernel⟩
set_option maxRecDepth 100000 in
theorem s_okm241 : s_okM s_m241 := ⟨by decide +kernel, by decide +kernel, s_wAt_mem (p := 1854) (by decide +kernel), s_d241, by decide +kernel, by decide +kernel, s_wAt_mem (p := 126) (by decide +kernel), by decide +kernel, by decide +kernel⟩
set_option maxRecDepth 100000 in
theorem s_okm242 : s_okM s_m242 := ⟨by decide +kernel, by decide +kernel, s_wAt_mem (p := 1857) (by decide +kernel), s_d242, by decide +kernel, by decide +kernel, s_wAt_mem (p := 126) (by decide +kernel), by decide +kernel, by decide +kernel⟩
set_option maxRecDepth 100000 in
theorem s_okm243 : s_okM s_m243 := ⟨by decide +kernel, by decide +kernel, s_wAt_mem (p := 1861) (by decide +kernel), s_d243, by decide +kernel, by decide +kernel, s_wAt_mem (p := 126) (by decide +kernel), by decide +kernel, by decide +kernel⟩
set_option maxRecDepth 100000 in
theorem s_okm244 : s_okM s_m244 := ⟨by decide +kernel, by decide +kernel, s_wAt_mem (p := 1865) (by decide +kernel), s_d244, by decide +kernel, by decide +kernel, s_wAt_mem (p := 126) (by decide +kernel), by decide +kernel, by decide +kernel⟩
set_option maxRecDepth 100000 in
theorem s_okm245 : s_okM s_m245 := ⟨by decide +kernel, by decide +kernel, s_wAt_mem (p := 1869) (by decide +kernel), s_d245, by decide +kernel, by decide +kernel, s_wAt_mem (p := 126) (by decide +kernel), by decide +kernel, by decide +kernel⟩
set_option maxRecDepth 100000 in
theorem s_okm246 : s_okM s_m246 := ⟨by decide +kernel, by decide +kernel, s_wAt_mem (p := 1873) (by decide +kernel), s_d246, by decide +kernel, by decide +kernel, s_wAt_mem (p := 126) (by decide +kernel), by decide +kernel, by decide +kernel⟩
set_option maxRecDepth 100000 in
theorem s_okm247 : s_okM s_m247 := ⟨by decide +kernel, by decide +kernel, s_wAt_mem (p := 1877) (by decide +kernel), s_d247, by decide +kernel, by decide +kernel, s_wAt_mem (p := 126) (by decide +kernel), by decide +kernel, by decide +kernel⟩
set_option maxRecDepth 100000 in
theorem s_okm248 : s_okM s_m248 := ⟨by decide +kernel, by decide +kernel, s_wAt_mem (p := 1881) (by decide +kernel), s_d248, by decide +kernel, by decide +kernel, s_wAt_mem (p := 126) (by decide +kernel), by decide +kernel, by decide +kernel⟩
set_option maxRecDepth 100000 in
theorem s_okm249 : s_okM s_m249 := ⟨by decide +kernel, by decide +kernel, s_wAt_mem (p := 1885) (by decide +kernel), s_d249, by decide +kernel, by decide +kernel, s_wAt_mem (p := 126) (by decide +kernel), by decide +kernel, by decide +kernel⟩
set_option maxRecDepth 100000 in
theorem s_okm250 : s_okM s_m250 := ⟨by decide +kernel, by decide +kernel, s_wAt_mem (p := 1889) (by decide +kernel), s_d250, by decide +kernel, by decide +kernel, s_wAt_mem (p := 126) (by decide +kernel), by decide +kernel, by decide +kernel⟩
set_option maxRecDepth 100000 in
theorem s_okm251 : s_okM s_m251 := ⟨by decide +kernel, by decide +kernel, s_wAt_mem (p := 1893) (by decide +kernel), s_d251, by decide +kernel, by decide +kernel, s_wAt_mem (p := 126) (by decide +kernel), by decide +kernel, by decide +kernel⟩
set_option maxRecDepth 100000 in
theorem s_okm252 : s_okM s_m252 := ⟨by decide +kernel, by decide +kernel, s_wAt_mem (p := 1897) (by decide +kernel), s_d252, by decide +kernel, by decide +kernel, s_wAt_mem (p := 126) (by decide +kernel), by decide +kernel, by decide +kernel⟩
set_option maxRecDepth 100000 in
theorem s_okm253 : s_okM s_m253 := ⟨by decide +kernel, by decide +kernel, s_wAt_mem (p := 1901) (by decide +kernel), s_d253, by decide +kernel, by decide +kernel, s_wAt_mem (p := 126) (by decide +kernel), by decide +kernel, by decide +kernel⟩
set_option maxRecDepth 100000 in
theorem s_okm254 : s_okM s_m254 := ⟨by decide +kernel, by decide +kernel, s_wAt_mem (p := 1905) (by decide +kernel), s_d254, by decide +kernel, by decide +kernel, s_wAt_mem (p := 126) (by decide +kernel), by decide +kernel, by decide +kernel⟩
set_option maxRecDepth 100000 in
theorem s_okm255 : s_okM s_m255 := ⟨by decide +kernel, by decide +kernel, s_wAt_mem (p := 1909) (by decide +kernel), s_d255, by decide +kernel, by decide +kernel, s_wAt_mem (p := 126) (by decide +kernel), by decide +kernel, by decide +kernel⟩
set_option maxRecDepth 100000 in
theorem s_okm256 : s_okM s_m256 := ⟨by decide +kernel, by decide +kernel, s_wAt_mem (p := 1913) (by decide +kernel), s_d256, by decide +kernel, by decide +kernel, s_wAt_mem (p := 126) (by decide +kernel), by decide +kernel, by decide +kernel⟩
set_option maxRecDepth 100000 in
theorem s_okm257 : s_okM s_m257 := ⟨by decide +kernel, by decide +kernel, s_wAt_mem (p := 1918) (by decide +kernel), s_d257, by decide +kernel, by decide +kernel, s_wAt_mem (p := 126) (by decide +kernel), by decide +kernel, by decide +kernel⟩
set_option maxRecDepth 100000 in
theorem s_okm258 : s_okM s_m258 := ⟨by decide +kernel, by decide +kernel, s_wAt_mem (p := 1922) (by decide +kernel), s_d258, by decide +kernel, by decide +kernel, s_wAt_mem (p := 126) (by decide +kernel), by decide +kernel, by decide +kernel⟩
set_option maxRecDepth 100000 in
theorem s_okm259 : s_okM s_m259 := ⟨by decide +kernel, by decide +kernel, s_wAt_mem (p := 1926) (by decide +kernel), s_d259, by decide +kernel, by decide +kernel, s_wAt_mem (p := 126) (by decide +kernel), by decide +kernel, by decide +kernel⟩
set_option maxRecDepth 100000 in
theorem s_okm260 : s_okM s_m260 := ⟨by decide +kernel, by decide +kernel, s_wAt_mem (p := 1930) (by decide +kernel), s_d260, by decide +kernel, by decide +kernel, s_wAt_mem (p := 126) (by decide +kernel), by decide +kernel, by decide +kernel⟩
set_option maxRecDepth 100000 in
theorem s_okm261 : s_okM s_m261 := ⟨by decide +kernel, by decide +kernel, s_wAt_mem (p := 1934) (by decide +kernel), s_d261, by decide +kernel, by decide +kernel, s_wAt_mem (p := 126) (by decide +kernel), by decide +kernel, by decide +kernel⟩
set_option maxRecDepth 100000 in
theorem s_okm262 : s_okM s_m262 := ⟨by decide +kernel, by decide +kernel, s_wAt_mem (p := 1938) (by decide +kernel), s_d262, by decide +kernel, by decide +kernel, s_wAt_mem (p := 126) (by decide +kernel), by decide +kernel, by decide +kernel⟩
set_option maxRecDepth 100000 in
theorem s_okm263 : s_okM s_m263 := ⟨by decide +kernel, by decide +kernel, s_wAt_mem (p := 1942) (by decide +kernel), s_d263, by decide +kernel, by decide +kernel, s_wAt_mem (p := 126) (by decide +kernel), by decide +kernel, by decide +kernel⟩
set_option maxRecDepth 100000 in
theorem s_okm264 : s_okM s_m264 := ⟨by decide +kernel, by decide +kernel, s_wAt_mem (p := 1946) (by decide +kernel), s_d264, by decide +kernel, by decide +kernel, s_wAt_mem (p := 126) (by decide +kernel), by decide +kernel, by decide +kernel⟩
set_option maxRecDepth 100000 in
theorem s_okm265 : s_okM s_m265 := ⟨by decide +kernel, by decide +kernel, s_wAt_mem (p := 1950) (by decide +kernel), s_d265, by decide +kernel, by decide +kernel, s_wAt_mem (p := 126) (by decide +kernel), by decide +kernel, by decide +kernel⟩
set_option maxRecDepth 100000 in
theorem s_okm266 : s_okM s_m266 := ⟨by decide +kernel, by decide +kernel, s_wAt_mem (p := 1954) (by decide +kernel), s_d266, by decide +kernel, by decide +kernel, s_wAt_mem (p := 126) (by decide +kernel), by decide +kernel, by decide +kernel⟩
set_option maxRecDepth 100000 in
theorem s_okm267 : s_okM s_m267 := ⟨by decide +kernel, by decide +kernel, s_wAt_mem (p := 1958) (by decide +kernel), s_d267, by decide +kernel, by decide +kernel, s_wAt_mem (p := 126) (by decide +kernel), by decide +kernel, by decide +kernel⟩
set_option maxRecDepth 100000 in
theorem s_okm268 : s_okM s_m268 := ⟨by decide +kernel, by decide +kernel, s_wAt_mem (p := 1962) (by decide +kernel), s_d268, by decide +kernel, by decide +kernel, s_wAt_mem (p := 126) (by decide +kernel), by decide +kernel, by decide +kernel⟩
set_option maxRecDepth 100000 in
theorem s_okm269 : s_okM s_m269 := ⟨by decide +kernel, by decide +kernel, s_wAt_mem (p := 1966) (by decide +kernel), s_d269, by decide +kernel, by decide +kernel, s_wAt_mem (p := 126) (by decide +kernel), by decide +kernel, by decide +kernel⟩
set_option maxRecDepth 100000 in
theorem s_okm270 : s_okM s_m270 := ⟨by decide +kernel, by decide +kernel, s_wAt_mem (p := 1970) (by decide +kernel), s_d270, by decide +kernel, by decide +kernel, s_wAt_mem (p := 126) (by decide +kernel), by decide +kernel, by decide +kernel⟩
set_option maxRecDepth 100000 in
theorem s_okm271 : s_okM s_m271 := ⟨by decide +kernel, by decide +kernel, s_wAt_mem (p := 1974) (by decide +kernel), s_d271, by decide +kernel, by decide +kernel, s_wAt_mem (p := 126) (by decide +kernel), by decide +kernel, by decide +kernel⟩
set_option maxRecDepth 100000 in
theorem s_okm272 : s_okM s_m272 := ⟨by decide +kernel, by decide +kernel, s_wAt_mem (p := 1978) (by decide +kernel), s_d272, by decide +kernel, by decide +kernel, s_wAt_mem (p := 126) (by decide +kernel), by decide +kernel, by decide +kernel⟩
set_option maxRecDepth 100000 in
theorem s_okm273 : s_okM s_m273 := ⟨by decide +kernel, by decide +kernel, s_wAt_mem (p := 1982) (by decide +kernel), s_d273, by decide +kernel, by decide +kernel, s_wAt_mem (p := 126) (by decide +kernel), by decide +kernel, by decide +kernel⟩
set_option maxRecDepth 100000 in
theorem s_okm274 : s_okM s_m274 := ⟨by decide +kernel, by decide +kernel, s_wAt_mem (p := 1986) (by decide +kernel), s_d274, by decide +kernel, by decide +kernel, s_wAt_mem (p := 126) (by decide +kernel), by decide +kernel, by decide +kernel⟩
set_option maxRecDepth 100000 in
theorem s_okm275 : s_okM s_m275 := ⟨by decide +kernel, by decide +kernel, s_wAt_mem (p := 1990) (by decide +kernel), s_d275, by decide +kernel, by decide +kernel, s_wAt_mem (p := 126) (by decide +kernel), by decide +kernel, by decide +kernel⟩
set_option maxRecDepth 100000 in
theorem s_okm276 : s_okM s_m276 := ⟨by decide +kernel, by decide +kernel, s_wAt_mem (p := 1994) (by decide +kernel), s_d276, by decide +kernel, by decide +kernel, s_wAt_mem (p := 126) (by decide +kernel), by decide +kernel, by decide +kernel⟩
set_option maxRecDepth 100000 in
theorem s_okm277 : s_okM s_m277 := ⟨by decide +kernel, by decide +kernel, s_wAt_mem (p := 1998) (by decide +kernel), s_d277, by decide +kernel, by decide +kernel, s_wAt_mem (p := 126) (by decide +kernel), by decide +kernel, by decide +kernel⟩
set_option maxRecDepth 100000 in
theorem s_okm278 : s_okM s_m278 := ⟨by decide +kernel, by decide +kernel, s_wAt_mem (p := 2002) (by decide +kernel), s_d278, by decide +kernel, by decide +kernel, s_wAt_mem (p := 126) (by decide +kernel), by decide +kernel, by decide +kernel⟩
set_option maxRecDepth 100000 in
theorem s_okm279 : s_okM s_m279 := ⟨by decide +kernel, by decide +kernel, s_wAt_mem (p := 2006) (by decide +kernel), s_d279, by decide +kernel, by decide +kernel, s_wAt_mem (p := 126) (by decide +kernel), by decide +kernel, by decide +kernel⟩
set_option maxRecDepth 100000 in
theorem s_okm280 : s_okM s_m280 := ⟨by decide +kernel, by decide +kernel, s_wAt_mem (p := 2010) (by decide +kernel), s_d280, by decide +kernel, by decide +kernel, s_wAt_mem (p := 126) (by decide +kernel), by decide +kernel, by decide +kernel⟩
set_option maxRecDepth 100000 in
theorem s_okm281 : s_okM s_m281 := ⟨by decide +kernel, by decide +kernel, s_wAt_mem (p := 2014) (by decide +kernel), s_d281, by decide +kernel, by decide +kernel, s_wAt_mem (p := 126) (by decide +kernel), by decide +kernel, by decide +kernel⟩
set_option maxRecDepth 100000 in
theorem s_okA0 : ∀ q ∈ [s_m0, s_m1, s_m2, s_m3, s_m4, s_m5, s_m6, s_m7, s_m8, s_m9, s_m10, s_m11, s_m12, s_m13, s_m14, s_m15, s_m16, s_m17, s_m18, s_m19, s_m20, s_m0, s_m22, s_m23, s_m24, s_m25, s_m26, s_m27, s_m28, s_m29, s_m30, s_m31, s_m32, s_m33, s_m34, s_m35, s_m36, s_m37, s_m38, s_m39], s_okM q := List.forall_mem_cons.mpr ⟨s_okm0, List.forall_mem_cons.mpr ⟨s_okm1, List.forall_mem_cons.mpr ⟨s_okm2, List.forall_mem_cons.mpr ⟨s_okm3, List.forall_mem_cons.mpr ⟨s_okm4, List.forall_mem_cons.mpr ⟨s_okm5, List.forall_mem_cons.mpr ⟨s_okm6, List.forall_mem_cons.mpr ⟨s_okm7, List.forall_mem_cons.mpr ⟨s_okm8, List.forall_mem_cons.mpr ⟨s_okm9, List.forall_mem_cons.mpr ⟨s_okm10, List.forall_mem_cons.mpr ⟨s_okm11, List.forall_mem_cons.mpr ⟨s_okm12, List.forall_mem_cons.mpr ⟨s_okm13, List.forall_mem_cons.mpr ⟨s_okm14, List.forall_mem_cons.mpr ⟨s_okm15, List.forall_mem_cons.mpr ⟨s_okm16, List.forall_mem_cons.mpr ⟨s_okm17, List.forall_mem_cons.mpr ⟨s_okm18, List.forall_mem_cons.mpr ⟨s_okm19, List.forall_mem_cons.mpr ⟨s_okm20, List.forall_mem_cons.mpr ⟨s_okm0, List.forall_mem_cons.mpr ⟨s_okm22, List.forall_mem_cons.mpr ⟨s_okm23, List.forall_mem_cons.mpr ⟨s_okm24, List.forall_mem_cons.mpr ⟨s_okm25, List.forall_mem_cons.mpr ⟨s_okm26, List.forall_mem_cons.mpr ⟨s_okm27, List.forall_mem_cons.mpr ⟨s_okm28, List.forall_mem_cons.mpr ⟨s_okm29, List.forall_mem_cons.mpr ⟨s_okm30, List.forall_mem_cons.mpr ⟨s_okm31, List.forall_mem_cons.mpr ⟨s_okm32, List.forall_mem_cons.mpr ⟨s_okm33, List.forall_mem_cons.mpr ⟨s_okm34, List.forall_mem_cons.mpr ⟨s_okm35, List.forall_mem_cons.mpr ⟨s_okm36, List.forall_mem_cons.mpr ⟨s_okm37, List.forall_mem_cons.mpr ⟨s_okm38, List.forall_mem_cons.mpr ⟨s_okm39, fun _ h => absurd h List.not_mem_nil⟩⟩⟩⟩⟩⟩⟩⟩⟩⟩⟩⟩⟩⟩⟩⟩⟩⟩⟩⟩⟩⟩⟩⟩⟩⟩⟩⟩⟩⟩⟩⟩⟩⟩⟩⟩⟩⟩⟩⟩
set_option maxRecDepth 100000 in
theorem s_okA1 : ∀ q ∈ [s_m40, s_m41, s_m42, s_m43, s_m44, s_m45, s_m46, s_m47, s_m48, s_m49, s_m50, s_m51, s_m52, s_m53, s_m54, s_m55, s_m56, s_m57, s_m58, s_m59, s_m60, s_m61, s_m62, s_m63, s_m64, s_m65, s_m66, s_m67, s_m68, s_m69, s_m70, s_m71, s_m72, s_m73, s_m74, s_m75, s_m76, s_m77, s_m78, s_m79], s_okM q := List.forall_mem_cons.mpr ⟨s_okm40, List.forall_mem_cons.mpr ⟨s_okm41, List.forall_mem_cons.mpr ⟨s_okm42, List.forall_mem_cons.mpr ⟨s_okm43, List.forall_mem_cons.mpr ⟨s_okm44, List.forall_mem_cons.mpr ⟨s_okm45, List.forall_mem_cons.mpr ⟨s_okm46, List.forall_mem_cons.mpr ⟨s_okm47, List.forall_mem_cons.mpr ⟨s_okm48, List.forall_mem_cons.mpr ⟨s_okm49, List.forall_mem_cons.mpr ⟨s_okm50, List.forall_mem_cons.mpr ⟨s_okm51, List.forall_mem_cons.mpr ⟨s_okm52, List.forall_mem_cons.mpr ⟨s_okm53, List.forall_mem_cons.mpr ⟨s_okm54, List.forall_mem_cons.mpr ⟨s_okm55, List.forall_mem_cons.mpr ⟨s_okm56, List.forall_mem_cons.mpr ⟨s_okm57, List.forall_mem_cons.mpr ⟨s_okm58, List.forall_mem_cons.mpr ⟨s_okm59, List.forall_mem_cons.mpr ⟨s_okm60, List.forall_mem_cons.mpr ⟨s_okm61, List.forall_mem_cons.mpr ⟨s_okm62, List.forall_mem_cons.mpr ⟨s_okm63, List.forall_mem_cons.mpr ⟨s_okm64, List.forall_mem_cons.mpr ⟨s_okm65, List.forall_mem_cons.mpr ⟨s_okm66, List.forall_mem_cons.mpr ⟨s_okm67, List.forall_mem_cons.mpr ⟨s_okm68, List.forall_mem_cons.mpr ⟨s_okm69, List.forall_mem_cons.mpr ⟨s_okm70, List.forall_mem_cons.mpr ⟨s_okm71, List.forall_mem_cons.mpr ⟨s_okm72, List.forall_mem_cons.mpr ⟨s_okm73, List.forall_mem_cons.mpr ⟨s_okm74, List.forall_mem_cons.mpr ⟨s_okm75, List.forall_mem_cons.mpr ⟨s_okm76, List.forall_mem_cons.mpr ⟨s_okm77, List.forall_mem_cons.mpr ⟨s_okm78, List.forall_mem_cons.mpr ⟨s_okm79, fun _ h => absurd h List.not_mem_nil⟩⟩⟩⟩⟩⟩⟩⟩⟩⟩⟩⟩⟩⟩⟩⟩⟩⟩⟩⟩⟩⟩⟩⟩⟩⟩⟩⟩⟩⟩⟩⟩⟩⟩⟩⟩⟩⟩⟩⟩
set_option maxRecDepth 100000 in
theorem s_okA2 : ∀ q ∈ [s_m80, s_m81, s_m82, s_m83, s_m84, s_m85, s_m86, s_m87, s_m88, s_m89, s_m0, s_m91, s_m92, s_m93, s_m94, s_m95, s_m96, s_m97, s_m98, s_m99, s_m100, s_m101, s_m102, s_m103, s_m104, s_m105, s_m106, s_m107, s_m108, s_m109, s_m110, s_m111, s_m112, s_m113, s_m114, s_m115, s_m116, s_m117, s_m118, s_m119], s_okM q := List.forall_mem_cons.mpr ⟨s_okm80, List.forall_mem_cons.mpr ⟨s_okm81, List.forall_mem_cons.mpr ⟨s_okm82, List.forall_mem_cons.mpr ⟨s_okm83, List.forall_mem_cons.mpr ⟨s_okm84, List.forall_mem_cons.mpr ⟨s_okm85, List.forall_mem_cons.mpr ⟨s_okm86, List.forall_mem_cons.mpr ⟨s_okm87, List.forall_mem_cons.mpr ⟨s_okm88, List.forall_mem_cons.mpr ⟨s_okm89, List.forall_mem_cons.mpr ⟨s_okm0, List.forall_mem_cons.mpr ⟨s_okm91, List.forall_mem_cons.mpr ⟨s_okm92, List.forall_mem_cons.mpr ⟨s_okm93, List.forall_mem_cons.mpr ⟨s_okm94, List.forall_mem_cons.mpr ⟨s_okm95, List.forall_mem_cons.mpr ⟨s_okm96, List.forall_mem_cons.mpr ⟨s_okm97, List.forall_mem_cons.mpr ⟨s_okm98, List.forall_mem_cons.mpr ⟨s_okm99, List.forall_mem_cons.mpr ⟨s_okm100, List.forall_mem_cons.mpr ⟨s_okm101, List.forall_mem_cons.mpr ⟨s_okm102, List.forall_mem_cons.mpr ⟨s_okm103, List.forall_mem_cons.mpr ⟨s_okm104, List.forall_mem_cons.mpr ⟨s_okm105, List.forall_mem_cons.mpr ⟨s_okm106, List.forall_mem_cons.mpr ⟨s_okm107, List.forall_mem_cons.mpr ⟨s_okm108, List.forall_mem_cons.mpr ⟨s_okm109, List.forall_mem_cons.mpr ⟨s_okm110, List.forall_mem_cons.mpr ⟨s_okm111, List.forall_mem_cons.mpr ⟨s_okm112, List.forall_mem_cons.mpr ⟨s_okm113, List.forall_mem_cons.mpr ⟨s_okm114, List.forall_mem_cons.mpr ⟨s_okm115, List.forall_mem_cons.mpr ⟨s_okm116, List.forall_mem_cons.mpr ⟨s_okm117, List.forall_mem_cons.mpr ⟨s_okm118, List.forall_mem_cons.mpr ⟨s_okm119, fun _ h => absurd h List.not_mem_nil⟩⟩⟩⟩⟩⟩⟩⟩⟩⟩⟩⟩⟩⟩⟩⟩⟩⟩⟩⟩⟩⟩⟩⟩⟩⟩⟩⟩⟩⟩⟩⟩⟩⟩⟩⟩⟩⟩⟩⟩
set_option maxRecDepth 100000 in
theorem s_okA3 : ∀ q ∈ [s_m120, s_m121, s_m122, s_m123, s_m124, s_m125, s_m126, s_m127, s_m128, s_m129, s_m130, s_m131, s_m132, s_m133, s_m134, s_m135, s_m136, s_m137, s_m138, s_m139, s_m140, s_m141, s_m142, s_m143, s_m144, s_m145, s_m146, s_m147, s_m148, s_m149, s_m150, s_m151, s_m152, s_m153, s_m154, s_m155, s_m156, s_m157, s_m158, s_m159], s_okM q := List.forall_mem_cons.mpr ⟨s_okm120, List.forall_mem_cons.mpr ⟨s_okm121, List.forall_mem_cons.mpr ⟨s_okm122, List.forall_mem_cons.mpr ⟨s_okm123, List.forall_mem_cons.mpr ⟨s_okm124, List.forall_mem_cons.mpr ⟨s_okm125, List.forall_mem_cons.mpr ⟨s_okm126, List.forall_mem_cons.mpr ⟨s_okm127, List.forall_mem_cons.mpr ⟨s_okm128, List.forall_mem_cons.mpr ⟨s_okm129, List.forall_mem_cons.mpr ⟨s_okm130, List.forall_mem_cons.mpr ⟨s_okm131, List.forall_mem_cons.mpr ⟨s_okm132, List.forall_mem_cons.mpr ⟨s_okm133, List.forall_mem_cons.mpr ⟨s_okm134, List.forall_mem_cons.mpr ⟨s_okm135, List.forall_mem_cons.mpr ⟨s_okm136, List.forall_mem_cons.mpr ⟨s_okm137, List.forall_mem_cons.mpr ⟨s_okm138, List.forall_mem_cons.mpr ⟨s_okm139, List.forall_mem_cons.mpr ⟨s_okm140, List.forall_mem_cons.mpr ⟨s_okm141, List.forall_mem_cons.mpr ⟨s_okm142, List.forall_mem_cons.mpr ⟨s_okm143, List.forall_mem_cons.mpr ⟨s_okm144, List.forall_mem_cons.mpr ⟨s_okm145, List.forall_mem_cons.mpr ⟨s_okm146, List.forall_mem_cons.mpr ⟨s_okm147, List.forall_mem_cons.mpr ⟨s_okm148, List.forall_mem_cons.mpr ⟨s_okm149, List.forall_mem_cons.mpr ⟨s_okm150, List.forall_mem_cons.mpr ⟨s_okm151, List.forall_mem_cons.mpr ⟨s_okm152, List.forall_mem_cons.mpr ⟨s_okm153, List.forall_mem_cons.mpr ⟨s_okm154, List.forall_mem_cons.mpr ⟨s_okm155, List.forall_mem_cons.mpr ⟨s_okm156, List.forall_mem_cons.mpr ⟨s_okm157, List.forall_mem_cons.mpr ⟨s_okm158, List.forall_mem_cons.mpr ⟨s_okm159, fun _ h => absurd h List.not_mem_nil⟩⟩⟩⟩⟩⟩⟩⟩⟩⟩⟩⟩⟩⟩⟩⟩⟩⟩⟩⟩⟩⟩⟩⟩⟩⟩⟩⟩⟩⟩⟩⟩⟩⟩⟩⟩⟩⟩⟩⟩
set_option maxRecDepth 100000 in
theorem s_okA4 : ∀ q ∈ [s_m160, s_m161, s_m162, s_m163, s_m164, s_m165, s_m166, s_m167, s_m168, s_m169, s_m170, s_m171, s_m172, s_m173, s_m174, s_m175, s_m176, s_m177, s_m178, s_m179, s_m180, s_m181, s_m182, s_m183, s_m184, s_m185, s_m186, s_m187, s_m188, s_m189, s_m190, s_m191, s_m192, s_m193, s_m194, s_m195, s_m196, s_m197, s_m198, s_m199], s_okM q := List.forall_mem_cons.mpr ⟨s_okm160, List.forall_mem_cons.mpr ⟨s_okm161, List.forall_mem_cons.mpr ⟨s_okm162, List.forall_mem_cons.mpr ⟨s_okm163, List.forall_mem_cons.mpr ⟨s_okm164, List.forall_mem_cons.mpr ⟨s_okm165, List.forall_mem_cons.mpr ⟨s_okm166, List.forall_mem_cons.mpr ⟨s_okm167, List.forall_mem_cons.mpr ⟨s_okm168, List.forall_mem_cons.mpr ⟨s_okm169, List.forall_mem_cons.mpr ⟨s_okm170, List.forall_mem_cons.mpr ⟨s_okm171, List.forall_mem_cons.mpr ⟨s_okm172, List.forall_mem_cons.mpr ⟨s_okm173, List.forall_mem_cons.mpr ⟨s_okm174, List.forall_mem_cons.mpr ⟨s_okm175, List.forall_mem_cons.mpr ⟨s_okm176, List.forall_mem_cons.mpr ⟨s_okm177, List.forall_mem_cons.mpr ⟨s_okm178, List.forall_mem_cons.mpr ⟨s_okm179, List.forall_mem_cons.mpr ⟨s_okm180, List.forall_mem_cons.mpr ⟨s_okm181, List.forall_mem_cons.mpr ⟨s_okm182, List.forall_mem_cons.mpr ⟨s_okm183, List.forall_mem_cons.mpr ⟨s_okm184, List.forall_mem_cons.mpr ⟨s_okm185, List.forall_mem_cons.mpr ⟨s_okm186, List.forall_mem_cons.mpr ⟨s_okm187, List.forall_mem_cons.mpr ⟨s_okm188, List.forall_mem_cons.mpr ⟨s_okm189, List.forall_mem_cons.mpr ⟨s_okm190, List.forall_mem_cons.mpr ⟨s_okm191, List.forall_mem_cons.mpr ⟨s_okm192, List.forall_mem_cons.mpr ⟨s_okm193, List.forall_mem_cons.mpr ⟨s_okm194, List.forall_mem_cons.mpr ⟨s_okm195, List.forall_mem_cons.mpr ⟨s_okm196, List.forall_mem_cons.mpr ⟨s_okm197, List.forall_mem_cons.mpr ⟨s_okm198, List.forall_mem_cons.mpr ⟨s_okm199, fun _ h => absurd h List.not_mem_nil⟩⟩⟩⟩⟩⟩⟩⟩⟩⟩⟩⟩⟩⟩⟩⟩⟩⟩⟩⟩⟩⟩⟩⟩⟩⟩⟩⟩⟩⟩⟩⟩⟩⟩⟩⟩⟩⟩⟩⟩
set_option maxRecDepth 100000 in
theorem s_okA5 : ∀ q ∈ [s_m200, s_m201, s_m202, s_m203, s_m204, s_m205, s_m206, s_m207, s_m208, s_m209, s_m210, s_m211, s_m212, s_m213, s_m214, s_m215, s_m216, s_m217, s_m218, s_m219, s_m220, s_m221, s_m222, s_m223, s_m224, s_m225, s_m226, s_m227, s_m228, s_m229, s_m230, s_m231, s_m232, s_m233, s_m234, s_m235, s_m236, s_m237, s_m238, s_m239], s_okM q := List.forall_mem_cons.mpr ⟨s_okm200, List.forall_mem_cons.mpr ⟨s_okm201, List.forall_mem_cons.mpr ⟨s_okm202, List.forall_mem_cons.mpr ⟨s_okm203, List.forall_mem_cons.mpr ⟨s_okm204, List.forall_mem_cons.mpr ⟨s_okm205, List.forall_mem_cons.mpr ⟨s_okm206, List.forall_mem_cons.mpr ⟨s_okm207, List.forall_mem_cons.mpr ⟨s_okm208, List.forall_mem_cons.mpr ⟨s_okm209, List.forall_mem_cons.mpr ⟨s_okm210, List.forall_mem_cons.mpr ⟨s_okm211, List.forall_mem_cons.mpr ⟨s_okm212, List.forall_mem_cons.mpr ⟨s_okm213, List.forall_mem_cons.mpr ⟨s_okm214, List.forall_mem_cons.mpr ⟨s_okm215, List.forall_mem_cons.mpr ⟨s_okm216, List.forall_mem_cons.mpr ⟨s_okm217, List.forall_mem_cons.mpr ⟨s_okm218, List.forall_mem_cons.mpr ⟨s_okm219, List.forall_mem_cons.mpr ⟨s_okm220, List.forall_mem_cons.mpr ⟨s_okm221, List.forall_mem_cons.mpr ⟨s_okm222, List.forall_mem_cons.mpr ⟨s_okm223, List.forall_mem_cons.mpr ⟨s_okm224, List.forall_mem_cons.mpr ⟨s_okm225, List.forall_mem_cons.mpr ⟨s_okm226, List.forall_mem_cons.mpr ⟨s_okm227, List.forall_mem_cons.mpr ⟨s_okm228, List.forall_mem_cons.mpr ⟨s_okm229, List.forall_mem_cons.mpr ⟨s_okm230, List.forall_mem_cons.mpr ⟨s_okm231, List.forall_mem_cons.mpr ⟨s_okm232, List.forall_mem_cons.mpr ⟨s_okm233, List.forall_mem_cons.mpr ⟨s_okm234, List.forall_mem_cons.mpr ⟨s_okm235, List.forall_mem_cons.mpr ⟨s_okm236, List.forall_mem_cons.mpr ⟨s_okm237, List.forall_mem_cons.mpr ⟨s_okm238, List.forall_mem_cons.mpr ⟨s_okm239, fun _ h => absurd h List.not_mem_nil⟩⟩⟩⟩⟩⟩⟩⟩⟩⟩⟩⟩⟩⟩⟩⟩⟩⟩⟩⟩⟩⟩⟩⟩⟩⟩⟩⟩⟩⟩⟩⟩⟩⟩⟩⟩⟩⟩⟩⟩
set_option maxRecDepth 100000 in
theorem s_okA6 : ∀ q ∈ [s_m240, s_m241, s_m242, s_m243, s_m244, s_m245, s_m246, s_m247, s_m248, s_m249, s_m250, s_m251, s_m252, s_m253, s_m254, s_m255, s_m256, s_m257, s_m258, s_m259, s_m260, s_m261, s_m262, s_m263, s_m264, s_m265, s_m266, s_m267, s_m268, s_m269, s_m270, s_m271, s_m272, s_m273, s_m274, s_m275, s_m276, s_m277, s_m278, s_m279], s_okM q := List.forall_mem_cons.mpr ⟨s_okm240, List.forall_mem_cons.mpr ⟨s_okm241, List.forall_mem_cons.mpr ⟨s_okm242, List.forall_mem_cons.mpr ⟨s_okm243, List.forall_mem_cons.mpr ⟨s_okm244, List.forall_mem_cons.mpr ⟨s_okm245, List.forall_mem_cons.mpr ⟨s_okm246, List.forall_mem_cons.mpr ⟨s_okm247, List.forall_mem_cons.mpr ⟨s_okm248, List.forall_mem_cons.mpr ⟨s_okm249, List.forall_mem_cons.mpr ⟨s_okm250, List.forall_mem_cons.mpr ⟨s_okm251, List.forall_mem_cons.mpr ⟨s_okm252, List.forall_mem_cons.mpr ⟨s_okm253, List.forall_mem_cons.mpr ⟨s_okm254, List.forall_mem_cons.mpr ⟨s_okm255, List.forall_mem_cons.mpr ⟨s_okm256, List.forall_mem_cons.mpr ⟨s_okm257, List.forall_mem_cons.mpr ⟨s_okm258, List.forall_mem_cons.mpr ⟨s_okm259, List.forall_mem_cons.mpr ⟨s_okm260, List.forall_mem_cons.mpr ⟨s_okm261, List.forall_mem_cons.mpr ⟨s_okm262, List.forall_mem_cons.mpr ⟨s_okm263, List.forall_mem_cons.mpr ⟨s_okm264, List.forall_mem_cons.mpr ⟨s_okm265, List.forall_mem_cons.mpr ⟨s_okm266, List.forall_mem_cons.mpr ⟨s_okm267, List.forall_mem_cons.mpr ⟨s_okm268, List.forall_mem_cons.mpr ⟨s_okm269, List.forall_mem_cons.mpr ⟨s_okm270, List.forall_mem_cons.mpr ⟨s_okm271, List.forall_mem_cons.mpr ⟨s_okm272, List.forall_mem_cons.mpr ⟨s_okm273, List.forall_mem_cons.mpr ⟨s_okm274, List.forall_mem_cons.mpr ⟨s_okm275, List.forall_mem_cons.mpr ⟨s_okm276, List.forall_mem_cons.mpr ⟨s_okm277, List.forall_mem_cons.mpr ⟨s_okm278, List.forall_mem_cons.mpr ⟨s_okm279, fun _ h => absurd h List.not_mem_nil⟩⟩⟩⟩⟩⟩⟩⟩⟩⟩⟩⟩⟩⟩⟩⟩⟩⟩⟩⟩⟩⟩⟩⟩⟩⟩⟩⟩⟩⟩⟩⟩⟩⟩⟩⟩⟩⟩⟩⟩
set_option maxRecDepth 100000 in
theorem s_okA7 : ∀ q ∈ [s_m280, s_m281], s_okM q := List.forall_mem_cons.mpr ⟨s_okm280, List.forall_mem_cons.mpr ⟨s_okm281, fun _ h => absurd h List.not_mem_nil⟩⟩
set_option maxRecDepth 100000 in
theorem s_okMs : ∀ q ∈ s_ms, s_okM q := by
  intro q hq
  have e : s_ms = [s_m0, s_m1, s_m2, s_m3, s_m4, s_m5, s_m6, s_m7, s_m8, s_m9, s_m10, s_m11, s_m12, s_m13, s_m14, s_m15, s_m16, s_m17, s_m18, s_m19, s_m20, s_m0, s_m22, s_m23, s_m24, s_m25, s_m26, s_m27, s_m28, s_m29, s_m30, s_m31, s_m32, s_m33, s_m34, s_m35, s_m36, s_m37, s_m38, s_m39] ++ ([s_m40, s_m41, s_m42, s_m43, s_m44, s_m45, s_m46, s_m47, s_m48, s_m49, s_m50, s_m51, s_m52, s_m53, s_m54, s_m55, s_m56, s_m57, s_m58, s_m59, s_m60, s_m61, s_m62, s_m63, s_m64, s_m65, s_m66, s_m67, s_m68, s_m69, s_m70, s_m71, s_m72, s_m73, s_m74, s_m75, s_m76, s_m77, s_m78, s_m79] ++ ([s_m80, s_m81, s_m82, s_m83, s_m84, s_m85, s_m86, s_m87, s_m88, s_m89, s_m0, s_m91, s_m92, s_m93, s_m94, s_m95, s_m96, s_m97, s_m98, s_m99, s_m100, s_m101, s_m102, s_m103, s_m104, s_m105, s_m106, s_m107, s_m108, s_m109, s_m110, s_m111, s_m112, s_m113, s_m114, s_m115, s_m116, s_m117, s_m118, s_m119] ++ ([s_m120, s_m121, s_m122, s_m123, s_m124, s_m125, s_m126, s_m127, s_m128, s_m129, s_m130, s_m131, s_m132, s_m133, s_m134, s_m135, s_m136, s_m137, s_m138, s_m139, s_m140, s_m141, s_m142, s_m143, s_m144, s_m145, s_m146, s_m147, s_m148, s_m149, s_m150, s_m151, s_m152, s_m153, s_m154, s_m155, s_m156, s_m157, s_m158, s_m159] ++ ([s_m160, s_m161, s_m162, s_m163, s_m164, s_m165, s_m166, s_m167, s_m168, s_m169, s_m170, s_m171, s_m172, s_m173, s_m174, s_m175, s_m176, s_m177, s_m178, s_m179, s_m180, s_m181, s_m182, s_m183, s_m184, s_m185, s_m186, s_m187, s_m188, s_m189, s_m190, s_m191, s_m192, s_m193, s_m194, s_m195, s_m196, s_m197, s_m198, s_m199] ++ ([s_m200, s_m201, s_m202, s_m203, s_m204, s_m205, s_m206, s_m207, s_m208, s_m209, s_m210, s_m211, s_m212, s_m213, s_m214, s_m215, s_m216, s_m217, s_m218, s_m219, s_m220, s_m221, s_m222, s_m223, s_m224, s_m225, s_m226, s_m227, s_m228, s_m229, s_m230, s_m231, s_m232, s_m233, s_m234, s_m235, s_m236, s_m237, s_m238, s_m239] ++ ([s_m240, s_m241, s_m242, s_m243, s_m244, s_m245, s_m246, s_m247, s_m248, s_m249, s_m250, s_m251, s_m252, s_m253, s_m254, s_m255, s_m256, s_m257, s_m258, s_m259, s_m260, s_m261, s_m262, s_m263, s_m264, s_m265, s_m266, s_m267, s_m268, s_m269, s_m270, s_m271, s_m272, s_m273, s_m274, s_m275, s_m276, s_m277, s_m278, s_m279] ++ ([s_m280, s_m281]))))))) := rfl
  rw [e] at hq
  rcases List.mem_append.mp hq with hq | hq
  · exact s_okA0 q hq
  rcases List.mem_append.mp hq with hq | hq
  · exact s_okA1 q hq
  rcases List.mem_append.mp hq with hq | hq
  · exact s_okA2 q hq
  rcases List.mem_append.mp hq with hq | hq
  · exact s_okA3 q hq
  rcases List.mem_append.mp hq with hq | hq
  · exact s_okA4 q hq
  rcases List.mem_append.mp hq with hq | hq
  · exact s_okA5 q hq
  rcases List.mem_append.mp hq with hq | hq
  · exact s_okA6 q hq
  exact s_okA7 q hq
