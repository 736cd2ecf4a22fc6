/-! what the table says of each method, and calls by arity -/
theorem jm0_nl : jM_nl jm0 = 1 := rfl
theorem jm0_rt : jM_rt jm0 = (some .int) := rfl
theorem jm0_fr : jM_fr jm0 = 0 := rfl
theorem jm0_lo : jM_lo jm0 = 0 := rfl
theorem jm1_nl : jM_nl jm1 = 4 := rfl
theorem jm1_rt : jM_rt jm1 = none := rfl
theorem jm1_fr : jM_fr jm1 = 0 := rfl
theorem jm1_lo : jM_lo jm1 = 0 := rfl
theorem jm2_nl : jM_nl jm2 = 2 := rfl
theorem jm2_rt : jM_rt jm2 = none := rfl
theorem jm2_fr : jM_fr jm2 = 1 := rfl
theorem jm2_lo : jM_lo jm2 = 26 := rfl
theorem jm3_nl : jM_nl jm3 = 2 := rfl
theorem jm3_rt : jM_rt jm3 = none := rfl
theorem jm3_fr : jM_fr jm3 = 0 := rfl
theorem jm3_lo : jM_lo jm3 = 0 := rfl
theorem jm4_nl : jM_nl jm4 = 7 := rfl
theorem jm4_rt : jM_rt jm4 = none := rfl
theorem jm4_fr : jM_fr jm4 = 1 := rfl
theorem jm4_lo : jM_lo jm4 = 22 := rfl
theorem jm5_nl : jM_nl jm5 = 2 := rfl
theorem jm5_rt : jM_rt jm5 = (some .int) := rfl
theorem jm5_fr : jM_fr jm5 = 2 := rfl
theorem jm5_lo : jM_lo jm5 = 45 := rfl
theorem jm6_nl : jM_nl jm6 = 3 := rfl
theorem jm6_rt : jM_rt jm6 = (some .boolean) := rfl
theorem jm6_fr : jM_fr jm6 = 0 := rfl
theorem jm6_lo : jM_lo jm6 = 0 := rfl
theorem jm7_nl : jM_nl jm7 = 3 := rfl
theorem jm7_rt : jM_rt jm7 = none := rfl
theorem jm7_fr : jM_fr jm7 = 0 := rfl
theorem jm7_lo : jM_lo jm7 = 0 := rfl
theorem jm8_nl : jM_nl jm8 = 4 := rfl
theorem jm8_rt : jM_rt jm8 = none := rfl
theorem jm8_fr : jM_fr jm8 = 1 := rfl
theorem jm8_lo : jM_lo jm8 = 22 := rfl
theorem jm9_nl : jM_nl jm9 = 1 := rfl
theorem jm9_rt : jM_rt jm9 = none := rfl
theorem jm9_fr : jM_fr jm9 = 1 := rfl
theorem jm9_lo : jM_lo jm9 = 26 := rfl
theorem jm10_nl : jM_nl jm10 = 2 := rfl
theorem jm10_rt : jM_rt jm10 = none := rfl
theorem jm10_fr : jM_fr jm10 = 2 := rfl
theorem jm10_lo : jM_lo jm10 = 47 := rfl
theorem jm11_nl : jM_nl jm11 = 2 := rfl
theorem jm11_rt : jM_rt jm11 = none := rfl
theorem jm11_fr : jM_fr jm11 = 1 := rfl
theorem jm11_lo : jM_lo jm11 = 26 := rfl
theorem jm12_nl : jM_nl jm12 = 2 := rfl
theorem jm12_rt : jM_rt jm12 = none := rfl
theorem jm12_fr : jM_fr jm12 = 1 := rfl
theorem jm12_lo : jM_lo jm12 = 26 := rfl
theorem jm13_nl : jM_nl jm13 = 3 := rfl
theorem jm13_rt : jM_rt jm13 = none := rfl
theorem jm13_fr : jM_fr jm13 = 2 := rfl
theorem jm13_lo : jM_lo jm13 = 42 := rfl
theorem jm14_nl : jM_nl jm14 = 2 := rfl
theorem jm14_rt : jM_rt jm14 = (some .boolean) := rfl
theorem jm14_fr : jM_fr jm14 = 0 := rfl
theorem jm14_lo : jM_lo jm14 = 0 := rfl
theorem jm15_nl : jM_nl jm15 = 3 := rfl
theorem jm15_rt : jM_rt jm15 = none := rfl
theorem jm15_fr : jM_fr jm15 = 0 := rfl
theorem jm15_lo : jM_lo jm15 = 0 := rfl
theorem jm16_nl : jM_nl jm16 = 1 := rfl
theorem jm16_rt : jM_rt jm16 = (some .boolean) := rfl
theorem jm16_fr : jM_fr jm16 = 0 := rfl
theorem jm16_lo : jM_lo jm16 = 0 := rfl
theorem jm17_nl : jM_nl jm17 = 3 := rfl
theorem jm17_rt : jM_rt jm17 = (some .boolean) := rfl
theorem jm17_fr : jM_fr jm17 = 0 := rfl
theorem jm17_lo : jM_lo jm17 = 0 := rfl
theorem jm18_nl : jM_nl jm18 = 3 := rfl
theorem jm18_rt : jM_rt jm18 = (some .boolean) := rfl
theorem jm18_fr : jM_fr jm18 = 1 := rfl
theorem jm18_lo : jM_lo jm18 = 22 := rfl
theorem jm19_nl : jM_nl jm19 = 1 := rfl
theorem jm19_rt : jM_rt jm19 = none := rfl
theorem jm19_fr : jM_fr jm19 = 2 := rfl
theorem jm19_lo : jM_lo jm19 = 46 := rfl
theorem jm20_nl : jM_nl jm20 = 1 := rfl
theorem jm20_rt : jM_rt jm20 = none := rfl
theorem jm20_fr : jM_fr jm20 = 0 := rfl
theorem jm20_lo : jM_lo jm20 = 0 := rfl
theorem jm21_nl : jM_nl jm21 = 1 := rfl
theorem jm21_rt : jM_rt jm21 = none := rfl
theorem jm21_fr : jM_fr jm21 = 0 := rfl
theorem jm21_lo : jM_lo jm21 = 0 := rfl
theorem jm22_nl : jM_nl jm22 = 2 := rfl
theorem jm22_rt : jM_rt jm22 = none := rfl
theorem jm22_fr : jM_fr jm22 = 4 := rfl
theorem jm22_lo : jM_lo jm22 = 96 := rfl
theorem jm23_nl : jM_nl jm23 = 5 := rfl
theorem jm23_rt : jM_rt jm23 = none := rfl
theorem jm23_fr : jM_fr jm23 = 3 := rfl
theorem jm23_lo : jM_lo jm23 = 70 := rfl
theorem jm24_nl : jM_nl jm24 = 4 := rfl
theorem jm24_rt : jM_rt jm24 = none := rfl
theorem jm24_fr : jM_fr jm24 = 3 := rfl
theorem jm24_lo : jM_lo jm24 = 73 := rfl
theorem jm25_nl : jM_nl jm25 = 2 := rfl
theorem jm25_rt : jM_rt jm25 = none := rfl
theorem jm25_fr : jM_fr jm25 = 0 := rfl
theorem jm25_lo : jM_lo jm25 = 0 := rfl
theorem jm26_nl : jM_nl jm26 = 6 := rfl
theorem jm26_rt : jM_rt jm26 = none := rfl
theorem jm26_fr : jM_fr jm26 = 2 := rfl
theorem jm26_lo : jM_lo jm26 = 48 := rfl
theorem jm27_nl : jM_nl jm27 = 3 := rfl
theorem jm27_rt : jM_rt jm27 = (some .int) := rfl
theorem jm27_fr : jM_fr jm27 = 0 := rfl
theorem jm27_lo : jM_lo jm27 = 0 := rfl
theorem jm28_nl : jM_nl jm28 = 3 := rfl
theorem jm28_rt : jM_rt jm28 = (some .int) := rfl
theorem jm28_fr : jM_fr jm28 = 0 := rfl
theorem jm28_lo : jM_lo jm28 = 0 := rfl
theorem jm29_nl : jM_nl jm29 = 4 := rfl
theorem jm29_rt : jM_rt jm29 = (some .int) := rfl
theorem jm29_fr : jM_fr jm29 = 0 := rfl
theorem jm29_lo : jM_lo jm29 = 0 := rfl
theorem jm30_nl : jM_nl jm30 = 4 := rfl
theorem jm30_rt : jM_rt jm30 = (some .boolean) := rfl
theorem jm30_fr : jM_fr jm30 = 4 := rfl
theorem jm30_lo : jM_lo jm30 = 99 := rfl
theorem jm31_nl : jM_nl jm31 = 6 := rfl
theorem jm31_rt : jM_rt jm31 = (some .boolean) := rfl
theorem jm31_fr : jM_fr jm31 = 0 := rfl
theorem jm31_lo : jM_lo jm31 = 0 := rfl
theorem jm32_nl : jM_nl jm32 = 1 := rfl
theorem jm32_rt : jM_rt jm32 = none := rfl
theorem jm32_fr : jM_fr jm32 = 2 := rfl
theorem jm32_lo : jM_lo jm32 = 48 := rfl
theorem jm33_nl : jM_nl jm33 = 7 := rfl
theorem jm33_rt : jM_rt jm33 = (some .int) := rfl
theorem jm33_fr : jM_fr jm33 = 6 := rfl
theorem jm33_lo : jM_lo jm33 = 154 := rfl
theorem jm34_nl : jM_nl jm34 = 6 := rfl
theorem jm34_rt : jM_rt jm34 = none := rfl
theorem jm34_fr : jM_fr jm34 = 5 := rfl
theorem jm34_lo : jM_lo jm34 = 129 := rfl
theorem jm35_nl : jM_nl jm35 = 11 := rfl
theorem jm35_rt : jM_rt jm35 = none := rfl
theorem jm35_fr : jM_fr jm35 = 4 := rfl
theorem jm35_lo : jM_lo jm35 = 99 := rfl
theorem jm36_nl : jM_nl jm36 = 5 := rfl
theorem jm36_rt : jM_rt jm36 = (some .int) := rfl
theorem jm36_fr : jM_fr jm36 = 0 := rfl
theorem jm36_lo : jM_lo jm36 = 0 := rfl
theorem jm37_nl : jM_nl jm37 = 1 := rfl
theorem jm37_rt : jM_rt jm37 = none := rfl
theorem jm37_fr : jM_fr jm37 = 1 := rfl
theorem jm37_lo : jM_lo jm37 = 26 := rfl
theorem jm38_nl : jM_nl jm38 = 5 := rfl
theorem jm38_rt : jM_rt jm38 = (some .boolean) := rfl
theorem jm38_fr : jM_fr jm38 = 1 := rfl
theorem jm38_lo : jM_lo jm38 = 27 := rfl
theorem jm39_nl : jM_nl jm39 = 8 := rfl
theorem jm39_rt : jM_rt jm39 = (some .boolean) := rfl
theorem jm39_fr : jM_fr jm39 = 0 := rfl
theorem jm39_lo : jM_lo jm39 = 0 := rfl
theorem jm40_nl : jM_nl jm40 = 6 := rfl
theorem jm40_rt : jM_rt jm40 = none := rfl
theorem jm40_fr : jM_fr jm40 = 3 := rfl
theorem jm40_lo : jM_lo jm40 = 70 := rfl
theorem jm41_nl : jM_nl jm41 = 4 := rfl
theorem jm41_rt : jM_rt jm41 = none := rfl
theorem jm41_fr : jM_fr jm41 = 1 := rfl
theorem jm41_lo : jM_lo jm41 = 22 := rfl
theorem jm42_nl : jM_nl jm42 = 3 := rfl
theorem jm42_rt : jM_rt jm42 = (some .int) := rfl
theorem jm42_fr : jM_fr jm42 = 0 := rfl
theorem jm42_lo : jM_lo jm42 = 0 := rfl
theorem jm43_nl : jM_nl jm43 = 4 := rfl
theorem jm43_rt : jM_rt jm43 = none := rfl
theorem jm43_fr : jM_fr jm43 = 2 := rfl
theorem jm43_lo : jM_lo jm43 = 47 := rfl
theorem jm44_nl : jM_nl jm44 = 6 := rfl
theorem jm44_rt : jM_rt jm44 = none := rfl
theorem jm44_fr : jM_fr jm44 = 1 := rfl
theorem jm44_lo : jM_lo jm44 = 22 := rfl
theorem jm45_nl : jM_nl jm45 = 2 := rfl
theorem jm45_rt : jM_rt jm45 = none := rfl
theorem jm45_fr : jM_fr jm45 = 1 := rfl
theorem jm45_lo : jM_lo jm45 = 26 := rfl
theorem jm46_nl : jM_nl jm46 = 7 := rfl
theorem jm46_rt : jM_rt jm46 = none := rfl
theorem jm46_fr : jM_fr jm46 = 0 := rfl
theorem jm46_lo : jM_lo jm46 = 0 := rfl
theorem jm47_nl : jM_nl jm47 = 1 := rfl
theorem jm47_rt : jM_rt jm47 = (some .boolean) := rfl
theorem jm47_fr : jM_fr jm47 = 0 := rfl
theorem jm47_lo : jM_lo jm47 = 0 := rfl
theorem jm48_nl : jM_nl jm48 = 3 := rfl
theorem jm48_rt : jM_rt jm48 = (some .int) := rfl
theorem jm48_fr : jM_fr jm48 = 0 := rfl
theorem jm48_lo : jM_lo jm48 = 0 := rfl
theorem jm49_nl : jM_nl jm49 = 3 := rfl
theorem jm49_rt : jM_rt jm49 = (some .int) := rfl
theorem jm49_fr : jM_fr jm49 = 0 := rfl
theorem jm49_lo : jM_lo jm49 = 0 := rfl
theorem jm50_nl : jM_nl jm50 = 3 := rfl
theorem jm50_rt : jM_rt jm50 = (some .int) := rfl
theorem jm50_fr : jM_fr jm50 = 0 := rfl
theorem jm50_lo : jM_lo jm50 = 0 := rfl
theorem jm51_nl : jM_nl jm51 = 3 := rfl
theorem jm51_rt : jM_rt jm51 = (some .int) := rfl
theorem jm51_fr : jM_fr jm51 = 0 := rfl
theorem jm51_lo : jM_lo jm51 = 0 := rfl
theorem jm52_nl : jM_nl jm52 = 4 := rfl
theorem jm52_rt : jM_rt jm52 = (some .int) := rfl
theorem jm52_fr : jM_fr jm52 = 1 := rfl
theorem jm52_lo : jM_lo jm52 = 22 := rfl
theorem jm53_nl : jM_nl jm53 = 5 := rfl
theorem jm53_rt : jM_rt jm53 = (some .int) := rfl
theorem jm53_fr : jM_fr jm53 = 1 := rfl
theorem jm53_lo : jM_lo jm53 = 22 := rfl
theorem jm54_nl : jM_nl jm54 = 1 := rfl
theorem jm54_rt : jM_rt jm54 = none := rfl
theorem jm54_fr : jM_fr jm54 = 2 := rfl
theorem jm54_lo : jM_lo jm54 = 46 := rfl
theorem jm55_nl : jM_nl jm55 = 8 := rfl
theorem jm55_rt : jM_rt jm55 = (some .int) := rfl
theorem jm55_fr : jM_fr jm55 = 5 := rfl
theorem jm55_lo : jM_lo jm55 = 126 := rfl
theorem jm56_nl : jM_nl jm56 = 8 := rfl
theorem jm56_rt : jM_rt jm56 = (some .int) := rfl
theorem jm56_fr : jM_fr jm56 = 4 := rfl
theorem jm56_lo : jM_lo jm56 = 99 := rfl
theorem jm57_nl : jM_nl jm57 = 3 := rfl
theorem jm57_rt : jM_rt jm57 = none := rfl
theorem jm57_fr : jM_fr jm57 = 0 := rfl
theorem jm57_lo : jM_lo jm57 = 0 := rfl
theorem jm58_nl : jM_nl jm58 = 2 := rfl
theorem jm58_rt : jM_rt jm58 = none := rfl
theorem jm58_fr : jM_fr jm58 = 2 := rfl
theorem jm58_lo : jM_lo jm58 = 49 := rfl
theorem jm59_nl : jM_nl jm59 = 3 := rfl
theorem jm59_rt : jM_rt jm59 = (some .boolean) := rfl
theorem jm59_fr : jM_fr jm59 = 0 := rfl
theorem jm59_lo : jM_lo jm59 = 0 := rfl
theorem jm60_nl : jM_nl jm60 = 3 := rfl
theorem jm60_rt : jM_rt jm60 = (some .int) := rfl
theorem jm60_fr : jM_fr jm60 = 1 := rfl
theorem jm60_lo : jM_lo jm60 = 26 := rfl
theorem jm61_nl : jM_nl jm61 = 3 := rfl
theorem jm61_rt : jM_rt jm61 = none := rfl
theorem jm61_fr : jM_fr jm61 = 1 := rfl
theorem jm61_lo : jM_lo jm61 = 26 := rfl
theorem jm62_nl : jM_nl jm62 = 2 := rfl
theorem jm62_rt : jM_rt jm62 = none := rfl
theorem jm62_fr : jM_fr jm62 = 0 := rfl
theorem jm62_lo : jM_lo jm62 = 0 := rfl
theorem jm63_nl : jM_nl jm63 = 6 := rfl
theorem jm63_rt : jM_rt jm63 = (some .int) := rfl
theorem jm63_fr : jM_fr jm63 = 1 := rfl
theorem jm63_lo : jM_lo jm63 = 23 := rfl
theorem jm64_nl : jM_nl jm64 = 4 := rfl
theorem jm64_rt : jM_rt jm64 = (some .int) := rfl
theorem jm64_fr : jM_fr jm64 = 0 := rfl
theorem jm64_lo : jM_lo jm64 = 0 := rfl
theorem jm65_nl : jM_nl jm65 = 1 := rfl
theorem jm65_rt : jM_rt jm65 = none := rfl
theorem jm65_fr : jM_fr jm65 = 1 := rfl
theorem jm65_lo : jM_lo jm65 = 26 := rfl
theorem jm66_nl : jM_nl jm66 = 4 := rfl
theorem jm66_rt : jM_rt jm66 = (some .long) := rfl
theorem jm66_fr : jM_fr jm66 = 0 := rfl
theorem jm66_lo : jM_lo jm66 = 0 := rfl
theorem jm67_nl : jM_nl jm67 = 1 := rfl
theorem jm67_rt : jM_rt jm67 = (some .int) := rfl
theorem jm67_fr : jM_fr jm67 = 0 := rfl
theorem jm67_lo : jM_lo jm67 = 0 := rfl
theorem jm68_nl : jM_nl jm68 = 2 := rfl
theorem jm68_rt : jM_rt jm68 = (some .int) := rfl
theorem jm68_fr : jM_fr jm68 = 0 := rfl
theorem jm68_lo : jM_lo jm68 = 0 := rfl
theorem jm69_nl : jM_nl jm69 = 2 := rfl
theorem jm69_rt : jM_rt jm69 = (some .int) := rfl
theorem jm69_fr : jM_fr jm69 = 0 := rfl
theorem jm69_lo : jM_lo jm69 = 0 := rfl
theorem jm70_nl : jM_nl jm70 = 3 := rfl
theorem jm70_rt : jM_rt jm70 = none := rfl
theorem jm70_fr : jM_fr jm70 = 2 := rfl
theorem jm70_lo : jM_lo jm70 = 42 := rfl
theorem jm71_nl : jM_nl jm71 = 3 := rfl
theorem jm71_rt : jM_rt jm71 = none := rfl
theorem jm71_fr : jM_fr jm71 = 0 := rfl
theorem jm71_lo : jM_lo jm71 = 0 := rfl
theorem jm72_nl : jM_nl jm72 = 2 := rfl
theorem jm72_rt : jM_rt jm72 = none := rfl
theorem jm72_fr : jM_fr jm72 = 1 := rfl
theorem jm72_lo : jM_lo jm72 = 21 := rfl
theorem jm73_nl : jM_nl jm73 = 5 := rfl
theorem jm73_rt : jM_rt jm73 = none := rfl
theorem jm73_fr : jM_fr jm73 = 1 := rfl
theorem jm73_lo : jM_lo jm73 = 22 := rfl
theorem jm74_nl : jM_nl jm74 = 2 := rfl
theorem jm74_rt : jM_rt jm74 = none := rfl
theorem jm74_fr : jM_fr jm74 = 1 := rfl
theorem jm74_lo : jM_lo jm74 = 26 := rfl
theorem jm75_nl : jM_nl jm75 = 4 := rfl
theorem jm75_rt : jM_rt jm75 = (some .boolean) := rfl
theorem jm75_fr : jM_fr jm75 = 0 := rfl
theorem jm75_lo : jM_lo jm75 = 0 := rfl
theorem jm76_nl : jM_nl jm76 = 8 := rfl
theorem jm76_rt : jM_rt jm76 = (some .int) := rfl
theorem jm76_fr : jM_fr jm76 = 1 := rfl
theorem jm76_lo : jM_lo jm76 = 22 := rfl
theorem jm77_nl : jM_nl jm77 = 6 := rfl
theorem jm77_rt : jM_rt jm77 = (some .long) := rfl
theorem jm77_fr : jM_fr jm77 = 1 := rfl
theorem jm77_lo : jM_lo jm77 = 21 := rfl
theorem jm78_nl : jM_nl jm78 = 9 := rfl
theorem jm78_rt : jM_rt jm78 = none := rfl
theorem jm78_fr : jM_fr jm78 = 2 := rfl
theorem jm78_lo : jM_lo jm78 = 42 := rfl
theorem jm79_nl : jM_nl jm79 = 4 := rfl
theorem jm79_rt : jM_rt jm79 = (some .int) := rfl
theorem jm79_fr : jM_fr jm79 = 0 := rfl
theorem jm79_lo : jM_lo jm79 = 0 := rfl
theorem jm80_nl : jM_nl jm80 = 5 := rfl
theorem jm80_rt : jM_rt jm80 = (some .int) := rfl
theorem jm80_fr : jM_fr jm80 = 1 := rfl
theorem jm80_lo : jM_lo jm80 = 21 := rfl
theorem jm81_nl : jM_nl jm81 = 1 := rfl
theorem jm81_rt : jM_rt jm81 = none := rfl
theorem jm81_fr : jM_fr jm81 = 1 := rfl
theorem jm81_lo : jM_lo jm81 = 26 := rfl
theorem jm82_nl : jM_nl jm82 = 4 := rfl
theorem jm82_rt : jM_rt jm82 = none := rfl
theorem jm82_fr : jM_fr jm82 = 0 := rfl
theorem jm82_lo : jM_lo jm82 = 0 := rfl
theorem jm83_nl : jM_nl jm83 = 4 := rfl
theorem jm83_rt : jM_rt jm83 = (some .int) := rfl
theorem jm83_fr : jM_fr jm83 = 0 := rfl
theorem jm83_lo : jM_lo jm83 = 0 := rfl
theorem jm84_nl : jM_nl jm84 = 6 := rfl
theorem jm84_rt : jM_rt jm84 = (some .int) := rfl
theorem jm84_fr : jM_fr jm84 = 4 := rfl
theorem jm84_lo : jM_lo jm84 = 99 := rfl
theorem jm85_nl : jM_nl jm85 = 4 := rfl
theorem jm85_rt : jM_rt jm85 = (some .boolean) := rfl
theorem jm85_fr : jM_fr jm85 = 0 := rfl
theorem jm85_lo : jM_lo jm85 = 0 := rfl
theorem jm86_nl : jM_nl jm86 = 4 := rfl
theorem jm86_rt : jM_rt jm86 = (some .int) := rfl
theorem jm86_fr : jM_fr jm86 = 0 := rfl
theorem jm86_lo : jM_lo jm86 = 0 := rfl
theorem jm87_nl : jM_nl jm87 = 4 := rfl
theorem jm87_rt : jM_rt jm87 = (some .int) := rfl
theorem jm87_fr : jM_fr jm87 = 0 := rfl
theorem jm87_lo : jM_lo jm87 = 0 := rfl
theorem jm88_nl : jM_nl jm88 = 9 := rfl
theorem jm88_rt : jM_rt jm88 = none := rfl
theorem jm88_fr : jM_fr jm88 = 3 := rfl
theorem jm88_lo : jM_lo jm88 = 71 := rfl
theorem jm89_nl : jM_nl jm89 = 3 := rfl
theorem jm89_rt : jM_rt jm89 = (some .int) := rfl
theorem jm89_fr : jM_fr jm89 = 0 := rfl
theorem jm89_lo : jM_lo jm89 = 0 := rfl
theorem jm90_nl : jM_nl jm90 = 4 := rfl
theorem jm90_rt : jM_rt jm90 = none := rfl
theorem jm90_fr : jM_fr jm90 = 2 := rfl
theorem jm90_lo : jM_lo jm90 = 48 := rfl
theorem jm91_nl : jM_nl jm91 = 2 := rfl
theorem jm91_rt : jM_rt jm91 = none := rfl
theorem jm91_fr : jM_fr jm91 = 2 := rfl
theorem jm91_lo : jM_lo jm91 = 47 := rfl
theorem jm92_nl : jM_nl jm92 = 1 := rfl
theorem jm92_rt : jM_rt jm92 = none := rfl
theorem jm92_fr : jM_fr jm92 = 0 := rfl
theorem jm92_lo : jM_lo jm92 = 0 := rfl
theorem jm93_nl : jM_nl jm93 = 3 := rfl
theorem jm93_rt : jM_rt jm93 = (some .int) := rfl
theorem jm93_fr : jM_fr jm93 = 1 := rfl
theorem jm93_lo : jM_lo jm93 = 21 := rfl
theorem jm94_nl : jM_nl jm94 = 3 := rfl
theorem jm94_rt : jM_rt jm94 = (some .boolean) := rfl
theorem jm94_fr : jM_fr jm94 = 0 := rfl
theorem jm94_lo : jM_lo jm94 = 0 := rfl
theorem jm95_nl : jM_nl jm95 = 3 := rfl
theorem jm95_rt : jM_rt jm95 = (some .int) := rfl
theorem jm95_fr : jM_fr jm95 = 5 := rfl
theorem jm95_lo : jM_lo jm95 = 124 := rfl
theorem jm96_nl : jM_nl jm96 = 3 := rfl
theorem jm96_rt : jM_rt jm96 = (some .int) := rfl
theorem jm96_fr : jM_fr jm96 = 3 := rfl
theorem jm96_lo : jM_lo jm96 = 77 := rfl
theorem jm97_nl : jM_nl jm97 = 4 := rfl
theorem jm97_rt : jM_rt jm97 = (some .int) := rfl
theorem jm97_fr : jM_fr jm97 = 1 := rfl
theorem jm97_lo : jM_lo jm97 = 22 := rfl
theorem jm98_nl : jM_nl jm98 = 4 := rfl
theorem jm98_rt : jM_rt jm98 = (some .int) := rfl
theorem jm98_fr : jM_fr jm98 = 1 := rfl
theorem jm98_lo : jM_lo jm98 = 22 := rfl
theorem jm99_nl : jM_nl jm99 = 4 := rfl
theorem jm99_rt : jM_rt jm99 = (some .int) := rfl
theorem jm99_fr : jM_fr jm99 = 1 := rfl
theorem jm99_lo : jM_lo jm99 = 23 := rfl
theorem jm100_nl : jM_nl jm100 = 5 := rfl
theorem jm100_rt : jM_rt jm100 = (some .int) := rfl
theorem jm100_fr : jM_fr jm100 = 2 := rfl
theorem jm100_lo : jM_lo jm100 = 53 := rfl
theorem jm101_nl : jM_nl jm101 = 9 := rfl
theorem jm101_rt : jM_rt jm101 = (some .int) := rfl
theorem jm101_fr : jM_fr jm101 = 1 := rfl
theorem jm101_lo : jM_lo jm101 = 22 := rfl
theorem jm102_nl : jM_nl jm102 = 8 := rfl
theorem jm102_rt : jM_rt jm102 = (some .int) := rfl
theorem jm102_fr : jM_fr jm102 = 1 := rfl
theorem jm102_lo : jM_lo jm102 = 26 := rfl
theorem jm103_nl : jM_nl jm103 = 1 := rfl
theorem jm103_rt : jM_rt jm103 = none := rfl
theorem jm103_fr : jM_fr jm103 = 2 := rfl
theorem jm103_lo : jM_lo jm103 = 48 := rfl
theorem jm104_nl : jM_nl jm104 = 6 := rfl
theorem jm104_rt : jM_rt jm104 = (some .int) := rfl
theorem jm104_fr : jM_fr jm104 = 4 := rfl
theorem jm104_lo : jM_lo jm104 = 99 := rfl
theorem jm105_nl : jM_nl jm105 = 8 := rfl
theorem jm105_rt : jM_rt jm105 = (some .boolean) := rfl
theorem jm105_fr : jM_fr jm105 = 3 := rfl
theorem jm105_lo : jM_lo jm105 = 72 := rfl
theorem jm106_nl : jM_nl jm106 = 5 := rfl
theorem jm106_rt : jM_rt jm106 = (some .boolean) := rfl
theorem jm106_fr : jM_fr jm106 = 2 := rfl
theorem jm106_lo : jM_lo jm106 = 48 := rfl
theorem jm107_nl : jM_nl jm107 = 2 := rfl
theorem jm107_rt : jM_rt jm107 = none := rfl
theorem jm107_fr : jM_fr jm107 = 5 := rfl
theorem jm107_lo : jM_lo jm107 = 119 := rfl
theorem jm108_nl : jM_nl jm108 = 4 := rfl
theorem jm108_rt : jM_rt jm108 = (some .int) := rfl
theorem jm108_fr : jM_fr jm108 = 6 := rfl
theorem jm108_lo : jM_lo jm108 = 119 := rfl
theorem jm109_nl : jM_nl jm109 = 3 := rfl
theorem jm109_rt : jM_rt jm109 = (some .int) := rfl
theorem jm109_fr : jM_fr jm109 = 6 := rfl
theorem jm109_lo : jM_lo jm109 = 90 := rfl
theorem jm110_nl : jM_nl jm110 = 6 := rfl
theorem jm110_rt : jM_rt jm110 = (some .int) := rfl
theorem jm110_fr : jM_fr jm110 = 6 := rfl
theorem jm110_lo : jM_lo jm110 = 90 := rfl
theorem jm111_nl : jM_nl jm111 = 1 := rfl
theorem jm111_rt : jM_rt jm111 = (some .long) := rfl
theorem jm111_fr : jM_fr jm111 = 2 := rfl
theorem jm111_lo : jM_lo jm111 = 47 := rfl
theorem jm112_nl : jM_nl jm112 = 4 := rfl
theorem jm112_rt : jM_rt jm112 = (some .boolean) := rfl
theorem jm112_fr : jM_fr jm112 = 6 := rfl
theorem jm112_lo : jM_lo jm112 = 90 := rfl
theorem jm113_nl : jM_nl jm113 = 4 := rfl
theorem jm113_rt : jM_rt jm113 = (some .int) := rfl
theorem jm113_fr : jM_fr jm113 = 6 := rfl
theorem jm113_lo : jM_lo jm113 = 90 := rfl
theorem jm114_nl : jM_nl jm114 = 3 := rfl
theorem jm114_rt : jM_rt jm114 = (some .int) := rfl
theorem jm114_fr : jM_fr jm114 = 6 := rfl
theorem jm114_lo : jM_lo jm114 = 90 := rfl
theorem jm115_nl : jM_nl jm115 = 5 := rfl
theorem jm115_rt : jM_rt jm115 = (some .int) := rfl
theorem jm115_fr : jM_fr jm115 = 6 := rfl
theorem jm115_lo : jM_lo jm115 = 90 := rfl
theorem jm116_nl : jM_nl jm116 = 4 := rfl
theorem jm116_rt : jM_rt jm116 = (some .int) := rfl
theorem jm116_fr : jM_fr jm116 = 6 := rfl
theorem jm116_lo : jM_lo jm116 = 90 := rfl
theorem jm117_nl : jM_nl jm117 = 7 := rfl
theorem jm117_rt : jM_rt jm117 = (some .int) := rfl
theorem jm117_fr : jM_fr jm117 = 6 := rfl
theorem jm117_lo : jM_lo jm117 = 90 := rfl
theorem jm118_nl : jM_nl jm118 = 7 := rfl
theorem jm118_rt : jM_rt jm118 = (some .int) := rfl
theorem jm118_fr : jM_fr jm118 = 6 := rfl
theorem jm118_lo : jM_lo jm118 = 90 := rfl
theorem jm119_nl : jM_nl jm119 = 2 := rfl
theorem jm119_rt : jM_rt jm119 = (some .long) := rfl
theorem jm119_fr : jM_fr jm119 = 6 := rfl
theorem jm119_lo : jM_lo jm119 = 90 := rfl
theorem jm120_nl : jM_nl jm120 = 2 := rfl
theorem jm120_rt : jM_rt jm120 = (some .int) := rfl
theorem jm120_fr : jM_fr jm120 = 6 := rfl
theorem jm120_lo : jM_lo jm120 = 90 := rfl
theorem jm121_nl : jM_nl jm121 = 3 := rfl
theorem jm121_rt : jM_rt jm121 = (some .int) := rfl
theorem jm121_fr : jM_fr jm121 = 6 := rfl
theorem jm121_lo : jM_lo jm121 = 90 := rfl
theorem jm122_nl : jM_nl jm122 = 1 := rfl
theorem jm122_rt : jM_rt jm122 = (some .long) := rfl
theorem jm122_fr : jM_fr jm122 = 2 := rfl
theorem jm122_lo : jM_lo jm122 = 46 := rfl
theorem jm123_nl : jM_nl jm123 = 1 := rfl
theorem jm123_rt : jM_rt jm123 = (some .int) := rfl
theorem jm123_fr : jM_fr jm123 = 2 := rfl
theorem jm123_lo : jM_lo jm123 = 45 := rfl
theorem jm124_nl : jM_nl jm124 = 2 := rfl
theorem jm124_rt : jM_rt jm124 = (some .boolean) := rfl
theorem jm124_fr : jM_fr jm124 = 6 := rfl
theorem jm124_lo : jM_lo jm124 = 90 := rfl
theorem jm125_nl : jM_nl jm125 = 2 := rfl
theorem jm125_rt : jM_rt jm125 = (some .int) := rfl
theorem jm125_fr : jM_fr jm125 = 6 := rfl
theorem jm125_lo : jM_lo jm125 = 99 := rfl
theorem jm126_nl : jM_nl jm126 = 3 := rfl
theorem jm126_rt : jM_rt jm126 = (some .int) := rfl
theorem jm126_fr : jM_fr jm126 = 7 := rfl
theorem jm126_lo : jM_lo jm126 = 180 := rfl
theorem jm127_nl : jM_nl jm127 = 3 := rfl
theorem jm127_rt : jM_rt jm127 = (some .int) := rfl
theorem jm127_fr : jM_fr jm127 = 6 := rfl
theorem jm127_lo : jM_lo jm127 = 153 := rfl
theorem jm128_nl : jM_nl jm128 = 2 := rfl
theorem jm128_rt : jM_rt jm128 = (some .int) := rfl
theorem jm128_fr : jM_fr jm128 = 6 := rfl
theorem jm128_lo : jM_lo jm128 = 124 := rfl
theorem jm129_nl : jM_nl jm129 = 2 := rfl
theorem jm129_rt : jM_rt jm129 = (some .int) := rfl
theorem jm129_fr : jM_fr jm129 = 6 := rfl
theorem jm129_lo : jM_lo jm129 = 90 := rfl
theorem jm130_nl : jM_nl jm130 = 2 := rfl
theorem jm130_rt : jM_rt jm130 = (some .int) := rfl
theorem jm130_fr : jM_fr jm130 = 6 := rfl
theorem jm130_lo : jM_lo jm130 = 90 := rfl
theorem jm131_nl : jM_nl jm131 = 5 := rfl
theorem jm131_rt : jM_rt jm131 = (some .int) := rfl
theorem jm131_fr : jM_fr jm131 = 7 := rfl
theorem jm131_lo : jM_lo jm131 = 180 := rfl
theorem jm132_nl : jM_nl jm132 = 2 := rfl
theorem jm132_rt : jM_rt jm132 = (some .int) := rfl
theorem jm132_fr : jM_fr jm132 = 6 := rfl
theorem jm132_lo : jM_lo jm132 = 117 := rfl
theorem jm133_nl : jM_nl jm133 = 2 := rfl
theorem jm133_rt : jM_rt jm133 = (some .int) := rfl
theorem jm133_fr : jM_fr jm133 = 6 := rfl
theorem jm133_lo : jM_lo jm133 = 117 := rfl
theorem jm134_nl : jM_nl jm134 = 2 := rfl
theorem jm134_rt : jM_rt jm134 = (some .boolean) := rfl
theorem jm134_fr : jM_fr jm134 = 6 := rfl
theorem jm134_lo : jM_lo jm134 = 122 := rfl
theorem jm135_nl : jM_nl jm135 = 2 := rfl
theorem jm135_rt : jM_rt jm135 = (some .int) := rfl
theorem jm135_fr : jM_fr jm135 = 6 := rfl
theorem jm135_lo : jM_lo jm135 = 146 := rfl
theorem jm136_nl : jM_nl jm136 = 3 := rfl
theorem jm136_rt : jM_rt jm136 = (some .double) := rfl
theorem jm136_fr : jM_fr jm136 = 1 := rfl
theorem jm136_lo : jM_lo jm136 = 20 := rfl
theorem jm137_nl : jM_nl jm137 = 4 := rfl
theorem jm137_rt : jM_rt jm137 = (some .float) := rfl
theorem jm137_fr : jM_fr jm137 = 1 := rfl
theorem jm137_lo : jM_lo jm137 = 22 := rfl
theorem jm138_nl : jM_nl jm138 = 5 := rfl
theorem jm138_rt : jM_rt jm138 = (some .int) := rfl
theorem jm138_fr : jM_fr jm138 = 7 := rfl
theorem jm138_lo : jM_lo jm138 = 180 := rfl
theorem jm139_nl : jM_nl jm139 = 5 := rfl
theorem jm139_rt : jM_rt jm139 = none := rfl
theorem jm139_fr : jM_fr jm139 = 4 := rfl
theorem jm139_lo : jM_lo jm139 = 95 := rfl
theorem jm140_nl : jM_nl jm140 = 1 := rfl
theorem jm140_rt : jM_rt jm140 = none := rfl
theorem jm140_fr : jM_fr jm140 = 1 := rfl
theorem jm140_lo : jM_lo jm140 = 20 := rfl
theorem jm141_nl : jM_nl jm141 = 1 := rfl
theorem jm141_rt : jM_rt jm141 = none := rfl
theorem jm141_fr : jM_fr jm141 = 0 := rfl
theorem jm141_lo : jM_lo jm141 = 0 := rfl
theorem jm142_nl : jM_nl jm142 = 4 := rfl
theorem jm142_rt : jM_rt jm142 = none := rfl
theorem jm142_fr : jM_fr jm142 = 0 := rfl
theorem jm142_lo : jM_lo jm142 = 0 := rfl
theorem jm143_nl : jM_nl jm143 = 1 := rfl
theorem jm143_rt : jM_rt jm143 = (some .int) := rfl
theorem jm143_fr : jM_fr jm143 = 0 := rfl
theorem jm143_lo : jM_lo jm143 = 0 := rfl
theorem jm144_nl : jM_nl jm144 = 1 := rfl
theorem jm144_rt : jM_rt jm144 = (some .int) := rfl
theorem jm144_fr : jM_fr jm144 = 0 := rfl
theorem jm144_lo : jM_lo jm144 = 0 := rfl
theorem jm145_nl : jM_nl jm145 = 1 := rfl
theorem jm145_rt : jM_rt jm145 = (some .boolean) := rfl
theorem jm145_fr : jM_fr jm145 = 0 := rfl
theorem jm145_lo : jM_lo jm145 = 0 := rfl
theorem jm146_nl : jM_nl jm146 = 1 := rfl
theorem jm146_rt : jM_rt jm146 = (some .int) := rfl
theorem jm146_fr : jM_fr jm146 = 0 := rfl
theorem jm146_lo : jM_lo jm146 = 0 := rfl
theorem jm147_nl : jM_nl jm147 = 1 := rfl
theorem jm147_rt : jM_rt jm147 = (some .boolean) := rfl
theorem jm147_fr : jM_fr jm147 = 0 := rfl
theorem jm147_lo : jM_lo jm147 = 0 := rfl
theorem jm148_nl : jM_nl jm148 = 1 := rfl
theorem jm148_rt : jM_rt jm148 = (some .boolean) := rfl
theorem jm148_fr : jM_fr jm148 = 0 := rfl
theorem jm148_lo : jM_lo jm148 = 0 := rfl
theorem jm149_nl : jM_nl jm149 = 1 := rfl
theorem jm149_rt : jM_rt jm149 = (some .boolean) := rfl
theorem jm149_fr : jM_fr jm149 = 0 := rfl
theorem jm149_lo : jM_lo jm149 = 0 := rfl
theorem jm150_nl : jM_nl jm150 = 5 := rfl
theorem jm150_rt : jM_rt jm150 = (some .boolean) := rfl
theorem jm150_fr : jM_fr jm150 = 1 := rfl
theorem jm150_lo : jM_lo jm150 = 22 := rfl
theorem jm151_nl : jM_nl jm151 = 3 := rfl
theorem jm151_rt : jM_rt jm151 = (some .int) := rfl
theorem jm151_fr : jM_fr jm151 = 2 := rfl
theorem jm151_lo : jM_lo jm151 = 49 := rfl
theorem jm152_nl : jM_nl jm152 = 3 := rfl
theorem jm152_rt : jM_rt jm152 = (some .int) := rfl
theorem jm152_fr : jM_fr jm152 = 0 := rfl
theorem jm152_lo : jM_lo jm152 = 0 := rfl
theorem jm153_nl : jM_nl jm153 = 1 := rfl
theorem jm153_rt : jM_rt jm153 = (some .int) := rfl
theorem jm153_fr : jM_fr jm153 = 0 := rfl
theorem jm153_lo : jM_lo jm153 = 0 := rfl
theorem jm154_nl : jM_nl jm154 = 5 := rfl
theorem jm154_rt : jM_rt jm154 = (some .int) := rfl
theorem jm154_fr : jM_fr jm154 = 4 := rfl
theorem jm154_lo : jM_lo jm154 = 99 := rfl
theorem jm155_nl : jM_nl jm155 = 1 := rfl
theorem jm155_rt : jM_rt jm155 = none := rfl
theorem jm155_fr : jM_fr jm155 = 2 := rfl
theorem jm155_lo : jM_lo jm155 = 48 := rfl
theorem jm156_nl : jM_nl jm156 = 1 := rfl
theorem jm156_rt : jM_rt jm156 = (some .int) := rfl
theorem jm156_fr : jM_fr jm156 = 0 := rfl
theorem jm156_lo : jM_lo jm156 = 0 := rfl
theorem jm157_nl : jM_nl jm157 = 3 := rfl
theorem jm157_rt : jM_rt jm157 = (some .boolean) := rfl
theorem jm157_fr : jM_fr jm157 = 0 := rfl
theorem jm157_lo : jM_lo jm157 = 0 := rfl
theorem jm158_nl : jM_nl jm158 = 2 := rfl
theorem jm158_rt : jM_rt jm158 = (some .int) := rfl
theorem jm158_fr : jM_fr jm158 = 0 := rfl
theorem jm158_lo : jM_lo jm158 = 0 := rfl
theorem jm159_nl : jM_nl jm159 = 2 := rfl
theorem jm159_rt : jM_rt jm159 = (some .int) := rfl
theorem jm159_fr : jM_fr jm159 = 0 := rfl
theorem jm159_lo : jM_lo jm159 = 0 := rfl
theorem jm160_nl : jM_nl jm160 = 2 := rfl
theorem jm160_rt : jM_rt jm160 = (some .boolean) := rfl
theorem jm160_fr : jM_fr jm160 = 0 := rfl
theorem jm160_lo : jM_lo jm160 = 0 := rfl
theorem jm161_nl : jM_nl jm161 = 2 := rfl
theorem jm161_rt : jM_rt jm161 = (some .boolean) := rfl
theorem jm161_fr : jM_fr jm161 = 0 := rfl
theorem jm161_lo : jM_lo jm161 = 0 := rfl
theorem jm162_nl : jM_nl jm162 = 5 := rfl
theorem jm162_rt : jM_rt jm162 = (some .int) := rfl
theorem jm162_fr : jM_fr jm162 = 0 := rfl
theorem jm162_lo : jM_lo jm162 = 0 := rfl
theorem jm163_nl : jM_nl jm163 = 4 := rfl
theorem jm163_rt : jM_rt jm163 = none := rfl
theorem jm163_fr : jM_fr jm163 = 1 := rfl
theorem jm163_lo : jM_lo jm163 = 25 := rfl
theorem jm164_nl : jM_nl jm164 = 6 := rfl
theorem jm164_rt : jM_rt jm164 = none := rfl
theorem jm164_fr : jM_fr jm164 = 0 := rfl
theorem jm164_lo : jM_lo jm164 = 0 := rfl
theorem jm165_nl : jM_nl jm165 = 1 := rfl
theorem jm165_rt : jM_rt jm165 = (some .int) := rfl
theorem jm165_fr : jM_fr jm165 = 0 := rfl
theorem jm165_lo : jM_lo jm165 = 0 := rfl
theorem jm166_nl : jM_nl jm166 = 3 := rfl
theorem jm166_rt : jM_rt jm166 = (some .int) := rfl
theorem jm166_fr : jM_fr jm166 = 0 := rfl
theorem jm166_lo : jM_lo jm166 = 0 := rfl
theorem jm167_nl : jM_nl jm167 = 6 := rfl
theorem jm167_rt : jM_rt jm167 = (some .int) := rfl
theorem jm167_fr : jM_fr jm167 = 2 := rfl
theorem jm167_lo : jM_lo jm167 = 48 := rfl
theorem jm168_nl : jM_nl jm168 = 8 := rfl
theorem jm168_rt : jM_rt jm168 = (some .boolean) := rfl
theorem jm168_fr : jM_fr jm168 = 0 := rfl
theorem jm168_lo : jM_lo jm168 = 0 := rfl
theorem jm169_nl : jM_nl jm169 = 2 := rfl
theorem jm169_rt : jM_rt jm169 = (some .int) := rfl
theorem jm169_fr : jM_fr jm169 = 0 := rfl
theorem jm169_lo : jM_lo jm169 = 0 := rfl
theorem jm170_nl : jM_nl jm170 = 7 := rfl
theorem jm170_rt : jM_rt jm170 = (some .long) := rfl
theorem jm170_fr : jM_fr jm170 = 1 := rfl
theorem jm170_lo : jM_lo jm170 = 21 := rfl
theorem jm171_nl : jM_nl jm171 = 4 := rfl
theorem jm171_rt : jM_rt jm171 = (some .long) := rfl
theorem jm171_fr : jM_fr jm171 = 0 := rfl
theorem jm171_lo : jM_lo jm171 = 0 := rfl
theorem jm172_nl : jM_nl jm172 = 11 := rfl
theorem jm172_rt : jM_rt jm172 = none := rfl
theorem jm172_fr : jM_fr jm172 = 1 := rfl
theorem jm172_lo : jM_lo jm172 = 23 := rfl
theorem jm173_nl : jM_nl jm173 = 5 := rfl
theorem jm173_rt : jM_rt jm173 = (some .int) := rfl
theorem jm173_fr : jM_fr jm173 = 0 := rfl
theorem jm173_lo : jM_lo jm173 = 0 := rfl
theorem jm174_nl : jM_nl jm174 = 5 := rfl
theorem jm174_rt : jM_rt jm174 = (some .int) := rfl
theorem jm174_fr : jM_fr jm174 = 0 := rfl
theorem jm174_lo : jM_lo jm174 = 0 := rfl
theorem jm175_nl : jM_nl jm175 = 13 := rfl
theorem jm175_rt : jM_rt jm175 = (some .int) := rfl
theorem jm175_fr : jM_fr jm175 = 0 := rfl
theorem jm175_lo : jM_lo jm175 = 0 := rfl
theorem jm176_nl : jM_nl jm176 = 4 := rfl
theorem jm176_rt : jM_rt jm176 = (some .int) := rfl
theorem jm176_fr : jM_fr jm176 = 1 := rfl
theorem jm176_lo : jM_lo jm176 = 32 := rfl
theorem jm177_nl : jM_nl jm177 = 3 := rfl
theorem jm177_rt : jM_rt jm177 = (some .int) := rfl
theorem jm177_fr : jM_fr jm177 = 2 := rfl
theorem jm177_lo : jM_lo jm177 = 55 := rfl
theorem jm178_nl : jM_nl jm178 = 7 := rfl
theorem jm178_rt : jM_rt jm178 = (some .int) := rfl
theorem jm178_fr : jM_fr jm178 = 1 := rfl
theorem jm178_lo : jM_lo jm178 = 22 := rfl
theorem jm179_nl : jM_nl jm179 = 7 := rfl
theorem jm179_rt : jM_rt jm179 = (some .boolean) := rfl
theorem jm179_fr : jM_fr jm179 = 0 := rfl
theorem jm179_lo : jM_lo jm179 = 0 := rfl
theorem jm180_nl : jM_nl jm180 = 4 := rfl
theorem jm180_rt : jM_rt jm180 = (some .int) := rfl
theorem jm180_fr : jM_fr jm180 = 0 := rfl
theorem jm180_lo : jM_lo jm180 = 0 := rfl
theorem jm181_nl : jM_nl jm181 = 7 := rfl
theorem jm181_rt : jM_rt jm181 = (some .int) := rfl
theorem jm181_fr : jM_fr jm181 = 0 := rfl
theorem jm181_lo : jM_lo jm181 = 0 := rfl
theorem jm182_nl : jM_nl jm182 = 4 := rfl
theorem jm182_rt : jM_rt jm182 = (some .boolean) := rfl
theorem jm182_fr : jM_fr jm182 = 0 := rfl
theorem jm182_lo : jM_lo jm182 = 0 := rfl
theorem jm183_nl : jM_nl jm183 = 9 := rfl
theorem jm183_rt : jM_rt jm183 = (some .int) := rfl
theorem jm183_fr : jM_fr jm183 = 1 := rfl
theorem jm183_lo : jM_lo jm183 = 26 := rfl
theorem jm184_nl : jM_nl jm184 = 3 := rfl
theorem jm184_rt : jM_rt jm184 = (some .int) := rfl
theorem jm184_fr : jM_fr jm184 = 0 := rfl
theorem jm184_lo : jM_lo jm184 = 0 := rfl
theorem jm185_nl : jM_nl jm185 = 6 := rfl
theorem jm185_rt : jM_rt jm185 = (some .int) := rfl
theorem jm185_fr : jM_fr jm185 = 2 := rfl
theorem jm185_lo : jM_lo jm185 = 54 := rfl
theorem jm186_nl : jM_nl jm186 = 4 := rfl
theorem jm186_rt : jM_rt jm186 = (some .boolean) := rfl
theorem jm186_fr : jM_fr jm186 = 0 := rfl
theorem jm186_lo : jM_lo jm186 = 0 := rfl
theorem jm187_nl : jM_nl jm187 = 6 := rfl
theorem jm187_rt : jM_rt jm187 = (some .int) := rfl
theorem jm187_fr : jM_fr jm187 = 1 := rfl
theorem jm187_lo : jM_lo jm187 = 22 := rfl
theorem jm188_nl : jM_nl jm188 = 3 := rfl
theorem jm188_rt : jM_rt jm188 = (some .int) := rfl
theorem jm188_fr : jM_fr jm188 = 2 := rfl
theorem jm188_lo : jM_lo jm188 = 53 := rfl
theorem jm189_nl : jM_nl jm189 = 10 := rfl
theorem jm189_rt : jM_rt jm189 = (some .int) := rfl
theorem jm189_fr : jM_fr jm189 = 2 := rfl
theorem jm189_lo : jM_lo jm189 = 47 := rfl
theorem jm190_nl : jM_nl jm190 = 2 := rfl
theorem jm190_rt : jM_rt jm190 = (some .long) := rfl
theorem jm190_fr : jM_fr jm190 = 2 := rfl
theorem jm190_lo : jM_lo jm190 = 47 := rfl
theorem jm191_nl : jM_nl jm191 = 4 := rfl
theorem jm191_rt : jM_rt jm191 = (some .boolean) := rfl
theorem jm191_fr : jM_fr jm191 = 1 := rfl
theorem jm191_lo : jM_lo jm191 = 22 := rfl
theorem jm192_nl : jM_nl jm192 = 4 := rfl
theorem jm192_rt : jM_rt jm192 = (some .int) := rfl
theorem jm192_fr : jM_fr jm192 = 1 := rfl
theorem jm192_lo : jM_lo jm192 = 22 := rfl
theorem jm193_nl : jM_nl jm193 = 3 := rfl
theorem jm193_rt : jM_rt jm193 = (some .int) := rfl
theorem jm193_fr : jM_fr jm193 = 1 := rfl
theorem jm193_lo : jM_lo jm193 = 22 := rfl
theorem jm194_nl : jM_nl jm194 = 4 := rfl
theorem jm194_rt : jM_rt jm194 = (some .int) := rfl
theorem jm194_fr : jM_fr jm194 = 2 := rfl
theorem jm194_lo : jM_lo jm194 = 47 := rfl
theorem jm195_nl : jM_nl jm195 = 6 := rfl
theorem jm195_rt : jM_rt jm195 = (some .int) := rfl
theorem jm195_fr : jM_fr jm195 = 3 := rfl
theorem jm195_lo : jM_lo jm195 = 70 := rfl
theorem jm196_nl : jM_nl jm196 = 4 := rfl
theorem jm196_rt : jM_rt jm196 = (some .int) := rfl
theorem jm196_fr : jM_fr jm196 = 2 := rfl
theorem jm196_lo : jM_lo jm196 = 47 := rfl
theorem jm197_nl : jM_nl jm197 = 1 := rfl
theorem jm197_rt : jM_rt jm197 = (some .int) := rfl
theorem jm197_fr : jM_fr jm197 = 0 := rfl
theorem jm197_lo : jM_lo jm197 = 0 := rfl
theorem jm198_nl : jM_nl jm198 = 8 := rfl
theorem jm198_rt : jM_rt jm198 = (some .int) := rfl
theorem jm198_fr : jM_fr jm198 = 1 := rfl
theorem jm198_lo : jM_lo jm198 = 22 := rfl
theorem jm199_nl : jM_nl jm199 = 4 := rfl
theorem jm199_rt : jM_rt jm199 = (some .int) := rfl
theorem jm199_fr : jM_fr jm199 = 3 := rfl
theorem jm199_lo : jM_lo jm199 = 70 := rfl
theorem jm200_nl : jM_nl jm200 = 3 := rfl
theorem jm200_rt : jM_rt jm200 = (some .long) := rfl
theorem jm200_fr : jM_fr jm200 = 2 := rfl
theorem jm200_lo : jM_lo jm200 = 47 := rfl
theorem jm201_nl : jM_nl jm201 = 3 := rfl
theorem jm201_rt : jM_rt jm201 = (some .int) := rfl
theorem jm201_fr : jM_fr jm201 = 1 := rfl
theorem jm201_lo : jM_lo jm201 = 22 := rfl
theorem jm202_nl : jM_nl jm202 = 2 := rfl
theorem jm202_rt : jM_rt jm202 = (some .int) := rfl
theorem jm202_fr : jM_fr jm202 = 1 := rfl
theorem jm202_lo : jM_lo jm202 = 22 := rfl
theorem jm203_nl : jM_nl jm203 = 1 := rfl
theorem jm203_rt : jM_rt jm203 = (some .long) := rfl
theorem jm203_fr : jM_fr jm203 = 2 := rfl
theorem jm203_lo : jM_lo jm203 = 47 := rfl
theorem jm204_nl : jM_nl jm204 = 5 := rfl
theorem jm204_rt : jM_rt jm204 = (some .int) := rfl
theorem jm204_fr : jM_fr jm204 = 1 := rfl
theorem jm204_lo : jM_lo jm204 = 21 := rfl
theorem jm205_nl : jM_nl jm205 = 1 := rfl
theorem jm205_rt : jM_rt jm205 = (some .int) := rfl
theorem jm205_fr : jM_fr jm205 = 2 := rfl
theorem jm205_lo : jM_lo jm205 = 45 := rfl
theorem jm206_nl : jM_nl jm206 = 3 := rfl
theorem jm206_rt : jM_rt jm206 = (some .boolean) := rfl
theorem jm206_fr : jM_fr jm206 = 0 := rfl
theorem jm206_lo : jM_lo jm206 = 0 := rfl
theorem jm207_nl : jM_nl jm207 = 2 := rfl
theorem jm207_rt : jM_rt jm207 = none := rfl
theorem jm207_fr : jM_fr jm207 = 0 := rfl
theorem jm207_lo : jM_lo jm207 = 0 := rfl
theorem jm208_nl : jM_nl jm208 = 4 := rfl
theorem jm208_rt : jM_rt jm208 = (some .boolean) := rfl
theorem jm208_fr : jM_fr jm208 = 2 := rfl
theorem jm208_lo : jM_lo jm208 = 45 := rfl
theorem jm209_nl : jM_nl jm209 = 2 := rfl
theorem jm209_rt : jM_rt jm209 = (some .int) := rfl
theorem jm209_fr : jM_fr jm209 = 3 := rfl
theorem jm209_lo : jM_lo jm209 = 77 := rfl
theorem jm210_nl : jM_nl jm210 = 4 := rfl
theorem jm210_rt : jM_rt jm210 = (some .int) := rfl
theorem jm210_fr : jM_fr jm210 = 0 := rfl
theorem jm210_lo : jM_lo jm210 = 0 := rfl
theorem jm211_nl : jM_nl jm211 = 2 := rfl
theorem jm211_rt : jM_rt jm211 = none := rfl
theorem jm211_fr : jM_fr jm211 = 0 := rfl
theorem jm211_lo : jM_lo jm211 = 0 := rfl
theorem jm212_nl : jM_nl jm212 = 9 := rfl
theorem jm212_rt : jM_rt jm212 = (some .int) := rfl
theorem jm212_fr : jM_fr jm212 = 3 := rfl
theorem jm212_lo : jM_lo jm212 = 77 := rfl
theorem jm213_nl : jM_nl jm213 = 5 := rfl
theorem jm213_rt : jM_rt jm213 = (some .boolean) := rfl
theorem jm213_fr : jM_fr jm213 = 0 := rfl
theorem jm213_lo : jM_lo jm213 = 0 := rfl
theorem jm214_nl : jM_nl jm214 = 3 := rfl
theorem jm214_rt : jM_rt jm214 = none := rfl
theorem jm214_fr : jM_fr jm214 = 0 := rfl
theorem jm214_lo : jM_lo jm214 = 0 := rfl
theorem jm215_nl : jM_nl jm215 = 8 := rfl
theorem jm215_rt : jM_rt jm215 = (some .int) := rfl
theorem jm215_fr : jM_fr jm215 = 4 := rfl
theorem jm215_lo : jM_lo jm215 = 105 := rfl
theorem jm216_nl : jM_nl jm216 = 4 := rfl
theorem jm216_rt : jM_rt jm216 = none := rfl
theorem jm216_fr : jM_fr jm216 = 0 := rfl
theorem jm216_lo : jM_lo jm216 = 0 := rfl
theorem jm217_nl : jM_nl jm217 = 2 := rfl
theorem jm217_rt : jM_rt jm217 = none := rfl
theorem jm217_fr : jM_fr jm217 = 0 := rfl
theorem jm217_lo : jM_lo jm217 = 0 := rfl
theorem jm218_nl : jM_nl jm218 = 2 := rfl
theorem jm218_rt : jM_rt jm218 = none := rfl
theorem jm218_fr : jM_fr jm218 = 0 := rfl
theorem jm218_lo : jM_lo jm218 = 0 := rfl
theorem jm219_nl : jM_nl jm219 = 3 := rfl
theorem jm219_rt : jM_rt jm219 = (some .int) := rfl
theorem jm219_fr : jM_fr jm219 = 5 := rfl
theorem jm219_lo : jM_lo jm219 = 132 := rfl
theorem jm220_nl : jM_nl jm220 = 3 := rfl
theorem jm220_rt : jM_rt jm220 = (some .int) := rfl
theorem jm220_fr : jM_fr jm220 = 3 := rfl
theorem jm220_lo : jM_lo jm220 = 77 := rfl
theorem jm221_nl : jM_nl jm221 = 8 := rfl
theorem jm221_rt : jM_rt jm221 = (some .int) := rfl
theorem jm221_fr : jM_fr jm221 = 4 := rfl
theorem jm221_lo : jM_lo jm221 = 99 := rfl
theorem jm222_nl : jM_nl jm222 = 4 := rfl
theorem jm222_rt : jM_rt jm222 = (some .int) := rfl
theorem jm222_fr : jM_fr jm222 = 5 := rfl
theorem jm222_lo : jM_lo jm222 = 126 := rfl
theorem jm223_nl : jM_nl jm223 = 3 := rfl
theorem jm223_rt : jM_rt jm223 = (some .int) := rfl
theorem jm223_fr : jM_fr jm223 = 6 := rfl
theorem jm223_lo : jM_lo jm223 = 149 := rfl
theorem jm224_nl : jM_nl jm224 = 3 := rfl
theorem jm224_rt : jM_rt jm224 = (some .int) := rfl
theorem jm224_fr : jM_fr jm224 = 0 := rfl
theorem jm224_lo : jM_lo jm224 = 0 := rfl
theorem jm225_nl : jM_nl jm225 = 5 := rfl
theorem jm225_rt : jM_rt jm225 = (some .boolean) := rfl
theorem jm225_fr : jM_fr jm225 = 4 := rfl
theorem jm225_lo : jM_lo jm225 = 105 := rfl
theorem jm226_nl : jM_nl jm226 = 4 := rfl
theorem jm226_rt : jM_rt jm226 = (some .boolean) := rfl
theorem jm226_fr : jM_fr jm226 = 1 := rfl
theorem jm226_lo : jM_lo jm226 = 22 := rfl
theorem jm227_nl : jM_nl jm227 = 10 := rfl
theorem jm227_rt : jM_rt jm227 = (some .int) := rfl
theorem jm227_fr : jM_fr jm227 = 5 := rfl
theorem jm227_lo : jM_lo jm227 = 129 := rfl
theorem jm228_nl : jM_nl jm228 = 2 := rfl
theorem jm228_rt : jM_rt jm228 = (some .int) := rfl
theorem jm228_fr : jM_fr jm228 = 1 := rfl
theorem jm228_lo : jM_lo jm228 = 21 := rfl
theorem jm229_nl : jM_nl jm229 = 2 := rfl
theorem jm229_rt : jM_rt jm229 = (some .int) := rfl
theorem jm229_fr : jM_fr jm229 = 1 := rfl
theorem jm229_lo : jM_lo jm229 = 22 := rfl
theorem jm230_nl : jM_nl jm230 = 5 := rfl
theorem jm230_rt : jM_rt jm230 = (some .int) := rfl
theorem jm230_fr : jM_fr jm230 = 5 := rfl
theorem jm230_lo : jM_lo jm230 = 132 := rfl
theorem jm231_nl : jM_nl jm231 = 4 := rfl
theorem jm231_rt : jM_rt jm231 = none := rfl
theorem jm231_fr : jM_fr jm231 = 2 := rfl
theorem jm231_lo : jM_lo jm231 = 53 := rfl
theorem jm232_nl : jM_nl jm232 = 3 := rfl
theorem jm232_rt : jM_rt jm232 = (some .int) := rfl
theorem jm232_fr : jM_fr jm232 = 0 := rfl
theorem jm232_lo : jM_lo jm232 = 0 := rfl
theorem jm233_nl : jM_nl jm233 = 7 := rfl
theorem jm233_rt : jM_rt jm233 = none := rfl
theorem jm233_fr : jM_fr jm233 = 1 := rfl
theorem jm233_lo : jM_lo jm233 = 22 := rfl
theorem jm234_nl : jM_nl jm234 = 8 := rfl
theorem jm234_rt : jM_rt jm234 = (some .int) := rfl
theorem jm234_fr : jM_fr jm234 = 3 := rfl
theorem jm234_lo : jM_lo jm234 = 76 := rfl
theorem jm235_nl : jM_nl jm235 = 3 := rfl
theorem jm235_rt : jM_rt jm235 = (some .int) := rfl
theorem jm235_fr : jM_fr jm235 = 3 := rfl
theorem jm235_lo : jM_lo jm235 = 76 := rfl
theorem jm236_nl : jM_nl jm236 = 6 := rfl
theorem jm236_rt : jM_rt jm236 = (some .boolean) := rfl
theorem jm236_fr : jM_fr jm236 = 3 := rfl
theorem jm236_lo : jM_lo jm236 = 77 := rfl
theorem jm237_nl : jM_nl jm237 = 2 := rfl
theorem jm237_rt : jM_rt jm237 = (some .boolean) := rfl
theorem jm237_fr : jM_fr jm237 = 4 := rfl
theorem jm237_lo : jM_lo jm237 = 102 := rfl
theorem jm238_nl : jM_nl jm238 = 3 := rfl
theorem jm238_rt : jM_rt jm238 = (some .double) := rfl
theorem jm238_fr : jM_fr jm238 = 1 := rfl
theorem jm238_lo : jM_lo jm238 = 20 := rfl
theorem jm239_nl : jM_nl jm239 = 6 := rfl
theorem jm239_rt : jM_rt jm239 = (some .float) := rfl
theorem jm239_fr : jM_fr jm239 = 0 := rfl
theorem jm239_lo : jM_lo jm239 = 0 := rfl
theorem jm240_nl : jM_nl jm240 = 3 := rfl
theorem jm240_rt : jM_rt jm240 = (some .boolean) := rfl
theorem jm240_fr : jM_fr jm240 = 0 := rfl
theorem jm240_lo : jM_lo jm240 = 0 := rfl
theorem jm241_nl : jM_nl jm241 = 7 := rfl
theorem jm241_rt : jM_rt jm241 = (some .int) := rfl
theorem jm241_fr : jM_fr jm241 = 6 := rfl
theorem jm241_lo : jM_lo jm241 = 149 := rfl
theorem jm242_nl : jM_nl jm242 = 6 := rfl
theorem jm242_rt : jM_rt jm242 = (some .int) := rfl
theorem jm242_fr : jM_fr jm242 = 7 := rfl
theorem jm242_lo : jM_lo jm242 = 142 := rfl
theorem jm243_nl : jM_nl jm243 = 5 := rfl
theorem jm243_rt : jM_rt jm243 = (some .int) := rfl
theorem jm243_fr : jM_fr jm243 = 7 := rfl
theorem jm243_lo : jM_lo jm243 = 112 := rfl
theorem jm244_nl : jM_nl jm244 = 5 := rfl
theorem jm244_rt : jM_rt jm244 = (some .int) := rfl
theorem jm244_fr : jM_fr jm244 = 7 := rfl
theorem jm244_lo : jM_lo jm244 = 115 := rfl
theorem jm245_nl : jM_nl jm245 = 5 := rfl
theorem jm245_rt : jM_rt jm245 = (some .int) := rfl
theorem jm245_fr : jM_fr jm245 = 7 := rfl
theorem jm245_lo : jM_lo jm245 = 113 := rfl
theorem jm246_nl : jM_nl jm246 = 5 := rfl
theorem jm246_rt : jM_rt jm246 = (some .int) := rfl
theorem jm246_fr : jM_fr jm246 = 7 := rfl
theorem jm246_lo : jM_lo jm246 = 113 := rfl
theorem jm247_nl : jM_nl jm247 = 4 := rfl
theorem jm247_rt : jM_rt jm247 = (some .int) := rfl
theorem jm247_fr : jM_fr jm247 = 7 := rfl
theorem jm247_lo : jM_lo jm247 = 112 := rfl
theorem jm248_nl : jM_nl jm248 = 5 := rfl
theorem jm248_rt : jM_rt jm248 = (some .int) := rfl
theorem jm248_fr : jM_fr jm248 = 7 := rfl
theorem jm248_lo : jM_lo jm248 = 114 := rfl
theorem jm249_nl : jM_nl jm249 = 4 := rfl
theorem jm249_rt : jM_rt jm249 = (some .int) := rfl
theorem jm249_fr : jM_fr jm249 = 7 := rfl
theorem jm249_lo : jM_lo jm249 = 113 := rfl
theorem jm250_nl : jM_nl jm250 = 6 := rfl
theorem jm250_rt : jM_rt jm250 = (some .int) := rfl
theorem jm250_fr : jM_fr jm250 = 7 := rfl
theorem jm250_lo : jM_lo jm250 = 116 := rfl
theorem jm251_nl : jM_nl jm251 = 5 := rfl
theorem jm251_rt : jM_rt jm251 = (some .int) := rfl
theorem jm251_fr : jM_fr jm251 = 7 := rfl
theorem jm251_lo : jM_lo jm251 = 116 := rfl
theorem jm252_nl : jM_nl jm252 = 4 := rfl
theorem jm252_rt : jM_rt jm252 = (some .int) := rfl
theorem jm252_fr : jM_fr jm252 = 7 := rfl
theorem jm252_lo : jM_lo jm252 = 111 := rfl
theorem jm253_nl : jM_nl jm253 = 4 := rfl
theorem jm253_rt : jM_rt jm253 = (some .int) := rfl
theorem jm253_fr : jM_fr jm253 = 7 := rfl
theorem jm253_lo : jM_lo jm253 = 111 := rfl
theorem jm254_nl : jM_nl jm254 = 4 := rfl
theorem jm254_rt : jM_rt jm254 = (some .int) := rfl
theorem jm254_fr : jM_fr jm254 = 7 := rfl
theorem jm254_lo : jM_lo jm254 = 112 := rfl
theorem jm255_nl : jM_nl jm255 = 3 := rfl
theorem jm255_rt : jM_rt jm255 = (some .int) := rfl
theorem jm255_fr : jM_fr jm255 = 7 := rfl
theorem jm255_lo : jM_lo jm255 = 111 := rfl
theorem jm256_nl : jM_nl jm256 = 4 := rfl
theorem jm256_rt : jM_rt jm256 = (some .int) := rfl
theorem jm256_fr : jM_fr jm256 = 7 := rfl
theorem jm256_lo : jM_lo jm256 = 120 := rfl
theorem jm257_nl : jM_nl jm257 = 4 := rfl
theorem jm257_rt : jM_rt jm257 = (some .int) := rfl
theorem jm257_fr : jM_fr jm257 = 8 := rfl
theorem jm257_lo : jM_lo jm257 = 202 := rfl
theorem jm258_nl : jM_nl jm258 = 4 := rfl
theorem jm258_rt : jM_rt jm258 = (some .int) := rfl
theorem jm258_fr : jM_fr jm258 = 7 := rfl
theorem jm258_lo : jM_lo jm258 = 175 := rfl
theorem jm259_nl : jM_nl jm259 = 3 := rfl
theorem jm259_rt : jM_rt jm259 = (some .int) := rfl
theorem jm259_fr : jM_fr jm259 = 7 := rfl
theorem jm259_lo : jM_lo jm259 = 145 := rfl
theorem jm260_nl : jM_nl jm260 = 4 := rfl
theorem jm260_rt : jM_rt jm260 = (some .int) := rfl
theorem jm260_fr : jM_fr jm260 = 7 := rfl
theorem jm260_lo : jM_lo jm260 = 111 := rfl
theorem jm261_nl : jM_nl jm261 = 4 := rfl
theorem jm261_rt : jM_rt jm261 = (some .int) := rfl
theorem jm261_fr : jM_fr jm261 = 7 := rfl
theorem jm261_lo : jM_lo jm261 = 111 := rfl
theorem jm262_nl : jM_nl jm262 = 3 := rfl
theorem jm262_rt : jM_rt jm262 = (some .int) := rfl
theorem jm262_fr : jM_fr jm262 = 8 := rfl
theorem jm262_lo : jM_lo jm262 = 204 := rfl
theorem jm263_nl : jM_nl jm263 = 4 := rfl
theorem jm263_rt : jM_rt jm263 = (some .int) := rfl
theorem jm263_fr : jM_fr jm263 = 7 := rfl
theorem jm263_lo : jM_lo jm263 = 138 := rfl
theorem jm264_nl : jM_nl jm264 = 4 := rfl
theorem jm264_rt : jM_rt jm264 = (some .int) := rfl
theorem jm264_fr : jM_fr jm264 = 7 := rfl
theorem jm264_lo : jM_lo jm264 = 138 := rfl
theorem jm265_nl : jM_nl jm265 = 4 := rfl
theorem jm265_rt : jM_rt jm265 = (some .int) := rfl
theorem jm265_fr : jM_fr jm265 = 7 := rfl
theorem jm265_lo : jM_lo jm265 = 143 := rfl
theorem jm266_nl : jM_nl jm266 = 4 := rfl
theorem jm266_rt : jM_rt jm266 = (some .int) := rfl
theorem jm266_fr : jM_fr jm266 = 7 := rfl
theorem jm266_lo : jM_lo jm266 = 167 := rfl
theorem jmL_nl : jM_nl jmL = 9 := rfl
theorem jmL_rt : jM_rt jmL = (some .boolean) := rfl
theorem jmL_fr : jM_fr jmL = 9 := rfl
theorem jmL_lo : jM_lo jmL = 226 := rfl
def jst (M N : jM) : Bool := Nat.ble (jM_fr N + 1) (jM_fr M) && Nat.ble (8 + (jM_nl N + 11) + jM_lo N) (jM_lo M)
theorem jmay_of' {M N : jM} {b : Nat} {isV isI : Bool} {st : List Value} {w : jW} (h1 : jst M N = true) (h2 : Nat.ble b st.length = true) (h3 : Nat.ble (jcat (st.take b).reverse) (jM_nl N) = true) (h4 : Nat.ble (jcat (st.drop b)) 8 = true) (h5 : isV = true → jrecv (jM_ci N) (st.take b).reverse w = true) (h6 : isI = true → jisref (st.take b).reverse = true) : jmay M N b isV isI st w = true := by
  simp only [jst, Bool.and_eq_true] at h1
  simp only [jmay, h1.1, h1.2, h2, h3, h4, Bool.and_self, Bool.true_and, Bool.and_eq_true, Bool.or_eq_true, Bool.not_eq_true']
  refine ⟨?_, ?_⟩
  · cases isV
    · exact Or.inl rfl
    · exact Or.inr (h5 rfl)
  · cases isI
    · exact Or.inl rfl
    · exact Or.inr (h6 rfl)
theorem jrecv_of {ci q : Nat} {as : List Value} {w : jW} {fs : List Value} (h : w[q]? = some (.inr (ci, fs))) : jrecv ci (.ref q :: as) w = true := by
  simp only [jrecv, h, Nat.beq_refl]
theorem jcall_v0 {M N : jM} {a q ci : Nat} {rest fs : List Value} {w : jW} {k : Option Value → jW → Prop} (hN : jT[a]? = some N) (hq : w[q]? = some (.inr (ci, fs))) (hci : jM_ci N = ci := by rfl) (hs : jst M N = true := by rfl) (hc : Nat.ble (jcat [.ref q]) (jM_nl N) = true := by rfl) (hr : Nat.ble (jcat rest) 8 = true := by rfl)
    (h : jmw N [.ref q] w (fun r w1 => ∃ v, r = .inl v ∧ k v w1)) : jci M a 1 true false (.ref q :: rest) w k :=
  ⟨N, hN, jmay_of' hs (by simp) hc hr (fun _ => jrecv_of (by rw [hci]; exact hq)) (fun h => by cases h), h⟩
theorem jcall_i0 {M N : jM} {a q : Nat} {rest : List Value} {w : jW} {k : Option Value → jW → Prop} (hN : jT[a]? = some N) (hs : jst M N = true := by rfl) (hc : Nat.ble (jcat [.ref q]) (jM_nl N) = true := by rfl) (hr : Nat.ble (jcat rest) 8 = true := by rfl)
    (h : jmw N [.ref q] w (fun r w1 => ∃ v, r = .inl v ∧ k v w1)) : jci M a 1 false true (.ref q :: rest) w k :=
  ⟨N, hN, jmay_of' hs (by simp) hc hr (fun h => by cases h) (fun _ => rfl), h⟩
theorem jcall_v1 {M N : jM} {a q ci : Nat} {x0 : Value} {rest fs : List Value} {w : jW} {k : Option Value → jW → Prop} (hN : jT[a]? = some N) (hq : w[q]? = some (.inr (ci, fs))) (hci : jM_ci N = ci := by rfl) (hs : jst M N = true := by rfl) (hc : Nat.ble (jcat [.ref q, x0]) (jM_nl N) = true := by rfl) (hr : Nat.ble (jcat rest) 8 = true := by rfl)
    (h : jmw N [.ref q, x0] w (fun r w1 => ∃ v, r = .inl v ∧ k v w1)) : jci M a 2 true false (x0 :: .ref q :: rest) w k :=
  ⟨N, hN, jmay_of' hs (by simp) hc hr (fun _ => jrecv_of (by rw [hci]; exact hq)) (fun h => by cases h), h⟩
theorem jcall_i1 {M N : jM} {a q : Nat} {x0 : Value} {rest : List Value} {w : jW} {k : Option Value → jW → Prop} (hN : jT[a]? = some N) (hs : jst M N = true := by rfl) (hc : Nat.ble (jcat [.ref q, x0]) (jM_nl N) = true := by rfl) (hr : Nat.ble (jcat rest) 8 = true := by rfl)
    (h : jmw N [.ref q, x0] w (fun r w1 => ∃ v, r = .inl v ∧ k v w1)) : jci M a 2 false true (x0 :: .ref q :: rest) w k :=
  ⟨N, hN, jmay_of' hs (by simp) hc hr (fun h => by cases h) (fun _ => rfl), h⟩
theorem jcall_s1 {M N : jM} {a : Nat} {x0 : Value} {rest : List Value} {w : jW} {k : Option Value → jW → Prop} (hN : jT[a]? = some N) (hs : jst M N = true := by rfl) (hc : Nat.ble (jcat [x0]) (jM_nl N) = true := by rfl) (hr : Nat.ble (jcat rest) 8 = true := by rfl)
    (h : jmw N [x0] w (fun r w1 => ∃ v, r = .inl v ∧ k v w1)) : jci M a 1 false false (x0 :: rest) w k :=
  ⟨N, hN, jmay_of' hs (by simp) hc hr (fun h => by cases h) (fun h => by cases h), h⟩
theorem jcall_v2 {M N : jM} {a q ci : Nat} {x0 x1 : Value} {rest fs : List Value} {w : jW} {k : Option Value → jW → Prop} (hN : jT[a]? = some N) (hq : w[q]? = some (.inr (ci, fs))) (hci : jM_ci N = ci := by rfl) (hs : jst M N = true := by rfl) (hc : Nat.ble (jcat [.ref q, x0, x1]) (jM_nl N) = true := by rfl) (hr : Nat.ble (jcat rest) 8 = true := by rfl)
    (h : jmw N [.ref q, x0, x1] w (fun r w1 => ∃ v, r = .inl v ∧ k v w1)) : jci M a 3 true false (x1 :: x0 :: .ref q :: rest) w k :=
  ⟨N, hN, jmay_of' hs (by simp) hc hr (fun _ => jrecv_of (by rw [hci]; exact hq)) (fun h => by cases h), h⟩
theorem jcall_i2 {M N : jM} {a q : Nat} {x0 x1 : Value} {rest : List Value} {w : jW} {k : Option Value → jW → Prop} (hN : jT[a]? = some N) (hs : jst M N = true := by rfl) (hc : Nat.ble (jcat [.ref q, x0, x1]) (jM_nl N) = true := by rfl) (hr : Nat.ble (jcat rest) 8 = true := by rfl)
    (h : jmw N [.ref q, x0, x1] w (fun r w1 => ∃ v, r = .inl v ∧ k v w1)) : jci M a 3 false true (x1 :: x0 :: .ref q :: rest) w k :=
  ⟨N, hN, jmay_of' hs (by simp) hc hr (fun h => by cases h) (fun _ => rfl), h⟩
theorem jcall_s2 {M N : jM} {a : Nat} {x0 x1 : Value} {rest : List Value} {w : jW} {k : Option Value → jW → Prop} (hN : jT[a]? = some N) (hs : jst M N = true := by rfl) (hc : Nat.ble (jcat [x0, x1]) (jM_nl N) = true := by rfl) (hr : Nat.ble (jcat rest) 8 = true := by rfl)
    (h : jmw N [x0, x1] w (fun r w1 => ∃ v, r = .inl v ∧ k v w1)) : jci M a 2 false false (x1 :: x0 :: rest) w k :=
  ⟨N, hN, jmay_of' hs (by simp) hc hr (fun h => by cases h) (fun h => by cases h), h⟩
theorem jcall_v3 {M N : jM} {a q ci : Nat} {x0 x1 x2 : Value} {rest fs : List Value} {w : jW} {k : Option Value → jW → Prop} (hN : jT[a]? = some N) (hq : w[q]? = some (.inr (ci, fs))) (hci : jM_ci N = ci := by rfl) (hs : jst M N = true := by rfl) (hc : Nat.ble (jcat [.ref q, x0, x1, x2]) (jM_nl N) = true := by rfl) (hr : Nat.ble (jcat rest) 8 = true := by rfl)
    (h : jmw N [.ref q, x0, x1, x2] w (fun r w1 => ∃ v, r = .inl v ∧ k v w1)) : jci M a 4 true false (x2 :: x1 :: x0 :: .ref q :: rest) w k :=
  ⟨N, hN, jmay_of' hs (by simp) hc hr (fun _ => jrecv_of (by rw [hci]; exact hq)) (fun h => by cases h), h⟩
theorem jcall_i3 {M N : jM} {a q : Nat} {x0 x1 x2 : Value} {rest : List Value} {w : jW} {k : Option Value → jW → Prop} (hN : jT[a]? = some N) (hs : jst M N = true := by rfl) (hc : Nat.ble (jcat [.ref q, x0, x1, x2]) (jM_nl N) = true := by rfl) (hr : Nat.ble (jcat rest) 8 = true := by rfl)
    (h : jmw N [.ref q, x0, x1, x2] w (fun r w1 => ∃ v, r = .inl v ∧ k v w1)) : jci M a 4 false true (x2 :: x1 :: x0 :: .ref q :: rest) w k :=
  ⟨N, hN, jmay_of' hs (by simp) hc hr (fun h => by cases h) (fun _ => rfl), h⟩
theorem jcall_s3 {M N : jM} {a : Nat} {x0 x1 x2 : Value} {rest : List Value} {w : jW} {k : Option Value → jW → Prop} (hN : jT[a]? = some N) (hs : jst M N = true := by rfl) (hc : Nat.ble (jcat [x0, x1, x2]) (jM_nl N) = true := by rfl) (hr : Nat.ble (jcat rest) 8 = true := by rfl)
    (h : jmw N [x0, x1, x2] w (fun r w1 => ∃ v, r = .inl v ∧ k v w1)) : jci M a 3 false false (x2 :: x1 :: x0 :: rest) w k :=
  ⟨N, hN, jmay_of' hs (by simp) hc hr (fun h => by cases h) (fun h => by cases h), h⟩
theorem jcall_v4 {M N : jM} {a q ci : Nat} {x0 x1 x2 x3 : Value} {rest fs : List Value} {w : jW} {k : Option Value → jW → Prop} (hN : jT[a]? = some N) (hq : w[q]? = some (.inr (ci, fs))) (hci : jM_ci N = ci := by rfl) (hs : jst M N = true := by rfl) (hc : Nat.ble (jcat [.ref q, x0, x1, x2, x3]) (jM_nl N) = true := by rfl) (hr : Nat.ble (jcat rest) 8 = true := by rfl)
    (h : jmw N [.ref q, x0, x1, x2, x3] w (fun r w1 => ∃ v, r = .inl v ∧ k v w1)) : jci M a 5 true false (x3 :: x2 :: x1 :: x0 :: .ref q :: rest) w k :=
  ⟨N, hN, jmay_of' hs (by simp) hc hr (fun _ => jrecv_of (by rw [hci]; exact hq)) (fun h => by cases h), h⟩
theorem jcall_i4 {M N : jM} {a q : Nat} {x0 x1 x2 x3 : Value} {rest : List Value} {w : jW} {k : Option Value → jW → Prop} (hN : jT[a]? = some N) (hs : jst M N = true := by rfl) (hc : Nat.ble (jcat [.ref q, x0, x1, x2, x3]) (jM_nl N) = true := by rfl) (hr : Nat.ble (jcat rest) 8 = true := by rfl)
    (h : jmw N [.ref q, x0, x1, x2, x3] w (fun r w1 => ∃ v, r = .inl v ∧ k v w1)) : jci M a 5 false true (x3 :: x2 :: x1 :: x0 :: .ref q :: rest) w k :=
  ⟨N, hN, jmay_of' hs (by simp) hc hr (fun h => by cases h) (fun _ => rfl), h⟩
theorem jcall_s4 {M N : jM} {a : Nat} {x0 x1 x2 x3 : Value} {rest : List Value} {w : jW} {k : Option Value → jW → Prop} (hN : jT[a]? = some N) (hs : jst M N = true := by rfl) (hc : Nat.ble (jcat [x0, x1, x2, x3]) (jM_nl N) = true := by rfl) (hr : Nat.ble (jcat rest) 8 = true := by rfl)
    (h : jmw N [x0, x1, x2, x3] w (fun r w1 => ∃ v, r = .inl v ∧ k v w1)) : jci M a 4 false false (x3 :: x2 :: x1 :: x0 :: rest) w k :=
  ⟨N, hN, jmay_of' hs (by simp) hc hr (fun h => by cases h) (fun h => by cases h), h⟩
theorem jcall_v5 {M N : jM} {a q ci : Nat} {x0 x1 x2 x3 x4 : Value} {rest fs : List Value} {w : jW} {k : Option Value → jW → Prop} (hN : jT[a]? = some N) (hq : w[q]? = some (.inr (ci, fs))) (hci : jM_ci N = ci := by rfl) (hs : jst M N = true := by rfl) (hc : Nat.ble (jcat [.ref q, x0, x1, x2, x3, x4]) (jM_nl N) = true := by rfl) (hr : Nat.ble (jcat rest) 8 = true := by rfl)
    (h : jmw N [.ref q, x0, x1, x2, x3, x4] w (fun r w1 => ∃ v, r = .inl v ∧ k v w1)) : jci M a 6 true false (x4 :: x3 :: x2 :: x1 :: x0 :: .ref q :: rest) w k :=
  ⟨N, hN, jmay_of' hs (by simp) hc hr (fun _ => jrecv_of (by rw [hci]; exact hq)) (fun h => by cases h), h⟩
theorem jcall_i5 {M N : jM} {a q : Nat} {x0 x1 x2 x3 x4 : Value} {rest : List Value} {w : jW} {k : Option Value → jW → Prop} (hN : jT[a]? = some N) (hs : jst M N = true := by rfl) (hc : Nat.ble (jcat [.ref q, x0, x1, x2, x3, x4]) (jM_nl N) = true := by rfl) (hr : Nat.ble (jcat rest) 8 = true := by rfl)
    (h : jmw N [.ref q, x0, x1, x2, x3, x4] w (fun r w1 => ∃ v, r = .inl v ∧ k v w1)) : jci M a 6 false true (x4 :: x3 :: x2 :: x1 :: x0 :: .ref q :: rest) w k :=
  ⟨N, hN, jmay_of' hs (by simp) hc hr (fun h => by cases h) (fun _ => rfl), h⟩
theorem jcall_s5 {M N : jM} {a : Nat} {x0 x1 x2 x3 x4 : Value} {rest : List Value} {w : jW} {k : Option Value → jW → Prop} (hN : jT[a]? = some N) (hs : jst M N = true := by rfl) (hc : Nat.ble (jcat [x0, x1, x2, x3, x4]) (jM_nl N) = true := by rfl) (hr : Nat.ble (jcat rest) 8 = true := by rfl)
    (h : jmw N [x0, x1, x2, x3, x4] w (fun r w1 => ∃ v, r = .inl v ∧ k v w1)) : jci M a 5 false false (x4 :: x3 :: x2 :: x1 :: x0 :: rest) w k :=
  ⟨N, hN, jmay_of' hs (by simp) hc hr (fun h => by cases h) (fun h => by cases h), h⟩
