theorem ck0 : jchkB jTab0 (jthrb jTT0 (jM_by jm0)) false jm0 jm0p jm0p (jM_bl jm0) = true := by decide +kernel
theorem mk0 : jMok jT jTs jNWl jSRl jm0 := jMok_of tok0 jcasts jarr tT0 jm0p jm0 false rfl (by decide +kernel) rfl (fun h => (by cases h)) ck0 (fun h => rfl) (Or.inl rfl)
theorem ck1 : jchkB jTab1 (jthrb jTT1 (jM_by jm1)) false jm1 jm1p jm1p (jM_bl jm1) = true := by decide +kernel
theorem mk1 : jMok jT jTs jNWl jSRl jm1 := jMok_of tok1 jcasts jarr tT1 jm1p jm1 false rfl (by decide +kernel) rfl (fun h => (by cases h)) ck1 (fun h => rfl) (Or.inl rfl)
theorem ck2 : jchkB jTab2 (jthrb jTT2 (jM_by jm2)) true jm2 jm2p jm2p (jM_bl jm2) = true := by decide +kernel
theorem mk2 : jMok jT jTs jNWl jSRl jm2 := jMok_of tok2 jcasts jarr tT2 jm2p jm2 true rfl (by decide +kernel) rfl (fun h => rfl) ck2 (fun h => rfl) (Or.inl rfl)
theorem ck3 : jchkB jTab2 (jthrb jTT2 (jM_by jm3)) false jm3 jm3p jm3p (jM_bl jm3) = true := by decide +kernel
theorem mk3 : jMok jT jTs jNWl jSRl jm3 := jMok_of tok2 jcasts jarr tT2 jm3p jm3 false rfl (by decide +kernel) rfl (fun h => (by cases h)) ck3 (fun h => rfl) (Or.inl rfl)
theorem ck4 : jchkB jTab2 (jthrb jTT2 (jM_by jm4)) false jm4 jm4p jm4p (jM_bl jm4) = true := by decide +kernel
theorem mk4 : jMok jT jTs jNWl jSRl jm4 := jMok_of tok2 jcasts jarr tT2 jm4p jm4 false rfl (by decide +kernel) rfl (fun h => (by cases h)) ck4 (fun h => rfl) (Or.inl rfl)
theorem ck5 : jchkB jTab2 (jthrb jTT2 (jM_by jm5)) false jm5 jm5p jm5p (jM_bl jm5) = true := by decide +kernel
theorem mk5 : jMok jT jTs jNWl jSRl jm5 := jMok_of tok2 jcasts jarr tT2 jm5p jm5 false rfl (by decide +kernel) rfl (fun h => (by cases h)) ck5 (fun h => rfl) (Or.inl rfl)
theorem ck6 : jchkB jTab2 (jthrb jTT2 (jM_by jm6)) false jm6 jm6p jm6p (jM_bl jm6) = true := by decide +kernel
theorem mk6 : jMok jT jTs jNWl jSRl jm6 := jMok_of tok2 jcasts jarr tT2 jm6p jm6 false rfl (by decide +kernel) rfl (fun h => (by cases h)) ck6 (fun h => rfl) (Or.inl rfl)
theorem ck7 : jchkB jTab2 (jthrb jTT2 (jM_by jm7)) false jm7 jm7p jm7p (jM_bl jm7) = true := by decide +kernel
theorem mk7 : jMok jT jTs jNWl jSRl jm7 := jMok_of tok2 jcasts jarr tT2 jm7p jm7 false rfl (by decide +kernel) rfl (fun h => (by cases h)) ck7 (fun h => rfl) (Or.inl rfl)
theorem ck8 : jchkB jTab2 (jthrb jTT2 (jM_by jm8)) false jm8 jm8p jm8p (jM_bl jm8) = true := by decide +kernel
theorem mk8 : jMok jT jTs jNWl jSRl jm8 := jMok_of tok2 jcasts jarr tT2 jm8p jm8 false rfl (by decide +kernel) rfl (fun h => (by cases h)) ck8 (fun h => rfl) (Or.inl rfl)
theorem ck9 : jchkB jTab3 (jthrb jTT3 (jM_by jm9)) true jm9 jm9p jm9p (jM_bl jm9) = true := by decide +kernel
theorem mk9 : jMok jT jTs jNWl jSRl jm9 := jMok_of tok3 jcasts jarr tT3 jm9p jm9 true rfl (by decide +kernel) rfl (fun h => rfl) ck9 (fun h => rfl) (Or.inl rfl)
theorem ck10 : jchkB jTab3 (jthrb jTT3 (jM_by jm10)) false jm10 jm10p jm10p (jM_bl jm10) = true := by decide +kernel
theorem mk10 : jMok jT jTs jNWl jSRl jm10 := jMok_of tok3 jcasts jarr tT3 jm10p jm10 false rfl (by decide +kernel) rfl (fun h => (by cases h)) ck10 (fun h => rfl) (Or.inl rfl)
theorem ck11 : jchkB jTab3 (jthrb jTT3 (jM_by jm11)) false jm11 jm11p jm11p (jM_bl jm11) = true := by decide +kernel
theorem mk11 : jMok jT jTs jNWl jSRl jm11 := jMok_of tok3 jcasts jarr tT3 jm11p jm11 false rfl (by decide +kernel) rfl (fun h => (by cases h)) ck11 (fun h => rfl) (Or.inl rfl)
theorem ck12 : jchkB jTab3 (jthrb jTT3 (jM_by jm12)) false jm12 jm12p jm12p (jM_bl jm12) = true := by decide +kernel
theorem mk12 : jMok jT jTs jNWl jSRl jm12 := jMok_of tok3 jcasts jarr tT3 jm12p jm12 false rfl (by decide +kernel) rfl (fun h => (by cases h)) ck12 (fun h => rfl) (Or.inl rfl)
theorem ck13 : jchkB jTab3 (jthrb jTT3 (jM_by jm13)) false jm13 jm13p jm13p (jM_bl jm13) = true := by decide +kernel
theorem mk13 : jMok jT jTs jNWl jSRl jm13 := jMok_of tok3 jcasts jarr tT3 jm13p jm13 false rfl (by decide +kernel) rfl (fun h => (by cases h)) ck13 (fun h => rfl) (Or.inl rfl)
theorem ck14 : jchkB jTab3 (jthrb jTT3 (jM_by jm14)) false jm14 jm14p jm14p (jM_bl jm14) = true := by decide +kernel
theorem mk14 : jMok jT jTs jNWl jSRl jm14 := jMok_of tok3 jcasts jarr tT3 jm14p jm14 false rfl (by decide +kernel) rfl (fun h => (by cases h)) ck14 (fun h => rfl) (Or.inl rfl)
theorem ck15 : jchkB jTab3 (jthrb jTT3 (jM_by jm15)) false jm15 jm15p jm15p (jM_bl jm15) = true := by decide +kernel
theorem mk15 : jMok jT jTs jNWl jSRl jm15 := jMok_of tok3 jcasts jarr tT3 jm15p jm15 false rfl (by decide +kernel) rfl (fun h => (by cases h)) ck15 (fun h => rfl) (Or.inl rfl)
theorem ck16 : jchkB jTab3 (jthrb jTT3 (jM_by jm16)) false jm16 jm16p jm16p (jM_bl jm16) = true := by decide +kernel
theorem mk16 : jMok jT jTs jNWl jSRl jm16 := jMok_of tok3 jcasts jarr tT3 jm16p jm16 false rfl (by decide +kernel) rfl (fun h => (by cases h)) ck16 (fun h => rfl) (Or.inl rfl)
theorem ck17 : jchkB jTab3 (jthrb jTT3 (jM_by jm17)) false jm17 jm17p jm17p (jM_bl jm17) = true := by decide +kernel
theorem mk17 : jMok jT jTs jNWl jSRl jm17 := jMok_of tok3 jcasts jarr tT3 jm17p jm17 false rfl (by decide +kernel) rfl (fun h => (by cases h)) ck17 (fun h => rfl) (Or.inl rfl)
theorem ck18 : jchkB jTab3 (jthrb jTT3 (jM_by jm18)) false jm18 jm18p jm18p (jM_bl jm18) = true := by decide +kernel
theorem mk18 : jMok jT jTs jNWl jSRl jm18 := jMok_of tok3 jcasts jarr tT3 jm18p jm18 false rfl (by decide +kernel) rfl (fun h => (by cases h)) ck18 (fun h => rfl) (Or.inl rfl)
theorem ck19 : jchkB jTab4 (jthrb jTT4 (jM_by jm19)) true jm19 jm19p jm19p (jM_bl jm19) = true := by decide +kernel
theorem mk19 : jMok jT jTs jNWl jSRl jm19 := jMok_of tok4 jcasts jarr tT4 jm19p jm19 true rfl (by decide +kernel) rfl (fun h => rfl) ck19 (fun h => rfl) (Or.inl rfl)
theorem ck20 : jchkB jTab4 (jthrb jTT4 (jM_by jm20)) false jm20 jm20p jm20p (jM_bl jm20) = true := by decide +kernel
theorem mk20 : jMok jT jTs jNWl jSRl jm20 := jMok_of tok4 jcasts jarr tT4 jm20p jm20 false rfl (by decide +kernel) rfl (fun h => (by cases h)) ck20 (fun h => rfl) (Or.inl rfl)
theorem ck21 : jchkB jTab4 (jthrb jTT4 (jM_by jm21)) false jm21 jm21p jm21p (jM_bl jm21) = true := by decide +kernel
theorem mk21 : jMok jT jTs jNWl jSRl jm21 := jMok_of tok4 jcasts jarr tT4 jm21p jm21 false rfl (by decide +kernel) rfl (fun h => (by cases h)) ck21 (fun h => rfl) (Or.inl rfl)
theorem ck22 : jchkB jTab4 (jthrb jTT4 (jM_by jm22)) false jm22 jm22p jm22p (jM_bl jm22) = true := by decide +kernel
theorem mk22 : jMok jT jTs jNWl jSRl jm22 := jMok_of tok4 jcasts jarr tT4 jm22p jm22 false rfl (by decide +kernel) rfl (fun h => (by cases h)) ck22 (fun h => rfl) (Or.inl rfl)
theorem ck23 : jchkB jTab4 (jthrb jTT4 (jM_by jm23)) false jm23 jm23p jm23p (jM_bl jm23) = true := by decide +kernel
theorem mk23 : jMok jT jTs jNWl jSRl jm23 := jMok_of tok4 jcasts jarr tT4 jm23p jm23 false rfl (by decide +kernel) rfl (fun h => (by cases h)) ck23 (fun h => rfl) (Or.inl rfl)
theorem ck24 : jchkB jTab4 (jthrb jTT4 (jM_by jm24)) false jm24 jm24p jm24p (jM_bl jm24) = true := by decide +kernel
theorem mk24 : jMok jT jTs jNWl jSRl jm24 := jMok_of tok4 jcasts jarr tT4 jm24p jm24 false rfl (by decide +kernel) rfl (fun h => (by cases h)) ck24 (fun h => rfl) (Or.inl rfl)
theorem ck25 : jchkB jTab4 (jthrb jTT4 (jM_by jm25)) false jm25 jm25p jm25p (jM_bl jm25) = true := by decide +kernel
theorem mk25 : jMok jT jTs jNWl jSRl jm25 := jMok_of tok4 jcasts jarr tT4 jm25p jm25 false rfl (by decide +kernel) rfl (fun h => (by cases h)) ck25 (fun h => rfl) (Or.inl rfl)
theorem ck26 : jchkB jTab4 (jthrb jTT4 (jM_by jm26)) false jm26 jm26p jm26p (jM_bl jm26) = true := by decide +kernel
theorem mk26 : jMok jT jTs jNWl jSRl jm26 := jMok_of tok4 jcasts jarr tT4 jm26p jm26 false rfl (by decide +kernel) rfl (fun h => (by cases h)) ck26 (fun h => rfl) (Or.inl rfl)
theorem ck27 : jchkB jTab4 (jthrb jTT4 (jM_by jm27)) false jm27 jm27p jm27p (jM_bl jm27) = true := by decide +kernel
theorem mk27 : jMok jT jTs jNWl jSRl jm27 := jMok_of tok4 jcasts jarr tT4 jm27p jm27 false rfl (by decide +kernel) rfl (fun h => (by cases h)) ck27 (fun h => rfl) (Or.inl rfl)
theorem ck28 : jchkB jTab4 (jthrb jTT4 (jM_by jm28)) false jm28 jm28p jm28p (jM_bl jm28) = true := by decide +kernel
theorem mk28 : jMok jT jTs jNWl jSRl jm28 := jMok_of tok4 jcasts jarr tT4 jm28p jm28 false rfl (by decide +kernel) rfl (fun h => (by cases h)) ck28 (fun h => rfl) (Or.inl rfl)
theorem ck29 : jchkB jTab4 (jthrb jTT4 (jM_by jm29)) false jm29 jm29p jm29p (jM_bl jm29) = true := by decide +kernel
theorem mk29 : jMok jT jTs jNWl jSRl jm29 := jMok_of tok4 jcasts jarr tT4 jm29p jm29 false rfl (by decide +kernel) rfl (fun h => (by cases h)) ck29 (fun h => rfl) (Or.inl rfl)
theorem ck30 : jchkB jTab4 (jthrb jTT4 (jM_by jm30)) false jm30 jm30p jm30p (jM_bl jm30) = true := by decide +kernel
theorem mk30 : jMok jT jTs jNWl jSRl jm30 := jMok_of tok4 jcasts jarr tT4 jm30p jm30 false rfl (by decide +kernel) rfl (fun h => (by cases h)) ck30 (fun h => rfl) (Or.inl rfl)
theorem ck31 : jchkB jTab4 (jthrb jTT4 (jM_by jm31)) false jm31 jm31p jm31p (jM_bl jm31) = true := by decide +kernel
theorem mk31 : jMok jT jTs jNWl jSRl jm31 := jMok_of tok4 jcasts jarr tT4 jm31p jm31 false rfl (by decide +kernel) rfl (fun h => (by cases h)) ck31 (fun h => rfl) (Or.inl rfl)
theorem ck32 : jchkB jTab5 (jthrb jTT5 (jM_by jm32)) true jm32 jm32p jm32p (jM_bl jm32) = true := by decide +kernel
theorem mk32 : jMok jT jTs jNWl jSRl jm32 := jMok_of tok5 jcasts jarr tT5 jm32p jm32 true rfl (by decide +kernel) rfl (fun h => rfl) ck32 (fun h => rfl) (Or.inl rfl)
theorem ck33 : jchkB jTab5 (jthrb jTT5 (jM_by jm33)) false jm33 jm33p jm33p (jM_bl jm33) = true := by decide +kernel
theorem mk33 : jMok jT jTs jNWl jSRl jm33 := jMok_of tok5 jcasts jarr tT5 jm33p jm33 false rfl (by decide +kernel) rfl (fun h => (by cases h)) ck33 (fun h => rfl) (Or.inl rfl)
theorem ck34 : jchkB jTab5 (jthrb jTT5 (jM_by jm34)) false jm34 jm34p jm34p (jM_bl jm34) = true := by decide +kernel
theorem mk34 : jMok jT jTs jNWl jSRl jm34 := jMok_of tok5 jcasts jarr tT5 jm34p jm34 false rfl (by decide +kernel) rfl (fun h => (by cases h)) ck34 (fun h => rfl) (Or.inl rfl)
theorem ck35 : jchkB jTab5 (jthrb jTT5 (jM_by jm35)) false jm35 jm35p jm35p (jM_bl jm35) = true := by decide +kernel
theorem mk35 : jMok jT jTs jNWl jSRl jm35 := jMok_of tok5 jcasts jarr tT5 jm35p jm35 false rfl (by decide +kernel) rfl (fun h => (by cases h)) ck35 (fun h => rfl) (Or.inl rfl)
theorem ck36 : jchkB jTab5 (jthrb jTT5 (jM_by jm36)) false jm36 jm36p jm36p (jM_bl jm36) = true := by decide +kernel
theorem mk36 : jMok jT jTs jNWl jSRl jm36 := jMok_of tok5 jcasts jarr tT5 jm36p jm36 false rfl (by decide +kernel) rfl (fun h => (by cases h)) ck36 (fun h => rfl) (Or.inl rfl)
theorem ck37 : jchkB jTab6 (jthrb jTT6 (jM_by jm37)) true jm37 jm37p jm37p (jM_bl jm37) = true := by decide +kernel
theorem mk37 : jMok jT jTs jNWl jSRl jm37 := jMok_of tok6 jcasts jarr tT6 jm37p jm37 true rfl (by decide +kernel) rfl (fun h => rfl) ck37 (fun h => rfl) (Or.inl rfl)
theorem ck38 : jchkB jTab6 (jthrb jTT6 (jM_by jm38)) false jm38 jm38p jm38p (jM_bl jm38) = true := by decide +kernel
theorem mk38 : jMok jT jTs jNWl jSRl jm38 := jMok_of tok6 jcasts jarr tT6 jm38p jm38 false rfl (by decide +kernel) rfl (fun h => (by cases h)) ck38 (fun h => rfl) (Or.inl rfl)
theorem ck39 : jchkB jTab6 (jthrb jTT6 (jM_by jm39)) false jm39 jm39p jm39p (jM_bl jm39) = true := by decide +kernel
theorem mk39 : jMok jT jTs jNWl jSRl jm39 := jMok_of tok6 jcasts jarr tT6 jm39p jm39 false rfl (by decide +kernel) rfl (fun h => (by cases h)) ck39 (fun h => rfl) (Or.inl rfl)
theorem ck40 : jchkB jTab6 (jthrb jTT6 (jM_by jm40)) false jm40 jm40p jm40p (jM_bl jm40) = true := by decide +kernel
theorem mk40 : jMok jT jTs jNWl jSRl jm40 := jMok_of tok6 jcasts jarr tT6 jm40p jm40 false rfl (by decide +kernel) rfl (fun h => (by cases h)) ck40 (fun h => rfl) (Or.inl rfl)
