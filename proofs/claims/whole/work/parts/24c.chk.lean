theorem ck86 : jchkB jTab10 (jthrb jTT10 (jM_by jm86)) false jm86 jm86p jm86p (jM_bl jm86) = true := by decide +kernel
theorem mk86 : jMok jT jTs jNWl jSRl jm86 := jMok_of tok10 jcasts jarr tT10 jm86p jm86 false rfl (by decide +kernel) rfl (fun h => (by cases h)) ck86 (fun h => rfl) (Or.inl rfl)
theorem ck87 : jchkB jTab10 (jthrb jTT10 (jM_by jm87)) false jm87 jm87p jm87p (jM_bl jm87) = true := by decide +kernel
theorem mk87 : jMok jT jTs jNWl jSRl jm87 := jMok_of tok10 jcasts jarr tT10 jm87p jm87 false rfl (by decide +kernel) rfl (fun h => (by cases h)) ck87 (fun h => rfl) (Or.inl rfl)
theorem ck88 : jchkB jTab10 (jthrb jTT10 (jM_by jm88)) false jm88 jm88p jm88p (jM_bl jm88) = true := by decide +kernel
theorem mk88 : jMok jT jTs jNWl jSRl jm88 := jMok_of tok10 jcasts jarr tT10 jm88p jm88 false rfl (by decide +kernel) rfl (fun h => (by cases h)) ck88 (fun h => rfl) (Or.inl rfl)
theorem ck89 : jchkB jTab10 (jthrb jTT10 (jM_by jm89)) false jm89 jm89p jm89p (jM_bl jm89) = true := by decide +kernel
theorem mk89 : jMok jT jTs jNWl jSRl jm89 := jMok_of tok10 jcasts jarr tT10 jm89p jm89 false rfl (by decide +kernel) rfl (fun h => (by cases h)) ck89 (fun h => rfl) (Or.inl rfl)
theorem ck90 : jchkB jTab10 (jthrb jTT10 (jM_by jm90)) false jm90 jm90p jm90p (jM_bl jm90) = true := by decide +kernel
theorem mk90 : jMok jT jTs jNWl jSRl jm90 := jMok_of tok10 jcasts jarr tT10 jm90p jm90 false rfl (by decide +kernel) rfl (fun h => (by cases h)) ck90 (fun h => rfl) (Or.inl rfl)
theorem ck91 : jchkB jTab11 (jthrb jTT11 (jM_by jm91)) true jm91 jm91p jm91p (jM_bl jm91) = true := by decide +kernel
theorem mk91 : jMok jT jTs jNWl jSRl jm91 := jMok_of tok11 jcasts jarr tT11 jm91p jm91 true rfl (by decide +kernel) rfl (fun h => rfl) ck91 (fun h => rfl) (Or.inl rfl)
theorem ck92 : jchkB jTab11 (jthrb jTT11 (jM_by jm92)) false jm92 jm92p jm92p (jM_bl jm92) = true := by decide +kernel
theorem mk92 : jMok jT jTs jNWl jSRl jm92 := jMok_of tok11 jcasts jarr tT11 jm92p jm92 false rfl (by decide +kernel) rfl (fun h => (by cases h)) ck92 (fun h => rfl) (Or.inl rfl)
theorem ck93 : jchkB jTab11 (jthrb jTT11 (jM_by jm93)) false jm93 jm93p jm93p (jM_bl jm93) = true := by decide +kernel
theorem mk93 : jMok jT jTs jNWl jSRl jm93 := jMok_of tok11 jcasts jarr tT11 jm93p jm93 false rfl (by decide +kernel) rfl (fun h => (by cases h)) ck93 (fun h => rfl) (Or.inl rfl)
theorem ck94 : jchkB jTab11 (jthrb jTT11 (jM_by jm94)) false jm94 jm94p jm94p (jM_bl jm94) = true := by decide +kernel
theorem mk94 : jMok jT jTs jNWl jSRl jm94 := jMok_of tok11 jcasts jarr tT11 jm94p jm94 false rfl (by decide +kernel) rfl (fun h => (by cases h)) ck94 (fun h => rfl) (Or.inl rfl)
theorem ck95 : jchkB jTab11 (jthrb jTT11 (jM_by jm95)) false jm95 jm95p jm95p (jM_bl jm95) = true := by decide +kernel
theorem mk95 : jMok jT jTs jNWl jSRl jm95 := jMok_of tok11 jcasts jarr tT11 jm95p jm95 false rfl (by decide +kernel) rfl (fun h => (by cases h)) ck95 (fun h => rfl) (Or.inl rfl)
theorem ck96 : jchkB jTab11 (jthrb jTT11 (jM_by jm96)) false jm96 jm96p jm96p (jM_bl jm96) = true := by decide +kernel
theorem mk96 : jMok jT jTs jNWl jSRl jm96 := jMok_of tok11 jcasts jarr tT11 jm96p jm96 false rfl (by decide +kernel) rfl (fun h => (by cases h)) ck96 (fun h => rfl) (Or.inl rfl)
theorem ck97 : jchkB jTab11 (jthrb jTT11 (jM_by jm97)) false jm97 jm97p jm97p (jM_bl jm97) = true := by decide +kernel
theorem mk97 : jMok jT jTs jNWl jSRl jm97 := jMok_of tok11 jcasts jarr tT11 jm97p jm97 false rfl (by decide +kernel) rfl (fun h => (by cases h)) ck97 (fun h => rfl) (Or.inl rfl)
theorem ck98 : jchkB jTab11 (jthrb jTT11 (jM_by jm98)) false jm98 jm98p jm98p (jM_bl jm98) = true := by decide +kernel
theorem mk98 : jMok jT jTs jNWl jSRl jm98 := jMok_of tok11 jcasts jarr tT11 jm98p jm98 false rfl (by decide +kernel) rfl (fun h => (by cases h)) ck98 (fun h => rfl) (Or.inl rfl)
theorem ck99 : jchkB jTab11 (jthrb jTT11 (jM_by jm99)) false jm99 jm99p jm99p (jM_bl jm99) = true := by decide +kernel
theorem mk99 : jMok jT jTs jNWl jSRl jm99 := jMok_of tok11 jcasts jarr tT11 jm99p jm99 false rfl (by decide +kernel) rfl (fun h => (by cases h)) ck99 (fun h => rfl) (Or.inl rfl)
theorem ck100 : jchkB jTab11 (jthrb jTT11 (jM_by jm100)) false jm100 jm100p jm100p (jM_bl jm100) = true := by decide +kernel
theorem mk100 : jMok jT jTs jNWl jSRl jm100 := jMok_of tok11 jcasts jarr tT11 jm100p jm100 false rfl (by decide +kernel) rfl (fun h => (by cases h)) ck100 (fun h => rfl) (Or.inl rfl)
theorem ck101 : jchkB jTab11 (jthrb jTT11 (jM_by jm101)) false jm101 jm101p jm101p (jM_bl jm101) = true := by decide +kernel
theorem mk101 : jMok jT jTs jNWl jSRl jm101 := jMok_of tok11 jcasts jarr tT11 jm101p jm101 false rfl (by decide +kernel) rfl (fun h => (by cases h)) ck101 (fun h => rfl) (Or.inl rfl)
theorem ck102 : jchkB jTab11 (jthrb jTT11 (jM_by jm102)) false jm102 jm102p jm102p (jM_bl jm102) = true := by decide +kernel
theorem mk102 : jMok jT jTs jNWl jSRl jm102 := jMok_of tok11 jcasts jarr tT11 jm102p jm102 false rfl (by decide +kernel) rfl (fun h => (by cases h)) ck102 (fun h => rfl) (Or.inl rfl)
theorem ck103 : jchkB jTab12 (jthrb jTT12 (jM_by jm103)) true jm103 jm103p jm103p (jM_bl jm103) = true := by decide +kernel
theorem mk103 : jMok jT jTs jNWl jSRl jm103 := jMok_of tok12 jcasts jarr tT12 jm103p jm103 true rfl (by decide +kernel) rfl (fun h => rfl) ck103 (fun h => rfl) (Or.inl rfl)
theorem ck104 : jchkB jTab12 (jthrb jTT12 (jM_by jm104)) false jm104 jm104p jm104p (jM_bl jm104) = true := by decide +kernel
theorem mk104 : jMok jT jTs jNWl jSRl jm104 := jMok_of tok12 jcasts jarr tT12 jm104p jm104 false rfl (by decide +kernel) rfl (fun h => (by cases h)) ck104 (fun h => rfl) (Or.inl rfl)
theorem ck105 : jchkB jTab12 (jthrb jTT12 (jM_by jm105)) false jm105 jm105p jm105p (jM_bl jm105) = true := by decide +kernel
theorem mk105 : jMok jT jTs jNWl jSRl jm105 := jMok_of tok12 jcasts jarr tT12 jm105p jm105 false rfl (by decide +kernel) rfl (fun h => (by cases h)) ck105 (fun h => rfl) (Or.inl rfl)
theorem ck106 : jchkB jTab12 (jthrb jTT12 (jM_by jm106)) false jm106 jm106p jm106p (jM_bl jm106) = true := by decide +kernel
theorem mk106 : jMok jT jTs jNWl jSRl jm106 := jMok_of tok12 jcasts jarr tT12 jm106p jm106 false rfl (by decide +kernel) rfl (fun h => (by cases h)) ck106 (fun h => rfl) (Or.inl rfl)
theorem ck107 : jchkB jTab13 (jthrb jTT13 (jM_by jm107)) true jm107 jm107p jm107p (jM_bl jm107) = true := by decide +kernel
theorem mk107 : jMok jT jTs jNWl jSRl jm107 := jMok_of tok13 jcasts jarr tT13 jm107p jm107 true rfl (by decide +kernel) rfl (fun h => rfl) ck107 (fun h => rfl) (Or.inr rfl)
theorem ck108 : jchkB jTab13 (jthrb jTT13 (jM_by jm108)) false jm108 jm108p jm108p (jM_bl jm108) = true := by decide +kernel
theorem mk108 : jMok jT jTs jNWl jSRl jm108 := jMok_of tok13 jcasts jarr tT13 jm108p jm108 false rfl (by decide +kernel) rfl (fun h => (by cases h)) ck108 (fun h => rfl) (Or.inr rfl)
theorem ck109 : jchkB jTab13 (jthrb jTT13 (jM_by jm109)) false jm109 jm109p jm109p (jM_bl jm109) = true := by decide +kernel
theorem mk109 : jMok jT jTs jNWl jSRl jm109 := jMok_of tok13 jcasts jarr tT13 jm109p jm109 false rfl (by decide +kernel) rfl (fun h => (by cases h)) ck109 (fun h => rfl) (Or.inr rfl)
theorem ck110 : jchkB jTab13 (jthrb jTT13 (jM_by jm110)) false jm110 jm110p jm110p (jM_bl jm110) = true := by decide +kernel
theorem mk110 : jMok jT jTs jNWl jSRl jm110 := jMok_of tok13 jcasts jarr tT13 jm110p jm110 false rfl (by decide +kernel) rfl (fun h => (by cases h)) ck110 (fun h => rfl) (Or.inr rfl)
theorem ck111 : jchkB jTab13 (jthrb jTT13 (jM_by jm111)) false jm111 jm111p jm111p (jM_bl jm111) = true := by decide +kernel
theorem mk111 : jMok jT jTs jNWl jSRl jm111 := jMok_of tok13 jcasts jarr tT13 jm111p jm111 false rfl (by decide +kernel) rfl (fun h => (by cases h)) ck111 (fun h => rfl) (Or.inr rfl)
theorem ck112 : jchkB jTab13 (jthrb jTT13 (jM_by jm112)) false jm112 jm112p jm112p (jM_bl jm112) = true := by decide +kernel
theorem mk112 : jMok jT jTs jNWl jSRl jm112 := jMok_of tok13 jcasts jarr tT13 jm112p jm112 false rfl (by decide +kernel) rfl (fun h => (by cases h)) ck112 (fun h => rfl) (Or.inr rfl)
theorem ck113 : jchkB jTab13 (jthrb jTT13 (jM_by jm113)) false jm113 jm113p jm113p (jM_bl jm113) = true := by decide +kernel
theorem mk113 : jMok jT jTs jNWl jSRl jm113 := jMok_of tok13 jcasts jarr tT13 jm113p jm113 false rfl (by decide +kernel) rfl (fun h => (by cases h)) ck113 (fun h => rfl) (Or.inr rfl)
theorem ck114 : jchkB jTab13 (jthrb jTT13 (jM_by jm114)) false jm114 jm114p jm114p (jM_bl jm114) = true := by decide +kernel
theorem mk114 : jMok jT jTs jNWl jSRl jm114 := jMok_of tok13 jcasts jarr tT13 jm114p jm114 false rfl (by decide +kernel) rfl (fun h => (by cases h)) ck114 (fun h => rfl) (Or.inr rfl)
theorem ck115 : jchkB jTab13 (jthrb jTT13 (jM_by jm115)) false jm115 jm115p jm115p (jM_bl jm115) = true := by decide +kernel
theorem mk115 : jMok jT jTs jNWl jSRl jm115 := jMok_of tok13 jcasts jarr tT13 jm115p jm115 false rfl (by decide +kernel) rfl (fun h => (by cases h)) ck115 (fun h => rfl) (Or.inr rfl)
theorem ck116 : jchkB jTab13 (jthrb jTT13 (jM_by jm116)) false jm116 jm116p jm116p (jM_bl jm116) = true := by decide +kernel
theorem mk116 : jMok jT jTs jNWl jSRl jm116 := jMok_of tok13 jcasts jarr tT13 jm116p jm116 false rfl (by decide +kernel) rfl (fun h => (by cases h)) ck116 (fun h => rfl) (Or.inr rfl)
theorem ck117 : jchkB jTab13 (jthrb jTT13 (jM_by jm117)) false jm117 jm117p jm117p (jM_bl jm117) = true := by decide +kernel
theorem mk117 : jMok jT jTs jNWl jSRl jm117 := jMok_of tok13 jcasts jarr tT13 jm117p jm117 false rfl (by decide +kernel) rfl (fun h => (by cases h)) ck117 (fun h => rfl) (Or.inr rfl)
theorem ck118 : jchkB jTab13 (jthrb jTT13 (jM_by jm118)) false jm118 jm118p jm118p (jM_bl jm118) = true := by decide +kernel
theorem mk118 : jMok jT jTs jNWl jSRl jm118 := jMok_of tok13 jcasts jarr tT13 jm118p jm118 false rfl (by decide +kernel) rfl (fun h => (by cases h)) ck118 (fun h => rfl) (Or.inr rfl)
theorem ck119 : jchkB jTab13 (jthrb jTT13 (jM_by jm119)) false jm119 jm119p jm119p (jM_bl jm119) = true := by decide +kernel
theorem mk119 : jMok jT jTs jNWl jSRl jm119 := jMok_of tok13 jcasts jarr tT13 jm119p jm119 false rfl (by decide +kernel) rfl (fun h => (by cases h)) ck119 (fun h => rfl) (Or.inr rfl)
theorem ck120 : jchkB jTab13 (jthrb jTT13 (jM_by jm120)) false jm120 jm120p jm120p (jM_bl jm120) = true := by decide +kernel
theorem mk120 : jMok jT jTs jNWl jSRl jm120 := jMok_of tok13 jcasts jarr tT13 jm120p jm120 false rfl (by decide +kernel) rfl (fun h => (by cases h)) ck120 (fun h => rfl) (Or.inr rfl)
theorem ck121 : jchkB jTab13 (jthrb jTT13 (jM_by jm121)) false jm121 jm121p jm121p (jM_bl jm121) = true := by decide +kernel
theorem mk121 : jMok jT jTs jNWl jSRl jm121 := jMok_of tok13 jcasts jarr tT13 jm121p jm121 false rfl (by decide +kernel) rfl (fun h => (by cases h)) ck121 (fun h => rfl) (Or.inr rfl)
theorem ck122 : jchkB jTab13 (jthrb jTT13 (jM_by jm122)) false jm122 jm122p jm122p (jM_bl jm122) = true := by decide +kernel
theorem mk122 : jMok jT jTs jNWl jSRl jm122 := jMok_of tok13 jcasts jarr tT13 jm122p jm122 false rfl (by decide +kernel) rfl (fun h => (by cases h)) ck122 (fun h => rfl) (Or.inr rfl)
theorem ck123 : jchkB jTab13 (jthrb jTT13 (jM_by jm123)) false jm123 jm123p jm123p (jM_bl jm123) = true := by decide +kernel
theorem mk123 : jMok jT jTs jNWl jSRl jm123 := jMok_of tok13 jcasts jarr tT13 jm123p jm123 false rfl (by decide +kernel) rfl (fun h => (by cases h)) ck123 (fun h => rfl) (Or.inr rfl)
theorem ck124 : jchkB jTab13 (jthrb jTT13 (jM_by jm124)) false jm124 jm124p jm124p (jM_bl jm124) = true := by decide +kernel
theorem mk124 : jMok jT jTs jNWl jSRl jm124 := jMok_of tok13 jcasts jarr tT13 jm124p jm124 false rfl (by decide +kernel) rfl (fun h => (by cases h)) ck124 (fun h => rfl) (Or.inr rfl)
