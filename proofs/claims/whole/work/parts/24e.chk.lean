theorem ck168 : jchkB jTab14 (jthrb jTT14 (jM_by jm168)) false jm168 jm168p jm168p (jM_bl jm168) = true := by decide +kernel
theorem mk168 : jMok jT jTs jNWl jSRl jm168 := jMok_of tok14 jcasts jarr tT14 jm168p jm168 false rfl (by decide +kernel) rfl (fun h => (by cases h)) ck168 (fun h => rfl) (Or.inl rfl)
theorem ck169 : jchkB jTab14 (jthrb jTT14 (jM_by jm169)) false jm169 jm169p jm169p (jM_bl jm169) = true := by decide +kernel
theorem mk169 : jMok jT jTs jNWl jSRl jm169 := jMok_of tok14 jcasts jarr tT14 jm169p jm169 false rfl (by decide +kernel) rfl (fun h => (by cases h)) ck169 (fun h => rfl) (Or.inl rfl)
theorem ck170 : jchkB jTab14 (jthrb jTT14 (jM_by jm170)) false jm170 jm170p jm170p (jM_bl jm170) = true := by decide +kernel
theorem mk170 : jMok jT jTs jNWl jSRl jm170 := jMok_of tok14 jcasts jarr tT14 jm170p jm170 false rfl (by decide +kernel) rfl (fun h => (by cases h)) ck170 (fun h => rfl) (Or.inl rfl)
theorem ck171 : jchkB jTab14 (jthrb jTT14 (jM_by jm171)) false jm171 jm171p jm171p (jM_bl jm171) = true := by decide +kernel
theorem mk171 : jMok jT jTs jNWl jSRl jm171 := jMok_of tok14 jcasts jarr tT14 jm171p jm171 false rfl (by decide +kernel) rfl (fun h => (by cases h)) ck171 (fun h => rfl) (Or.inl rfl)
theorem ck172 : jchkB jTab14 (jthrb jTT14 (jM_by jm172)) false jm172 jm172p jm172p (jM_bl jm172) = true := by decide +kernel
theorem mk172 : jMok jT jTs jNWl jSRl jm172 := jMok_of tok14 jcasts jarr tT14 jm172p jm172 false rfl (by decide +kernel) rfl (fun h => (by cases h)) ck172 (fun h => rfl) (Or.inl rfl)
theorem ck173 : jchkB jTab14 (jthrb jTT14 (jM_by jm173)) false jm173 jm173p jm173p (jM_bl jm173) = true := by decide +kernel
theorem mk173 : jMok jT jTs jNWl jSRl jm173 := jMok_of tok14 jcasts jarr tT14 jm173p jm173 false rfl (by decide +kernel) rfl (fun h => (by cases h)) ck173 (fun h => rfl) (Or.inl rfl)
theorem ck174 : jchkB jTab14 (jthrb jTT14 (jM_by jm174)) false jm174 jm174p jm174p (jM_bl jm174) = true := by decide +kernel
theorem mk174 : jMok jT jTs jNWl jSRl jm174 := jMok_of tok14 jcasts jarr tT14 jm174p jm174 false rfl (by decide +kernel) rfl (fun h => (by cases h)) ck174 (fun h => rfl) (Or.inl rfl)
theorem ck175 : jchkB jTab14 (jthrb jTT14 (jM_by jm175)) false jm175 jm175p jm175p (jM_bl jm175) = true := by decide +kernel
theorem mk175 : jMok jT jTs jNWl jSRl jm175 := jMok_of tok14 jcasts jarr tT14 jm175p jm175 false rfl (by decide +kernel) rfl (fun h => (by cases h)) ck175 (fun h => rfl) (Or.inl rfl)
theorem ck176 : jchkB jTab14 (jthrb jTT14 (jM_by jm176)) false jm176 jm176p jm176p (jM_bl jm176) = true := by decide +kernel
theorem mk176 : jMok jT jTs jNWl jSRl jm176 := jMok_of tok14 jcasts jarr tT14 jm176p jm176 false rfl (by decide +kernel) rfl (fun h => (by cases h)) ck176 (fun h => rfl) (Or.inl rfl)
theorem ck177 : jchkB jTab14 (jthrb jTT14 (jM_by jm177)) false jm177 jm177p jm177p (jM_bl jm177) = true := by decide +kernel
theorem mk177 : jMok jT jTs jNWl jSRl jm177 := jMok_of tok14 jcasts jarr tT14 jm177p jm177 false rfl (by decide +kernel) rfl (fun h => (by cases h)) ck177 (fun h => rfl) (Or.inl rfl)
theorem ck178 : jchkB jTab14 (jthrb jTT14 (jM_by jm178)) false jm178 jm178p jm178p (jM_bl jm178) = true := by decide +kernel
theorem mk178 : jMok jT jTs jNWl jSRl jm178 := jMok_of tok14 jcasts jarr tT14 jm178p jm178 false rfl (by decide +kernel) rfl (fun h => (by cases h)) ck178 (fun h => rfl) (Or.inl rfl)
theorem ck179 : jchkB jTab14 (jthrb jTT14 (jM_by jm179)) false jm179 jm179p jm179p (jM_bl jm179) = true := by decide +kernel
theorem mk179 : jMok jT jTs jNWl jSRl jm179 := jMok_of tok14 jcasts jarr tT14 jm179p jm179 false rfl (by decide +kernel) rfl (fun h => (by cases h)) ck179 (fun h => rfl) (Or.inl rfl)
theorem ck180 : jchkB jTab14 (jthrb jTT14 (jM_by jm180)) false jm180 jm180p jm180p (jM_bl jm180) = true := by decide +kernel
theorem mk180 : jMok jT jTs jNWl jSRl jm180 := jMok_of tok14 jcasts jarr tT14 jm180p jm180 false rfl (by decide +kernel) rfl (fun h => (by cases h)) ck180 (fun h => rfl) (Or.inl rfl)
theorem ck181 : jchkB jTab14 (jthrb jTT14 (jM_by jm181)) false jm181 jm181p jm181p (jM_bl jm181) = true := by decide +kernel
theorem mk181 : jMok jT jTs jNWl jSRl jm181 := jMok_of tok14 jcasts jarr tT14 jm181p jm181 false rfl (by decide +kernel) rfl (fun h => (by cases h)) ck181 (fun h => rfl) (Or.inl rfl)
theorem ck182 : jchkB jTab14 (jthrb jTT14 (jM_by jm182)) false jm182 jm182p jm182p (jM_bl jm182) = true := by decide +kernel
theorem mk182 : jMok jT jTs jNWl jSRl jm182 := jMok_of tok14 jcasts jarr tT14 jm182p jm182 false rfl (by decide +kernel) rfl (fun h => (by cases h)) ck182 (fun h => rfl) (Or.inl rfl)
theorem ck183 : jchkB jTab14 (jthrb jTT14 (jM_by jm183)) false jm183 jm183p jm183p (jM_bl jm183) = true := by decide +kernel
theorem mk183 : jMok jT jTs jNWl jSRl jm183 := jMok_of tok14 jcasts jarr tT14 jm183p jm183 false rfl (by decide +kernel) rfl (fun h => (by cases h)) ck183 (fun h => rfl) (Or.inl rfl)
theorem ck184 : jchkB jTab14 (jthrb jTT14 (jM_by jm184)) false jm184 jm184p jm184p (jM_bl jm184) = true := by decide +kernel
theorem mk184 : jMok jT jTs jNWl jSRl jm184 := jMok_of tok14 jcasts jarr tT14 jm184p jm184 false rfl (by decide +kernel) rfl (fun h => (by cases h)) ck184 (fun h => rfl) (Or.inl rfl)
theorem ck185 : jchkB jTab14 (jthrb jTT14 (jM_by jm185)) false jm185 jm185p jm185p (jM_bl jm185) = true := by decide +kernel
theorem mk185 : jMok jT jTs jNWl jSRl jm185 := jMok_of tok14 jcasts jarr tT14 jm185p jm185 false rfl (by decide +kernel) rfl (fun h => (by cases h)) ck185 (fun h => rfl) (Or.inl rfl)
theorem ck186 : jchkB jTab14 (jthrb jTT14 (jM_by jm186)) false jm186 jm186p jm186p (jM_bl jm186) = true := by decide +kernel
theorem mk186 : jMok jT jTs jNWl jSRl jm186 := jMok_of tok14 jcasts jarr tT14 jm186p jm186 false rfl (by decide +kernel) rfl (fun h => (by cases h)) ck186 (fun h => rfl) (Or.inl rfl)
theorem ck187 : jchkB jTab14 (jthrb jTT14 (jM_by jm187)) false jm187 jm187p jm187p (jM_bl jm187) = true := by decide +kernel
theorem mk187 : jMok jT jTs jNWl jSRl jm187 := jMok_of tok14 jcasts jarr tT14 jm187p jm187 false rfl (by decide +kernel) rfl (fun h => (by cases h)) ck187 (fun h => rfl) (Or.inl rfl)
theorem ck188 : jchkB jTab14 (jthrb jTT14 (jM_by jm188)) false jm188 jm188p jm188p (jM_bl jm188) = true := by decide +kernel
theorem mk188 : jMok jT jTs jNWl jSRl jm188 := jMok_of tok14 jcasts jarr tT14 jm188p jm188 false rfl (by decide +kernel) rfl (fun h => (by cases h)) ck188 (fun h => rfl) (Or.inl rfl)
theorem ck189 : jchkB jTab14 (jthrb jTT14 (jM_by jm189)) false jm189 jm189p jm189p (jM_bl jm189) = true := by decide +kernel
theorem mk189 : jMok jT jTs jNWl jSRl jm189 := jMok_of tok14 jcasts jarr tT14 jm189p jm189 false rfl (by decide +kernel) rfl (fun h => (by cases h)) ck189 (fun h => rfl) (Or.inl rfl)
