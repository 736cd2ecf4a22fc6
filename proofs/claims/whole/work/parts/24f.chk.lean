theorem ck190 : jchkB jTab14 (jthrb jTT14 (jM_by jm190)) false jm190 jm190p jm190p (jM_bl jm190) = true := by decide +kernel
theorem mk190 : jMok jT jTs jNWl jSRl jm190 := jMok_of tok14 jcasts jarr tT14 jm190p jm190 false rfl (by decide +kernel) rfl (fun h => (by cases h)) ck190 (fun h => rfl) (Or.inl rfl)
theorem ck191 : jchkB jTab14 (jthrb jTT14 (jM_by jm191)) false jm191 jm191p jm191p (jM_bl jm191) = true := by decide +kernel
theorem mk191 : jMok jT jTs jNWl jSRl jm191 := jMok_of tok14 jcasts jarr tT14 jm191p jm191 false rfl (by decide +kernel) rfl (fun h => (by cases h)) ck191 (fun h => rfl) (Or.inl rfl)
theorem ck192 : jchkB jTab14 (jthrb jTT14 (jM_by jm192)) false jm192 jm192p jm192p (jM_bl jm192) = true := by decide +kernel
theorem mk192 : jMok jT jTs jNWl jSRl jm192 := jMok_of tok14 jcasts jarr tT14 jm192p jm192 false rfl (by decide +kernel) rfl (fun h => (by cases h)) ck192 (fun h => rfl) (Or.inl rfl)
theorem ck193 : jchkB jTab14 (jthrb jTT14 (jM_by jm193)) false jm193 jm193p jm193p (jM_bl jm193) = true := by decide +kernel
theorem mk193 : jMok jT jTs jNWl jSRl jm193 := jMok_of tok14 jcasts jarr tT14 jm193p jm193 false rfl (by decide +kernel) rfl (fun h => (by cases h)) ck193 (fun h => rfl) (Or.inl rfl)
theorem ck194 : jchkB jTab14 (jthrb jTT14 (jM_by jm194)) false jm194 jm194p jm194p (jM_bl jm194) = true := by decide +kernel
theorem mk194 : jMok jT jTs jNWl jSRl jm194 := jMok_of tok14 jcasts jarr tT14 jm194p jm194 false rfl (by decide +kernel) rfl (fun h => (by cases h)) ck194 (fun h => rfl) (Or.inl rfl)
theorem ck195 : jchkB jTab14 (jthrb jTT14 (jM_by jm195)) false jm195 jm195p jm195p (jM_bl jm195) = true := by decide +kernel
theorem mk195 : jMok jT jTs jNWl jSRl jm195 := jMok_of tok14 jcasts jarr tT14 jm195p jm195 false rfl (by decide +kernel) rfl (fun h => (by cases h)) ck195 (fun h => rfl) (Or.inl rfl)
theorem ck196 : jchkB jTab14 (jthrb jTT14 (jM_by jm196)) false jm196 jm196p jm196p (jM_bl jm196) = true := by decide +kernel
theorem mk196 : jMok jT jTs jNWl jSRl jm196 := jMok_of tok14 jcasts jarr tT14 jm196p jm196 false rfl (by decide +kernel) rfl (fun h => (by cases h)) ck196 (fun h => rfl) (Or.inl rfl)
theorem ck197 : jchkB jTab14 (jthrb jTT14 (jM_by jm197)) false jm197 jm197p jm197p (jM_bl jm197) = true := by decide +kernel
theorem mk197 : jMok jT jTs jNWl jSRl jm197 := jMok_of tok14 jcasts jarr tT14 jm197p jm197 false rfl (by decide +kernel) rfl (fun h => (by cases h)) ck197 (fun h => rfl) (Or.inl rfl)
theorem ck198 : jchkB jTab14 (jthrb jTT14 (jM_by jm198)) false jm198 jm198p jm198p (jM_bl jm198) = true := by decide +kernel
theorem mk198 : jMok jT jTs jNWl jSRl jm198 := jMok_of tok14 jcasts jarr tT14 jm198p jm198 false rfl (by decide +kernel) rfl (fun h => (by cases h)) ck198 (fun h => rfl) (Or.inl rfl)
theorem ck199 : jchkB jTab14 (jthrb jTT14 (jM_by jm199)) false jm199 jm199p jm199p (jM_bl jm199) = true := by decide +kernel
theorem mk199 : jMok jT jTs jNWl jSRl jm199 := jMok_of tok14 jcasts jarr tT14 jm199p jm199 false rfl (by decide +kernel) rfl (fun h => (by cases h)) ck199 (fun h => rfl) (Or.inl rfl)
theorem ck200 : jchkB jTab14 (jthrb jTT14 (jM_by jm200)) false jm200 jm200p jm200p (jM_bl jm200) = true := by decide +kernel
theorem mk200 : jMok jT jTs jNWl jSRl jm200 := jMok_of tok14 jcasts jarr tT14 jm200p jm200 false rfl (by decide +kernel) rfl (fun h => (by cases h)) ck200 (fun h => rfl) (Or.inl rfl)
theorem ck201 : jchkB jTab14 (jthrb jTT14 (jM_by jm201)) false jm201 jm201p jm201p (jM_bl jm201) = true := by decide +kernel
theorem mk201 : jMok jT jTs jNWl jSRl jm201 := jMok_of tok14 jcasts jarr tT14 jm201p jm201 false rfl (by decide +kernel) rfl (fun h => (by cases h)) ck201 (fun h => rfl) (Or.inl rfl)
theorem ck202 : jchkB jTab14 (jthrb jTT14 (jM_by jm202)) false jm202 jm202p jm202p (jM_bl jm202) = true := by decide +kernel
theorem mk202 : jMok jT jTs jNWl jSRl jm202 := jMok_of tok14 jcasts jarr tT14 jm202p jm202 false rfl (by decide +kernel) rfl (fun h => (by cases h)) ck202 (fun h => rfl) (Or.inl rfl)
theorem ck203 : jchkB jTab14 (jthrb jTT14 (jM_by jm203)) false jm203 jm203p jm203p (jM_bl jm203) = true := by decide +kernel
theorem mk203 : jMok jT jTs jNWl jSRl jm203 := jMok_of tok14 jcasts jarr tT14 jm203p jm203 false rfl (by decide +kernel) rfl (fun h => (by cases h)) ck203 (fun h => rfl) (Or.inl rfl)
theorem ck204 : jchkB jTab14 (jthrb jTT14 (jM_by jm204)) false jm204 jm204p jm204p (jM_bl jm204) = true := by decide +kernel
theorem mk204 : jMok jT jTs jNWl jSRl jm204 := jMok_of tok14 jcasts jarr tT14 jm204p jm204 false rfl (by decide +kernel) rfl (fun h => (by cases h)) ck204 (fun h => rfl) (Or.inl rfl)
theorem ck205 : jchkB jTab14 (jthrb jTT14 (jM_by jm205)) false jm205 jm205p jm205p (jM_bl jm205) = true := by decide +kernel
theorem mk205 : jMok jT jTs jNWl jSRl jm205 := jMok_of tok14 jcasts jarr tT14 jm205p jm205 false rfl (by decide +kernel) rfl (fun h => (by cases h)) ck205 (fun h => rfl) (Or.inl rfl)
theorem ck206 : jchkB jTab14 (jthrb jTT14 (jM_by jm206)) false jm206 jm206p jm206p (jM_bl jm206) = true := by decide +kernel
theorem mk206 : jMok jT jTs jNWl jSRl jm206 := jMok_of tok14 jcasts jarr tT14 jm206p jm206 false rfl (by decide +kernel) rfl (fun h => (by cases h)) ck206 (fun h => rfl) (Or.inl rfl)
theorem ck207 : jchkB jTab14 (jthrb jTT14 (jM_by jm207)) false jm207 jm207p jm207p (jM_bl jm207) = true := by decide +kernel
theorem mk207 : jMok jT jTs jNWl jSRl jm207 := jMok_of tok14 jcasts jarr tT14 jm207p jm207 false rfl (by decide +kernel) rfl (fun h => (by cases h)) ck207 (fun h => rfl) (Or.inl rfl)
theorem ck208 : jchkB jTab14 (jthrb jTT14 (jM_by jm208)) false jm208 jm208p jm208p (jM_bl jm208) = true := by decide +kernel
theorem mk208 : jMok jT jTs jNWl jSRl jm208 := jMok_of tok14 jcasts jarr tT14 jm208p jm208 false rfl (by decide +kernel) rfl (fun h => (by cases h)) ck208 (fun h => rfl) (Or.inl rfl)
theorem ck209 : jchkB jTab14 (jthrb jTT14 (jM_by jm209)) false jm209 jm209p jm209p (jM_bl jm209) = true := by decide +kernel
theorem mk209 : jMok jT jTs jNWl jSRl jm209 := jMok_of tok14 jcasts jarr tT14 jm209p jm209 false rfl (by decide +kernel) rfl (fun h => (by cases h)) ck209 (fun h => rfl) (Or.inl rfl)
theorem ck210 : jchkB jTab14 (jthrb jTT14 (jM_by jm210)) false jm210 jm210p jm210p (jM_bl jm210) = true := by decide +kernel
theorem mk210 : jMok jT jTs jNWl jSRl jm210 := jMok_of tok14 jcasts jarr tT14 jm210p jm210 false rfl (by decide +kernel) rfl (fun h => (by cases h)) ck210 (fun h => rfl) (Or.inl rfl)
theorem ck211 : jchkB jTab14 (jthrb jTT14 (jM_by jm211)) false jm211 jm211p jm211p (jM_bl jm211) = true := by decide +kernel
theorem mk211 : jMok jT jTs jNWl jSRl jm211 := jMok_of tok14 jcasts jarr tT14 jm211p jm211 false rfl (by decide +kernel) rfl (fun h => (by cases h)) ck211 (fun h => rfl) (Or.inl rfl)
theorem ck212 : jchkB jTab14 (jthrb jTT14 (jM_by jm212)) false jm212 jm212p jm212p (jM_bl jm212) = true := by decide +kernel
theorem mk212 : jMok jT jTs jNWl jSRl jm212 := jMok_of tok14 jcasts jarr tT14 jm212p jm212 false rfl (by decide +kernel) rfl (fun h => (by cases h)) ck212 (fun h => rfl) (Or.inl rfl)
theorem ck213 : jchkB jTab14 (jthrb jTT14 (jM_by jm213)) false jm213 jm213p jm213p (jM_bl jm213) = true := by decide +kernel
theorem mk213 : jMok jT jTs jNWl jSRl jm213 := jMok_of tok14 jcasts jarr tT14 jm213p jm213 false rfl (by decide +kernel) rfl (fun h => (by cases h)) ck213 (fun h => rfl) (Or.inl rfl)
theorem ck214 : jchkB jTab14 (jthrb jTT14 (jM_by jm214)) false jm214 jm214p jm214p (jM_bl jm214) = true := by decide +kernel
theorem mk214 : jMok jT jTs jNWl jSRl jm214 := jMok_of tok14 jcasts jarr tT14 jm214p jm214 false rfl (by decide +kernel) rfl (fun h => (by cases h)) ck214 (fun h => rfl) (Or.inl rfl)
theorem ck215 : jchkB jTab14 (jthrb jTT14 (jM_by jm215)) false jm215 jm215p jm215p (jM_bl jm215) = true := by decide +kernel
theorem mk215 : jMok jT jTs jNWl jSRl jm215 := jMok_of tok14 jcasts jarr tT14 jm215p jm215 false rfl (by decide +kernel) rfl (fun h => (by cases h)) ck215 (fun h => rfl) (Or.inl rfl)
theorem ck216 : jchkB jTab14 (jthrb jTT14 (jM_by jm216)) false jm216 jm216p jm216p (jM_bl jm216) = true := by decide +kernel
theorem mk216 : jMok jT jTs jNWl jSRl jm216 := jMok_of tok14 jcasts jarr tT14 jm216p jm216 false rfl (by decide +kernel) rfl (fun h => (by cases h)) ck216 (fun h => rfl) (Or.inl rfl)
theorem ck217 : jchkB jTab14 (jthrb jTT14 (jM_by jm217)) false jm217 jm217p jm217p (jM_bl jm217) = true := by decide +kernel
theorem mk217 : jMok jT jTs jNWl jSRl jm217 := jMok_of tok14 jcasts jarr tT14 jm217p jm217 false rfl (by decide +kernel) rfl (fun h => (by cases h)) ck217 (fun h => rfl) (Or.inl rfl)
theorem ck218 : jchkB jTab14 (jthrb jTT14 (jM_by jm218)) false jm218 jm218p jm218p (jM_bl jm218) = true := by decide +kernel
theorem mk218 : jMok jT jTs jNWl jSRl jm218 := jMok_of tok14 jcasts jarr tT14 jm218p jm218 false rfl (by decide +kernel) rfl (fun h => (by cases h)) ck218 (fun h => rfl) (Or.inl rfl)
theorem ck219 : jchkB jTab14 (jthrb jTT14 (jM_by jm219)) false jm219 jm219p jm219p (jM_bl jm219) = true := by decide +kernel
theorem mk219 : jMok jT jTs jNWl jSRl jm219 := jMok_of tok14 jcasts jarr tT14 jm219p jm219 false rfl (by decide +kernel) rfl (fun h => (by cases h)) ck219 (fun h => rfl) (Or.inl rfl)
theorem ck220 : jchkB jTab14 (jthrb jTT14 (jM_by jm220)) false jm220 jm220p jm220p (jM_bl jm220) = true := by decide +kernel
theorem mk220 : jMok jT jTs jNWl jSRl jm220 := jMok_of tok14 jcasts jarr tT14 jm220p jm220 false rfl (by decide +kernel) rfl (fun h => (by cases h)) ck220 (fun h => rfl) (Or.inl rfl)
theorem ck221 : jchkB jTab14 (jthrb jTT14 (jM_by jm221)) false jm221 jm221p jm221p (jM_bl jm221) = true := by decide +kernel
theorem mk221 : jMok jT jTs jNWl jSRl jm221 := jMok_of tok14 jcasts jarr tT14 jm221p jm221 false rfl (by decide +kernel) rfl (fun h => (by cases h)) ck221 (fun h => rfl) (Or.inl rfl)
