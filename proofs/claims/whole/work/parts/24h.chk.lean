theorem ck252 : jchkB jTab15 (jthrb jTT15 (jM_by jm252)) false jm252 jm252p jm252p (jM_bl jm252) = true := by decide +kernel
theorem mk252 : jMok jT jTs jNWl jSRl jm252 := jMok_of tok15 jcasts jarr tT15 jm252p jm252 false rfl (by decide +kernel) rfl (fun h => (by cases h)) ck252 (fun h => (by cases h)) (Or.inl rfl)
theorem ck253 : jchkB jTab15 (jthrb jTT15 (jM_by jm253)) false jm253 jm253p jm253p (jM_bl jm253) = true := by decide +kernel
theorem mk253 : jMok jT jTs jNWl jSRl jm253 := jMok_of tok15 jcasts jarr tT15 jm253p jm253 false rfl (by decide +kernel) rfl (fun h => (by cases h)) ck253 (fun h => (by cases h)) (Or.inl rfl)
theorem ck254 : jchkB jTab15 (jthrb jTT15 (jM_by jm254)) false jm254 jm254p jm254p (jM_bl jm254) = true := by decide +kernel
theorem mk254 : jMok jT jTs jNWl jSRl jm254 := jMok_of tok15 jcasts jarr tT15 jm254p jm254 false rfl (by decide +kernel) rfl (fun h => (by cases h)) ck254 (fun h => (by cases h)) (Or.inl rfl)
theorem ck255 : jchkB jTab15 (jthrb jTT15 (jM_by jm255)) false jm255 jm255p jm255p (jM_bl jm255) = true := by decide +kernel
theorem mk255 : jMok jT jTs jNWl jSRl jm255 := jMok_of tok15 jcasts jarr tT15 jm255p jm255 false rfl (by decide +kernel) rfl (fun h => (by cases h)) ck255 (fun h => (by cases h)) (Or.inl rfl)
theorem ck256 : jchkB jTab15 (jthrb jTT15 (jM_by jm256)) false jm256 jm256p jm256p (jM_bl jm256) = true := by decide +kernel
theorem mk256 : jMok jT jTs jNWl jSRl jm256 := jMok_of tok15 jcasts jarr tT15 jm256p jm256 false rfl (by decide +kernel) rfl (fun h => (by cases h)) ck256 (fun h => (by cases h)) (Or.inl rfl)
theorem ck257 : jchkB jTab15 (jthrb jTT15 (jM_by jm257)) false jm257 jm257p jm257p (jM_bl jm257) = true := by decide +kernel
theorem mk257 : jMok jT jTs jNWl jSRl jm257 := jMok_of tok15 jcasts jarr tT15 jm257p jm257 false rfl (by decide +kernel) rfl (fun h => (by cases h)) ck257 (fun h => (by cases h)) (Or.inl rfl)
theorem ck258 : jchkB jTab15 (jthrb jTT15 (jM_by jm258)) false jm258 jm258p jm258p (jM_bl jm258) = true := by decide +kernel
theorem mk258 : jMok jT jTs jNWl jSRl jm258 := jMok_of tok15 jcasts jarr tT15 jm258p jm258 false rfl (by decide +kernel) rfl (fun h => (by cases h)) ck258 (fun h => (by cases h)) (Or.inl rfl)
theorem ck259 : jchkB jTab15 (jthrb jTT15 (jM_by jm259)) false jm259 jm259p jm259p (jM_bl jm259) = true := by decide +kernel
theorem mk259 : jMok jT jTs jNWl jSRl jm259 := jMok_of tok15 jcasts jarr tT15 jm259p jm259 false rfl (by decide +kernel) rfl (fun h => (by cases h)) ck259 (fun h => (by cases h)) (Or.inl rfl)
theorem ck260 : jchkB jTab15 (jthrb jTT15 (jM_by jm260)) false jm260 jm260p jm260p (jM_bl jm260) = true := by decide +kernel
theorem mk260 : jMok jT jTs jNWl jSRl jm260 := jMok_of tok15 jcasts jarr tT15 jm260p jm260 false rfl (by decide +kernel) rfl (fun h => (by cases h)) ck260 (fun h => (by cases h)) (Or.inl rfl)
theorem ck261 : jchkB jTab15 (jthrb jTT15 (jM_by jm261)) false jm261 jm261p jm261p (jM_bl jm261) = true := by decide +kernel
theorem mk261 : jMok jT jTs jNWl jSRl jm261 := jMok_of tok15 jcasts jarr tT15 jm261p jm261 false rfl (by decide +kernel) rfl (fun h => (by cases h)) ck261 (fun h => (by cases h)) (Or.inl rfl)
theorem ck262 : jchkB jTab15 (jthrb jTT15 (jM_by jm262)) false jm262 jm262p jm262p (jM_bl jm262) = true := by decide +kernel
theorem mk262 : jMok jT jTs jNWl jSRl jm262 := jMok_of tok15 jcasts jarr tT15 jm262p jm262 false rfl (by decide +kernel) rfl (fun h => (by cases h)) ck262 (fun h => (by cases h)) (Or.inl rfl)
theorem ck263 : jchkB jTab15 (jthrb jTT15 (jM_by jm263)) false jm263 jm263p jm263p (jM_bl jm263) = true := by decide +kernel
theorem mk263 : jMok jT jTs jNWl jSRl jm263 := jMok_of tok15 jcasts jarr tT15 jm263p jm263 false rfl (by decide +kernel) rfl (fun h => (by cases h)) ck263 (fun h => (by cases h)) (Or.inl rfl)
theorem ck264 : jchkB jTab15 (jthrb jTT15 (jM_by jm264)) false jm264 jm264p jm264p (jM_bl jm264) = true := by decide +kernel
theorem mk264 : jMok jT jTs jNWl jSRl jm264 := jMok_of tok15 jcasts jarr tT15 jm264p jm264 false rfl (by decide +kernel) rfl (fun h => (by cases h)) ck264 (fun h => (by cases h)) (Or.inl rfl)
theorem ck265 : jchkB jTab15 (jthrb jTT15 (jM_by jm265)) false jm265 jm265p jm265p (jM_bl jm265) = true := by decide +kernel
theorem mk265 : jMok jT jTs jNWl jSRl jm265 := jMok_of tok15 jcasts jarr tT15 jm265p jm265 false rfl (by decide +kernel) rfl (fun h => (by cases h)) ck265 (fun h => (by cases h)) (Or.inl rfl)
theorem ck266 : jchkB jTab15 (jthrb jTT15 (jM_by jm266)) false jm266 jm266p jm266p (jM_bl jm266) = true := by decide +kernel
theorem mk266 : jMok jT jTs jNWl jSRl jm266 := jMok_of tok15 jcasts jarr tT15 jm266p jm266 false rfl (by decide +kernel) rfl (fun h => (by cases h)) ck266 (fun h => (by cases h)) (Or.inl rfl)
