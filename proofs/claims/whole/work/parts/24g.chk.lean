theorem ck222 : jchkB jTab14 (jthrb jTT14 (jM_by jm222)) false jm222 jm222p jm222p (jM_bl jm222) = true := by decide +kernel
theorem mk222 : jMok jT jTs jNWl jSRl jm222 := jMok_of tok14 jcasts jarr tT14 jm222p jm222 false rfl (by decide +kernel) rfl (fun h => (by cases h)) ck222 (fun h => rfl) (Or.inl rfl)
theorem ck223 : jchkB jTab14 (jthrb jTT14 (jM_by jm223)) false jm223 jm223p jm223p (jM_bl jm223) = true := by decide +kernel
theorem mk223 : jMok jT jTs jNWl jSRl jm223 := jMok_of tok14 jcasts jarr tT14 jm223p jm223 false rfl (by decide +kernel) rfl (fun h => (by cases h)) ck223 (fun h => rfl) (Or.inl rfl)
theorem ck224 : jchkB jTab14 (jthrb jTT14 (jM_by jm224)) false jm224 jm224p jm224p (jM_bl jm224) = true := by decide +kernel
theorem mk224 : jMok jT jTs jNWl jSRl jm224 := jMok_of tok14 jcasts jarr tT14 jm224p jm224 false rfl (by decide +kernel) rfl (fun h => (by cases h)) ck224 (fun h => rfl) (Or.inl rfl)
theorem ck225 : jchkB jTab14 (jthrb jTT14 (jM_by jm225)) false jm225 jm225p jm225p (jM_bl jm225) = true := by decide +kernel
theorem mk225 : jMok jT jTs jNWl jSRl jm225 := jMok_of tok14 jcasts jarr tT14 jm225p jm225 false rfl (by decide +kernel) rfl (fun h => (by cases h)) ck225 (fun h => rfl) (Or.inl rfl)
theorem ck226 : jchkB jTab14 (jthrb jTT14 (jM_by jm226)) false jm226 jm226p jm226p (jM_bl jm226) = true := by decide +kernel
theorem mk226 : jMok jT jTs jNWl jSRl jm226 := jMok_of tok14 jcasts jarr tT14 jm226p jm226 false rfl (by decide +kernel) rfl (fun h => (by cases h)) ck226 (fun h => rfl) (Or.inl rfl)
theorem ck227 : jchkB jTab14 (jthrb jTT14 (jM_by jm227)) false jm227 jm227p jm227p (jM_bl jm227) = true := by decide +kernel
theorem mk227 : jMok jT jTs jNWl jSRl jm227 := jMok_of tok14 jcasts jarr tT14 jm227p jm227 false rfl (by decide +kernel) rfl (fun h => (by cases h)) ck227 (fun h => rfl) (Or.inl rfl)
theorem ck228 : jchkB jTab14 (jthrb jTT14 (jM_by jm228)) false jm228 jm228p jm228p (jM_bl jm228) = true := by decide +kernel
theorem mk228 : jMok jT jTs jNWl jSRl jm228 := jMok_of tok14 jcasts jarr tT14 jm228p jm228 false rfl (by decide +kernel) rfl (fun h => (by cases h)) ck228 (fun h => rfl) (Or.inl rfl)
theorem ck229 : jchkB jTab14 (jthrb jTT14 (jM_by jm229)) false jm229 jm229p jm229p (jM_bl jm229) = true := by decide +kernel
theorem mk229 : jMok jT jTs jNWl jSRl jm229 := jMok_of tok14 jcasts jarr tT14 jm229p jm229 false rfl (by decide +kernel) rfl (fun h => (by cases h)) ck229 (fun h => rfl) (Or.inl rfl)
theorem ck230 : jchkB jTab14 (jthrb jTT14 (jM_by jm230)) false jm230 jm230p jm230p (jM_bl jm230) = true := by decide +kernel
theorem mk230 : jMok jT jTs jNWl jSRl jm230 := jMok_of tok14 jcasts jarr tT14 jm230p jm230 false rfl (by decide +kernel) rfl (fun h => (by cases h)) ck230 (fun h => rfl) (Or.inl rfl)
theorem ck231 : jchkB jTab14 (jthrb jTT14 (jM_by jm231)) false jm231 jm231p jm231p (jM_bl jm231) = true := by decide +kernel
theorem mk231 : jMok jT jTs jNWl jSRl jm231 := jMok_of tok14 jcasts jarr tT14 jm231p jm231 false rfl (by decide +kernel) rfl (fun h => (by cases h)) ck231 (fun h => rfl) (Or.inl rfl)
theorem ck232 : jchkB jTab14 (jthrb jTT14 (jM_by jm232)) false jm232 jm232p jm232p (jM_bl jm232) = true := by decide +kernel
theorem mk232 : jMok jT jTs jNWl jSRl jm232 := jMok_of tok14 jcasts jarr tT14 jm232p jm232 false rfl (by decide +kernel) rfl (fun h => (by cases h)) ck232 (fun h => rfl) (Or.inl rfl)
theorem ck233 : jchkB jTab14 (jthrb jTT14 (jM_by jm233)) false jm233 jm233p jm233p (jM_bl jm233) = true := by decide +kernel
theorem mk233 : jMok jT jTs jNWl jSRl jm233 := jMok_of tok14 jcasts jarr tT14 jm233p jm233 false rfl (by decide +kernel) rfl (fun h => (by cases h)) ck233 (fun h => rfl) (Or.inl rfl)
theorem ck234 : jchkB jTab14 (jthrb jTT14 (jM_by jm234)) false jm234 jm234p jm234p (jM_bl jm234) = true := by decide +kernel
theorem mk234 : jMok jT jTs jNWl jSRl jm234 := jMok_of tok14 jcasts jarr tT14 jm234p jm234 false rfl (by decide +kernel) rfl (fun h => (by cases h)) ck234 (fun h => rfl) (Or.inl rfl)
theorem ck235 : jchkB jTab14 (jthrb jTT14 (jM_by jm235)) false jm235 jm235p jm235p (jM_bl jm235) = true := by decide +kernel
theorem mk235 : jMok jT jTs jNWl jSRl jm235 := jMok_of tok14 jcasts jarr tT14 jm235p jm235 false rfl (by decide +kernel) rfl (fun h => (by cases h)) ck235 (fun h => rfl) (Or.inl rfl)
theorem ck236 : jchkB jTab14 (jthrb jTT14 (jM_by jm236)) false jm236 jm236p jm236p (jM_bl jm236) = true := by decide +kernel
theorem mk236 : jMok jT jTs jNWl jSRl jm236 := jMok_of tok14 jcasts jarr tT14 jm236p jm236 false rfl (by decide +kernel) rfl (fun h => (by cases h)) ck236 (fun h => rfl) (Or.inl rfl)
theorem ck237 : jchkB jTab14 (jthrb jTT14 (jM_by jm237)) false jm237 jm237p jm237p (jM_bl jm237) = true := by decide +kernel
theorem mk237 : jMok jT jTs jNWl jSRl jm237 := jMok_of tok14 jcasts jarr tT14 jm237p jm237 false rfl (by decide +kernel) rfl (fun h => (by cases h)) ck237 (fun h => rfl) (Or.inl rfl)
theorem ck238 : jchkB jTab14 (jthrb jTT14 (jM_by jm238)) false jm238 jm238p jm238p (jM_bl jm238) = true := by decide +kernel
theorem mk238 : jMok jT jTs jNWl jSRl jm238 := jMok_of tok14 jcasts jarr tT14 jm238p jm238 false rfl (by decide +kernel) rfl (fun h => (by cases h)) ck238 (fun h => rfl) (Or.inl rfl)
theorem ck239 : jchkB jTab14 (jthrb jTT14 (jM_by jm239)) false jm239 jm239p jm239p (jM_bl jm239) = true := by decide +kernel
theorem mk239 : jMok jT jTs jNWl jSRl jm239 := jMok_of tok14 jcasts jarr tT14 jm239p jm239 false rfl (by decide +kernel) rfl (fun h => (by cases h)) ck239 (fun h => rfl) (Or.inl rfl)
theorem ck240 : jchkB jTab14 (jthrb jTT14 (jM_by jm240)) false jm240 jm240p jm240p (jM_bl jm240) = true := by decide +kernel
theorem mk240 : jMok jT jTs jNWl jSRl jm240 := jMok_of tok14 jcasts jarr tT14 jm240p jm240 false rfl (by decide +kernel) rfl (fun h => (by cases h)) ck240 (fun h => rfl) (Or.inl rfl)
theorem ck241 : jchkB jTab14 (jthrb jTT14 (jM_by jm241)) false jm241 jm241p jm241p (jM_bl jm241) = true := by decide +kernel
theorem mk241 : jMok jT jTs jNWl jSRl jm241 := jMok_of tok14 jcasts jarr tT14 jm241p jm241 false rfl (by decide +kernel) rfl (fun h => (by cases h)) ck241 (fun h => rfl) (Or.inl rfl)
theorem ck242 : jchkB jTab15 (jthrb jTT15 (jM_by jm242)) false jm242 jm242p jm242p (jM_bl jm242) = true := by decide +kernel
theorem mk242 : jMok jT jTs jNWl jSRl jm242 := jMok_of tok15 jcasts jarr tT15 jm242p jm242 false rfl (by decide +kernel) rfl (fun h => (by cases h)) ck242 (fun h => (by cases h)) (Or.inl rfl)
theorem ck243 : jchkB jTab15 (jthrb jTT15 (jM_by jm243)) false jm243 jm243p jm243p (jM_bl jm243) = true := by decide +kernel
theorem mk243 : jMok jT jTs jNWl jSRl jm243 := jMok_of tok15 jcasts jarr tT15 jm243p jm243 false rfl (by decide +kernel) rfl (fun h => (by cases h)) ck243 (fun h => (by cases h)) (Or.inl rfl)
theorem ck244 : jchkB jTab15 (jthrb jTT15 (jM_by jm244)) false jm244 jm244p jm244p (jM_bl jm244) = true := by decide +kernel
theorem mk244 : jMok jT jTs jNWl jSRl jm244 := jMok_of tok15 jcasts jarr tT15 jm244p jm244 false rfl (by decide +kernel) rfl (fun h => (by cases h)) ck244 (fun h => (by cases h)) (Or.inl rfl)
theorem ck245 : jchkB jTab15 (jthrb jTT15 (jM_by jm245)) false jm245 jm245p jm245p (jM_bl jm245) = true := by decide +kernel
theorem mk245 : jMok jT jTs jNWl jSRl jm245 := jMok_of tok15 jcasts jarr tT15 jm245p jm245 false rfl (by decide +kernel) rfl (fun h => (by cases h)) ck245 (fun h => (by cases h)) (Or.inl rfl)
theorem ck246 : jchkB jTab15 (jthrb jTT15 (jM_by jm246)) false jm246 jm246p jm246p (jM_bl jm246) = true := by decide +kernel
theorem mk246 : jMok jT jTs jNWl jSRl jm246 := jMok_of tok15 jcasts jarr tT15 jm246p jm246 false rfl (by decide +kernel) rfl (fun h => (by cases h)) ck246 (fun h => (by cases h)) (Or.inl rfl)
theorem ck247 : jchkB jTab15 (jthrb jTT15 (jM_by jm247)) false jm247 jm247p jm247p (jM_bl jm247) = true := by decide +kernel
theorem mk247 : jMok jT jTs jNWl jSRl jm247 := jMok_of tok15 jcasts jarr tT15 jm247p jm247 false rfl (by decide +kernel) rfl (fun h => (by cases h)) ck247 (fun h => (by cases h)) (Or.inl rfl)
theorem ck248 : jchkB jTab15 (jthrb jTT15 (jM_by jm248)) false jm248 jm248p jm248p (jM_bl jm248) = true := by decide +kernel
theorem mk248 : jMok jT jTs jNWl jSRl jm248 := jMok_of tok15 jcasts jarr tT15 jm248p jm248 false rfl (by decide +kernel) rfl (fun h => (by cases h)) ck248 (fun h => (by cases h)) (Or.inl rfl)
theorem ck249 : jchkB jTab15 (jthrb jTT15 (jM_by jm249)) false jm249 jm249p jm249p (jM_bl jm249) = true := by decide +kernel
theorem mk249 : jMok jT jTs jNWl jSRl jm249 := jMok_of tok15 jcasts jarr tT15 jm249p jm249 false rfl (by decide +kernel) rfl (fun h => (by cases h)) ck249 (fun h => (by cases h)) (Or.inl rfl)
theorem ck250 : jchkB jTab15 (jthrb jTT15 (jM_by jm250)) false jm250 jm250p jm250p (jM_bl jm250) = true := by decide +kernel
theorem mk250 : jMok jT jTs jNWl jSRl jm250 := jMok_of tok15 jcasts jarr tT15 jm250p jm250 false rfl (by decide +kernel) rfl (fun h => (by cases h)) ck250 (fun h => (by cases h)) (Or.inl rfl)
theorem ck251 : jchkB jTab15 (jthrb jTT15 (jM_by jm251)) false jm251 jm251p jm251p (jM_bl jm251) = true := by decide +kernel
theorem mk251 : jMok jT jTs jNWl jSRl jm251 := jMok_of tok15 jcasts jarr tT15 jm251p jm251 false rfl (by decide +kernel) rfl (fun h => (by cases h)) ck251 (fun h => (by cases h)) (Or.inl rfl)
