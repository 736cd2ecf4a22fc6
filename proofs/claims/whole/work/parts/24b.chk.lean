theorem ck41 : jchkB jTab6 (jthrb jTT6 (jM_by jm41)) false jm41 jm41p jm41p (jM_bl jm41) = true := by decide +kernel
theorem mk41 : jMok jT jTs jNWl jSRl jm41 := jMok_of tok6 jcasts jarr tT6 jm41p jm41 false rfl (by decide +kernel) rfl (fun h => (by cases h)) ck41 (fun h => rfl) (Or.inl rfl)
theorem ck42 : jchkB jTab6 (jthrb jTT6 (jM_by jm42)) false jm42 jm42p jm42p (jM_bl jm42) = true := by decide +kernel
theorem mk42 : jMok jT jTs jNWl jSRl jm42 := jMok_of tok6 jcasts jarr tT6 jm42p jm42 false rfl (by decide +kernel) rfl (fun h => (by cases h)) ck42 (fun h => rfl) (Or.inl rfl)
theorem ck43 : jchkB jTab6 (jthrb jTT6 (jM_by jm43)) false jm43 jm43p jm43p (jM_bl jm43) = true := by decide +kernel
theorem mk43 : jMok jT jTs jNWl jSRl jm43 := jMok_of tok6 jcasts jarr tT6 jm43p jm43 false rfl (by decide +kernel) rfl (fun h => (by cases h)) ck43 (fun h => rfl) (Or.inl rfl)
theorem ck44 : jchkB jTab6 (jthrb jTT6 (jM_by jm44)) false jm44 jm44p jm44p (jM_bl jm44) = true := by decide +kernel
theorem mk44 : jMok jT jTs jNWl jSRl jm44 := jMok_of tok6 jcasts jarr tT6 jm44p jm44 false rfl (by decide +kernel) rfl (fun h => (by cases h)) ck44 (fun h => rfl) (Or.inl rfl)
theorem ck45 : jchkB jTab6 (jthrb jTT6 (jM_by jm45)) false jm45 jm45p jm45p (jM_bl jm45) = true := by decide +kernel
theorem mk45 : jMok jT jTs jNWl jSRl jm45 := jMok_of tok6 jcasts jarr tT6 jm45p jm45 false rfl (by decide +kernel) rfl (fun h => (by cases h)) ck45 (fun h => rfl) (Or.inl rfl)
theorem ck46 : jchkB jTab6 (jthrb jTT6 (jM_by jm46)) false jm46 jm46p jm46p (jM_bl jm46) = true := by decide +kernel
theorem mk46 : jMok jT jTs jNWl jSRl jm46 := jMok_of tok6 jcasts jarr tT6 jm46p jm46 false rfl (by decide +kernel) rfl (fun h => (by cases h)) ck46 (fun h => rfl) (Or.inl rfl)
theorem ck47 : jchkB jTab6 (jthrb jTT6 (jM_by jm47)) false jm47 jm47p jm47p (jM_bl jm47) = true := by decide +kernel
theorem mk47 : jMok jT jTs jNWl jSRl jm47 := jMok_of tok6 jcasts jarr tT6 jm47p jm47 false rfl (by decide +kernel) rfl (fun h => (by cases h)) ck47 (fun h => rfl) (Or.inl rfl)
theorem ck48 : jchkB jTab6 (jthrb jTT6 (jM_by jm48)) false jm48 jm48p jm48p (jM_bl jm48) = true := by decide +kernel
theorem mk48 : jMok jT jTs jNWl jSRl jm48 := jMok_of tok6 jcasts jarr tT6 jm48p jm48 false rfl (by decide +kernel) rfl (fun h => (by cases h)) ck48 (fun h => rfl) (Or.inl rfl)
theorem ck49 : jchkB jTab6 (jthrb jTT6 (jM_by jm49)) false jm49 jm49p jm49p (jM_bl jm49) = true := by decide +kernel
theorem mk49 : jMok jT jTs jNWl jSRl jm49 := jMok_of tok6 jcasts jarr tT6 jm49p jm49 false rfl (by decide +kernel) rfl (fun h => (by cases h)) ck49 (fun h => rfl) (Or.inl rfl)
theorem ck50 : jchkB jTab6 (jthrb jTT6 (jM_by jm50)) false jm50 jm50p jm50p (jM_bl jm50) = true := by decide +kernel
theorem mk50 : jMok jT jTs jNWl jSRl jm50 := jMok_of tok6 jcasts jarr tT6 jm50p jm50 false rfl (by decide +kernel) rfl (fun h => (by cases h)) ck50 (fun h => rfl) (Or.inl rfl)
theorem ck51 : jchkB jTab6 (jthrb jTT6 (jM_by jm51)) false jm51 jm51p jm51p (jM_bl jm51) = true := by decide +kernel
theorem mk51 : jMok jT jTs jNWl jSRl jm51 := jMok_of tok6 jcasts jarr tT6 jm51p jm51 false rfl (by decide +kernel) rfl (fun h => (by cases h)) ck51 (fun h => rfl) (Or.inl rfl)
theorem ck52 : jchkB jTab6 (jthrb jTT6 (jM_by jm52)) false jm52 jm52p jm52p (jM_bl jm52) = true := by decide +kernel
theorem mk52 : jMok jT jTs jNWl jSRl jm52 := jMok_of tok6 jcasts jarr tT6 jm52p jm52 false rfl (by decide +kernel) rfl (fun h => (by cases h)) ck52 (fun h => rfl) (Or.inl rfl)
theorem ck53 : jchkB jTab6 (jthrb jTT6 (jM_by jm53)) false jm53 jm53p jm53p (jM_bl jm53) = true := by decide +kernel
theorem mk53 : jMok jT jTs jNWl jSRl jm53 := jMok_of tok6 jcasts jarr tT6 jm53p jm53 false rfl (by decide +kernel) rfl (fun h => (by cases h)) ck53 (fun h => rfl) (Or.inl rfl)
theorem ck54 : jchkB jTab7 (jthrb jTT7 (jM_by jm54)) true jm54 jm54p jm54p (jM_bl jm54) = true := by decide +kernel
theorem mk54 : jMok jT jTs jNWl jSRl jm54 := jMok_of tok7 jcasts jarr tT7 jm54p jm54 true rfl (by decide +kernel) rfl (fun h => rfl) ck54 (fun h => rfl) (Or.inl rfl)
theorem ck55 : jchkB jTab7 (jthrb jTT7 (jM_by jm55)) false jm55 jm55p jm55p (jM_bl jm55) = true := by decide +kernel
theorem mk55 : jMok jT jTs jNWl jSRl jm55 := jMok_of tok7 jcasts jarr tT7 jm55p jm55 false rfl (by decide +kernel) rfl (fun h => (by cases h)) ck55 (fun h => rfl) (Or.inl rfl)
theorem ck56 : jchkB jTab7 (jthrb jTT7 (jM_by jm56)) false jm56 jm56p jm56p (jM_bl jm56) = true := by decide +kernel
theorem mk56 : jMok jT jTs jNWl jSRl jm56 := jMok_of tok7 jcasts jarr tT7 jm56p jm56 false rfl (by decide +kernel) rfl (fun h => (by cases h)) ck56 (fun h => rfl) (Or.inl rfl)
theorem ck57 : jchkB jTab7 (jthrb jTT7 (jM_by jm57)) false jm57 jm57p jm57p (jM_bl jm57) = true := by decide +kernel
theorem mk57 : jMok jT jTs jNWl jSRl jm57 := jMok_of tok7 jcasts jarr tT7 jm57p jm57 false rfl (by decide +kernel) rfl (fun h => (by cases h)) ck57 (fun h => rfl) (Or.inl rfl)
theorem ck58 : jchkB jTab7 (jthrb jTT7 (jM_by jm58)) false jm58 jm58p jm58p (jM_bl jm58) = true := by decide +kernel
theorem mk58 : jMok jT jTs jNWl jSRl jm58 := jMok_of tok7 jcasts jarr tT7 jm58p jm58 false rfl (by decide +kernel) rfl (fun h => (by cases h)) ck58 (fun h => rfl) (Or.inl rfl)
theorem ck59 : jchkB jTab7 (jthrb jTT7 (jM_by jm59)) false jm59 jm59p jm59p (jM_bl jm59) = true := by decide +kernel
theorem mk59 : jMok jT jTs jNWl jSRl jm59 := jMok_of tok7 jcasts jarr tT7 jm59p jm59 false rfl (by decide +kernel) rfl (fun h => (by cases h)) ck59 (fun h => rfl) (Or.inl rfl)
theorem ck60 : jchkB jTab7 (jthrb jTT7 (jM_by jm60)) false jm60 jm60p jm60p (jM_bl jm60) = true := by decide +kernel
theorem mk60 : jMok jT jTs jNWl jSRl jm60 := jMok_of tok7 jcasts jarr tT7 jm60p jm60 false rfl (by decide +kernel) rfl (fun h => (by cases h)) ck60 (fun h => rfl) (Or.inl rfl)
theorem ck61 : jchkB jTab8 (jthrb jTT8 (jM_by jm61)) true jm61 jm61p jm61p (jM_bl jm61) = true := by decide +kernel
theorem mk61 : jMok jT jTs jNWl jSRl jm61 := jMok_of tok8 jcasts jarr tT8 jm61p jm61 true rfl (by decide +kernel) rfl (fun h => rfl) ck61 (fun h => rfl) (Or.inl rfl)
theorem ck62 : jchkB jTab8 (jthrb jTT8 (jM_by jm62)) false jm62 jm62p jm62p (jM_bl jm62) = true := by decide +kernel
theorem mk62 : jMok jT jTs jNWl jSRl jm62 := jMok_of tok8 jcasts jarr tT8 jm62p jm62 false rfl (by decide +kernel) rfl (fun h => (by cases h)) ck62 (fun h => rfl) (Or.inl rfl)
theorem ck63 : jchkB jTab8 (jthrb jTT8 (jM_by jm63)) false jm63 jm63p jm63p (jM_bl jm63) = true := by decide +kernel
theorem mk63 : jMok jT jTs jNWl jSRl jm63 := jMok_of tok8 jcasts jarr tT8 jm63p jm63 false rfl (by decide +kernel) rfl (fun h => (by cases h)) ck63 (fun h => rfl) (Or.inl rfl)
theorem ck64 : jchkB jTab8 (jthrb jTT8 (jM_by jm64)) false jm64 jm64p jm64p (jM_bl jm64) = true := by decide +kernel
theorem mk64 : jMok jT jTs jNWl jSRl jm64 := jMok_of tok8 jcasts jarr tT8 jm64p jm64 false rfl (by decide +kernel) rfl (fun h => (by cases h)) ck64 (fun h => rfl) (Or.inl rfl)
theorem ck65 : jchkB jTab9 (jthrb jTT9 (jM_by jm65)) true jm65 jm65p jm65p (jM_bl jm65) = true := by decide +kernel
theorem mk65 : jMok jT jTs jNWl jSRl jm65 := jMok_of tok9 jcasts jarr tT9 jm65p jm65 true rfl (by decide +kernel) rfl (fun h => rfl) ck65 (fun h => rfl) (Or.inl rfl)
theorem ck66 : jchkB jTab9 (jthrb jTT9 (jM_by jm66)) false jm66 jm66p jm66p (jM_bl jm66) = true := by decide +kernel
theorem mk66 : jMok jT jTs jNWl jSRl jm66 := jMok_of tok9 jcasts jarr tT9 jm66p jm66 false rfl (by decide +kernel) rfl (fun h => (by cases h)) ck66 (fun h => rfl) (Or.inl rfl)
theorem ck67 : jchkB jTab9 (jthrb jTT9 (jM_by jm67)) false jm67 jm67p jm67p (jM_bl jm67) = true := by decide +kernel
theorem mk67 : jMok jT jTs jNWl jSRl jm67 := jMok_of tok9 jcasts jarr tT9 jm67p jm67 false rfl (by decide +kernel) rfl (fun h => (by cases h)) ck67 (fun h => rfl) (Or.inl rfl)
theorem ck68 : jchkB jTab9 (jthrb jTT9 (jM_by jm68)) false jm68 jm68p jm68p (jM_bl jm68) = true := by decide +kernel
theorem mk68 : jMok jT jTs jNWl jSRl jm68 := jMok_of tok9 jcasts jarr tT9 jm68p jm68 false rfl (by decide +kernel) rfl (fun h => (by cases h)) ck68 (fun h => rfl) (Or.inl rfl)
theorem ck69 : jchkB jTab9 (jthrb jTT9 (jM_by jm69)) false jm69 jm69p jm69p (jM_bl jm69) = true := by decide +kernel
theorem mk69 : jMok jT jTs jNWl jSRl jm69 := jMok_of tok9 jcasts jarr tT9 jm69p jm69 false rfl (by decide +kernel) rfl (fun h => (by cases h)) ck69 (fun h => rfl) (Or.inl rfl)
theorem ck70 : jchkB jTab9 (jthrb jTT9 (jM_by jm70)) false jm70 jm70p jm70p (jM_bl jm70) = true := by decide +kernel
theorem mk70 : jMok jT jTs jNWl jSRl jm70 := jMok_of tok9 jcasts jarr tT9 jm70p jm70 false rfl (by decide +kernel) rfl (fun h => (by cases h)) ck70 (fun h => rfl) (Or.inl rfl)
theorem ck71 : jchkB jTab9 (jthrb jTT9 (jM_by jm71)) false jm71 jm71p jm71p (jM_bl jm71) = true := by decide +kernel
theorem mk71 : jMok jT jTs jNWl jSRl jm71 := jMok_of tok9 jcasts jarr tT9 jm71p jm71 false rfl (by decide +kernel) rfl (fun h => (by cases h)) ck71 (fun h => rfl) (Or.inl rfl)
theorem ck72 : jchkB jTab9 (jthrb jTT9 (jM_by jm72)) false jm72 jm72p jm72p (jM_bl jm72) = true := by decide +kernel
theorem mk72 : jMok jT jTs jNWl jSRl jm72 := jMok_of tok9 jcasts jarr tT9 jm72p jm72 false rfl (by decide +kernel) rfl (fun h => (by cases h)) ck72 (fun h => rfl) (Or.inl rfl)
theorem ck73 : jchkB jTab9 (jthrb jTT9 (jM_by jm73)) false jm73 jm73p jm73p (jM_bl jm73) = true := by decide +kernel
theorem mk73 : jMok jT jTs jNWl jSRl jm73 := jMok_of tok9 jcasts jarr tT9 jm73p jm73 false rfl (by decide +kernel) rfl (fun h => (by cases h)) ck73 (fun h => rfl) (Or.inl rfl)
theorem ck74 : jchkB jTab9 (jthrb jTT9 (jM_by jm74)) false jm74 jm74p jm74p (jM_bl jm74) = true := by decide +kernel
theorem mk74 : jMok jT jTs jNWl jSRl jm74 := jMok_of tok9 jcasts jarr tT9 jm74p jm74 false rfl (by decide +kernel) rfl (fun h => (by cases h)) ck74 (fun h => rfl) (Or.inl rfl)
theorem ck75 : jchkB jTab9 (jthrb jTT9 (jM_by jm75)) false jm75 jm75p jm75p (jM_bl jm75) = true := by decide +kernel
theorem mk75 : jMok jT jTs jNWl jSRl jm75 := jMok_of tok9 jcasts jarr tT9 jm75p jm75 false rfl (by decide +kernel) rfl (fun h => (by cases h)) ck75 (fun h => rfl) (Or.inl rfl)
theorem ck76 : jchkB jTab9 (jthrb jTT9 (jM_by jm76)) false jm76 jm76p jm76p (jM_bl jm76) = true := by decide +kernel
theorem mk76 : jMok jT jTs jNWl jSRl jm76 := jMok_of tok9 jcasts jarr tT9 jm76p jm76 false rfl (by decide +kernel) rfl (fun h => (by cases h)) ck76 (fun h => rfl) (Or.inl rfl)
theorem ck77 : jchkB jTab9 (jthrb jTT9 (jM_by jm77)) false jm77 jm77p jm77p (jM_bl jm77) = true := by decide +kernel
theorem mk77 : jMok jT jTs jNWl jSRl jm77 := jMok_of tok9 jcasts jarr tT9 jm77p jm77 false rfl (by decide +kernel) rfl (fun h => (by cases h)) ck77 (fun h => rfl) (Or.inl rfl)
theorem ck78 : jchkB jTab9 (jthrb jTT9 (jM_by jm78)) false jm78 jm78p jm78p (jM_bl jm78) = true := by decide +kernel
theorem mk78 : jMok jT jTs jNWl jSRl jm78 := jMok_of tok9 jcasts jarr tT9 jm78p jm78 false rfl (by decide +kernel) rfl (fun h => (by cases h)) ck78 (fun h => rfl) (Or.inl rfl)
theorem ck79 : jchkB jTab9 (jthrb jTT9 (jM_by jm79)) false jm79 jm79p jm79p (jM_bl jm79) = true := by decide +kernel
theorem mk79 : jMok jT jTs jNWl jSRl jm79 := jMok_of tok9 jcasts jarr tT9 jm79p jm79 false rfl (by decide +kernel) rfl (fun h => (by cases h)) ck79 (fun h => rfl) (Or.inl rfl)
theorem ck80 : jchkB jTab9 (jthrb jTT9 (jM_by jm80)) false jm80 jm80p jm80p (jM_bl jm80) = true := by decide +kernel
theorem mk80 : jMok jT jTs jNWl jSRl jm80 := jMok_of tok9 jcasts jarr tT9 jm80p jm80 false rfl (by decide +kernel) rfl (fun h => (by cases h)) ck80 (fun h => rfl) (Or.inl rfl)
theorem ck81 : jchkB jTab10 (jthrb jTT10 (jM_by jm81)) true jm81 jm81p jm81p (jM_bl jm81) = true := by decide +kernel
theorem mk81 : jMok jT jTs jNWl jSRl jm81 := jMok_of tok10 jcasts jarr tT10 jm81p jm81 true rfl (by decide +kernel) rfl (fun h => rfl) ck81 (fun h => rfl) (Or.inl rfl)
theorem ck82 : jchkB jTab10 (jthrb jTT10 (jM_by jm82)) false jm82 jm82p jm82p (jM_bl jm82) = true := by decide +kernel
theorem mk82 : jMok jT jTs jNWl jSRl jm82 := jMok_of tok10 jcasts jarr tT10 jm82p jm82 false rfl (by decide +kernel) rfl (fun h => (by cases h)) ck82 (fun h => rfl) (Or.inl rfl)
theorem ck83 : jchkB jTab10 (jthrb jTT10 (jM_by jm83)) false jm83 jm83p jm83p (jM_bl jm83) = true := by decide +kernel
theorem mk83 : jMok jT jTs jNWl jSRl jm83 := jMok_of tok10 jcasts jarr tT10 jm83p jm83 false rfl (by decide +kernel) rfl (fun h => (by cases h)) ck83 (fun h => rfl) (Or.inl rfl)
theorem ck84 : jchkB jTab10 (jthrb jTT10 (jM_by jm84)) false jm84 jm84p jm84p (jM_bl jm84) = true := by decide +kernel
theorem mk84 : jMok jT jTs jNWl jSRl jm84 := jMok_of tok10 jcasts jarr tT10 jm84p jm84 false rfl (by decide +kernel) rfl (fun h => (by cases h)) ck84 (fun h => rfl) (Or.inl rfl)
theorem ck85 : jchkB jTab10 (jthrb jTT10 (jM_by jm85)) false jm85 jm85p jm85p (jM_bl jm85) = true := by decide +kernel
theorem mk85 : jMok jT jTs jNWl jSRl jm85 := jMok_of tok10 jcasts jarr tT10 jm85p jm85 false rfl (by decide +kernel) rfl (fun h => (by cases h)) ck85 (fun h => rfl) (Or.inl rfl)
