theorem ck125 : jchkB jTab13 (jthrb jTT13 (jM_by jm125)) false jm125 jm125p jm125p (jM_bl jm125) = true := by decide +kernel
theorem mk125 : jMok jT jTs jNWl jSRl jm125 := jMok_of tok13 jcasts jarr tT13 jm125p jm125 false rfl (by decide +kernel) rfl (fun h => (by cases h)) ck125 (fun h => rfl) (Or.inr rfl)
theorem ck126 : jchkB jTab13 (jthrb jTT13 (jM_by jm126)) false jm126 jm126p jm126p (jM_bl jm126) = true := by decide +kernel
theorem mk126 : jMok jT jTs jNWl jSRl jm126 := jMok_of tok13 jcasts jarr tT13 jm126p jm126 false rfl (by decide +kernel) rfl (fun h => (by cases h)) ck126 (fun h => rfl) (Or.inr rfl)
theorem ck127 : jchkB jTab13 (jthrb jTT13 (jM_by jm127)) false jm127 jm127p jm127p (jM_bl jm127) = true := by decide +kernel
theorem mk127 : jMok jT jTs jNWl jSRl jm127 := jMok_of tok13 jcasts jarr tT13 jm127p jm127 false rfl (by decide +kernel) rfl (fun h => (by cases h)) ck127 (fun h => rfl) (Or.inr rfl)
theorem ck128 : jchkB jTab13 (jthrb jTT13 (jM_by jm128)) false jm128 jm128p jm128p (jM_bl jm128) = true := by decide +kernel
theorem mk128 : jMok jT jTs jNWl jSRl jm128 := jMok_of tok13 jcasts jarr tT13 jm128p jm128 false rfl (by decide +kernel) rfl (fun h => (by cases h)) ck128 (fun h => rfl) (Or.inr rfl)
theorem ck129 : jchkB jTab13 (jthrb jTT13 (jM_by jm129)) false jm129 jm129p jm129p (jM_bl jm129) = true := by decide +kernel
theorem mk129 : jMok jT jTs jNWl jSRl jm129 := jMok_of tok13 jcasts jarr tT13 jm129p jm129 false rfl (by decide +kernel) rfl (fun h => (by cases h)) ck129 (fun h => rfl) (Or.inr rfl)
theorem ck130 : jchkB jTab13 (jthrb jTT13 (jM_by jm130)) false jm130 jm130p jm130p (jM_bl jm130) = true := by decide +kernel
theorem mk130 : jMok jT jTs jNWl jSRl jm130 := jMok_of tok13 jcasts jarr tT13 jm130p jm130 false rfl (by decide +kernel) rfl (fun h => (by cases h)) ck130 (fun h => rfl) (Or.inr rfl)
theorem ck131 : jchkB jTab13 (jthrb jTT13 (jM_by jm131)) false jm131 jm131p jm131p (jM_bl jm131) = true := by decide +kernel
theorem mk131 : jMok jT jTs jNWl jSRl jm131 := jMok_of tok13 jcasts jarr tT13 jm131p jm131 false rfl (by decide +kernel) rfl (fun h => (by cases h)) ck131 (fun h => rfl) (Or.inr rfl)
theorem ck132 : jchkB jTab13 (jthrb jTT13 (jM_by jm132)) false jm132 jm132p jm132p (jM_bl jm132) = true := by decide +kernel
theorem mk132 : jMok jT jTs jNWl jSRl jm132 := jMok_of tok13 jcasts jarr tT13 jm132p jm132 false rfl (by decide +kernel) rfl (fun h => (by cases h)) ck132 (fun h => rfl) (Or.inr rfl)
theorem ck133 : jchkB jTab13 (jthrb jTT13 (jM_by jm133)) false jm133 jm133p jm133p (jM_bl jm133) = true := by decide +kernel
theorem mk133 : jMok jT jTs jNWl jSRl jm133 := jMok_of tok13 jcasts jarr tT13 jm133p jm133 false rfl (by decide +kernel) rfl (fun h => (by cases h)) ck133 (fun h => rfl) (Or.inr rfl)
theorem ck134 : jchkB jTab13 (jthrb jTT13 (jM_by jm134)) false jm134 jm134p jm134p (jM_bl jm134) = true := by decide +kernel
theorem mk134 : jMok jT jTs jNWl jSRl jm134 := jMok_of tok13 jcasts jarr tT13 jm134p jm134 false rfl (by decide +kernel) rfl (fun h => (by cases h)) ck134 (fun h => rfl) (Or.inr rfl)
theorem ck135 : jchkB jTab13 (jthrb jTT13 (jM_by jm135)) false jm135 jm135p jm135p (jM_bl jm135) = true := by decide +kernel
theorem mk135 : jMok jT jTs jNWl jSRl jm135 := jMok_of tok13 jcasts jarr tT13 jm135p jm135 false rfl (by decide +kernel) rfl (fun h => (by cases h)) ck135 (fun h => rfl) (Or.inr rfl)
theorem ck136 : jchkB jTab13 (jthrb jTT13 (jM_by jm136)) false jm136 jm136p jm136p (jM_bl jm136) = true := by decide +kernel
theorem mk136 : jMok jT jTs jNWl jSRl jm136 := jMok_of tok13 jcasts jarr tT13 jm136p jm136 false rfl (by decide +kernel) rfl (fun h => (by cases h)) ck136 (fun h => rfl) (Or.inr rfl)
theorem ck137 : jchkB jTab13 (jthrb jTT13 (jM_by jm137)) false jm137 jm137p jm137p (jM_bl jm137) = true := by decide +kernel
theorem mk137 : jMok jT jTs jNWl jSRl jm137 := jMok_of tok13 jcasts jarr tT13 jm137p jm137 false rfl (by decide +kernel) rfl (fun h => (by cases h)) ck137 (fun h => rfl) (Or.inr rfl)
theorem ck138 : jchkB jTab13 (jthrb jTT13 (jM_by jm138)) false jm138 jm138p jm138p (jM_bl jm138) = true := by decide +kernel
theorem mk138 : jMok jT jTs jNWl jSRl jm138 := jMok_of tok13 jcasts jarr tT13 jm138p jm138 false rfl (by decide +kernel) rfl (fun h => (by cases h)) ck138 (fun h => rfl) (Or.inr rfl)
theorem ck139 : jchkB jTab13 (jthrb jTT13 (jM_by jm139)) false jm139 jm139p jm139p (jM_bl jm139) = true := by decide +kernel
theorem mk139 : jMok jT jTs jNWl jSRl jm139 := jMok_of tok13 jcasts jarr tT13 jm139p jm139 false rfl (by decide +kernel) rfl (fun h => (by cases h)) ck139 (fun h => rfl) (Or.inr rfl)
theorem ck140 : jchkB jTab13 (jthrb jTT13 (jM_by jm140)) false jm140 jm140p jm140p (jM_bl jm140) = true := by decide +kernel
theorem mk140 : jMok jT jTs jNWl jSRl jm140 := jMok_of tok13 jcasts jarr tT13 jm140p jm140 false rfl (by decide +kernel) rfl (fun h => (by cases h)) ck140 (fun h => rfl) (Or.inr rfl)
theorem ck141 : jchkB jTab13 (jthrb jTT13 (jM_by jm141)) false jm141 jm141p jm141p (jM_bl jm141) = true := by decide +kernel
theorem mk141 : jMok jT jTs jNWl jSRl jm141 := jMok_of tok13 jcasts jarr tT13 jm141p jm141 false rfl (by decide +kernel) rfl (fun h => (by cases h)) ck141 (fun h => rfl) (Or.inr rfl)
theorem ck142 : jchkB jTab13 (jthrb jTT13 (jM_by jm142)) false jm142 jm142p jm142p (jM_bl jm142) = true := by decide +kernel
theorem mk142 : jMok jT jTs jNWl jSRl jm142 := jMok_of tok13 jcasts jarr tT13 jm142p jm142 false rfl (by decide +kernel) rfl (fun h => (by cases h)) ck142 (fun h => rfl) (Or.inr rfl)
theorem ck143 : jchkB jTab13 (jthrb jTT13 (jM_by jm143)) false jm143 jm143p jm143p (jM_bl jm143) = true := by decide +kernel
theorem mk143 : jMok jT jTs jNWl jSRl jm143 := jMok_of tok13 jcasts jarr tT13 jm143p jm143 false rfl (by decide +kernel) rfl (fun h => (by cases h)) ck143 (fun h => rfl) (Or.inr rfl)
theorem ck144 : jchkB jTab13 (jthrb jTT13 (jM_by jm144)) false jm144 jm144p jm144p (jM_bl jm144) = true := by decide +kernel
theorem mk144 : jMok jT jTs jNWl jSRl jm144 := jMok_of tok13 jcasts jarr tT13 jm144p jm144 false rfl (by decide +kernel) rfl (fun h => (by cases h)) ck144 (fun h => rfl) (Or.inr rfl)
theorem ck145 : jchkB jTab13 (jthrb jTT13 (jM_by jm145)) false jm145 jm145p jm145p (jM_bl jm145) = true := by decide +kernel
theorem mk145 : jMok jT jTs jNWl jSRl jm145 := jMok_of tok13 jcasts jarr tT13 jm145p jm145 false rfl (by decide +kernel) rfl (fun h => (by cases h)) ck145 (fun h => rfl) (Or.inr rfl)
theorem ck146 : jchkB jTab13 (jthrb jTT13 (jM_by jm146)) false jm146 jm146p jm146p (jM_bl jm146) = true := by decide +kernel
theorem mk146 : jMok jT jTs jNWl jSRl jm146 := jMok_of tok13 jcasts jarr tT13 jm146p jm146 false rfl (by decide +kernel) rfl (fun h => (by cases h)) ck146 (fun h => rfl) (Or.inr rfl)
theorem ck147 : jchkB jTab13 (jthrb jTT13 (jM_by jm147)) false jm147 jm147p jm147p (jM_bl jm147) = true := by decide +kernel
theorem mk147 : jMok jT jTs jNWl jSRl jm147 := jMok_of tok13 jcasts jarr tT13 jm147p jm147 false rfl (by decide +kernel) rfl (fun h => (by cases h)) ck147 (fun h => rfl) (Or.inr rfl)
theorem ck148 : jchkB jTab13 (jthrb jTT13 (jM_by jm148)) false jm148 jm148p jm148p (jM_bl jm148) = true := by decide +kernel
theorem mk148 : jMok jT jTs jNWl jSRl jm148 := jMok_of tok13 jcasts jarr tT13 jm148p jm148 false rfl (by decide +kernel) rfl (fun h => (by cases h)) ck148 (fun h => rfl) (Or.inr rfl)
theorem ck149 : jchkB jTab13 (jthrb jTT13 (jM_by jm149)) false jm149 jm149p jm149p (jM_bl jm149) = true := by decide +kernel
theorem mk149 : jMok jT jTs jNWl jSRl jm149 := jMok_of tok13 jcasts jarr tT13 jm149p jm149 false rfl (by decide +kernel) rfl (fun h => (by cases h)) ck149 (fun h => rfl) (Or.inr rfl)
theorem ck150 : jchkB jTab13 (jthrb jTT13 (jM_by jm150)) false jm150 jm150p jm150p (jM_bl jm150) = true := by decide +kernel
theorem mk150 : jMok jT jTs jNWl jSRl jm150 := jMok_of tok13 jcasts jarr tT13 jm150p jm150 false rfl (by decide +kernel) rfl (fun h => (by cases h)) ck150 (fun h => rfl) (Or.inr rfl)
theorem ck151 : jchkB jTab13 (jthrb jTT13 (jM_by jm151)) false jm151 jm151p jm151p (jM_bl jm151) = true := by decide +kernel
theorem mk151 : jMok jT jTs jNWl jSRl jm151 := jMok_of tok13 jcasts jarr tT13 jm151p jm151 false rfl (by decide +kernel) rfl (fun h => (by cases h)) ck151 (fun h => rfl) (Or.inr rfl)
theorem ck152 : jchkB jTab13 (jthrb jTT13 (jM_by jm152)) false jm152 jm152p jm152p (jM_bl jm152) = true := by decide +kernel
theorem mk152 : jMok jT jTs jNWl jSRl jm152 := jMok_of tok13 jcasts jarr tT13 jm152p jm152 false rfl (by decide +kernel) rfl (fun h => (by cases h)) ck152 (fun h => rfl) (Or.inr rfl)
theorem ck153 : jchkB jTab13 (jthrb jTT13 (jM_by jm153)) false jm153 jm153p jm153p (jM_bl jm153) = true := by decide +kernel
theorem mk153 : jMok jT jTs jNWl jSRl jm153 := jMok_of tok13 jcasts jarr tT13 jm153p jm153 false rfl (by decide +kernel) rfl (fun h => (by cases h)) ck153 (fun h => rfl) (Or.inr rfl)
theorem ck154 : jchkB jTab13 (jthrb jTT13 (jM_by jm154)) false jm154 jm154p jm154p (jM_bl jm154) = true := by decide +kernel
theorem mk154 : jMok jT jTs jNWl jSRl jm154 := jMok_of tok13 jcasts jarr tT13 jm154p jm154 false rfl (by decide +kernel) rfl (fun h => (by cases h)) ck154 (fun h => rfl) (Or.inr rfl)
theorem ck155 : jchkB jTab14 (jthrb jTT14 (jM_by jm155)) true jm155 jm155p jm155p (jM_bl jm155) = true := by decide +kernel
theorem mk155 : jMok jT jTs jNWl jSRl jm155 := jMok_of tok14 jcasts jarr tT14 jm155p jm155 true rfl (by decide +kernel) rfl (fun h => rfl) ck155 (fun h => rfl) (Or.inl rfl)
theorem ck156 : jchkB jTab14 (jthrb jTT14 (jM_by jm156)) false jm156 jm156p jm156p (jM_bl jm156) = true := by decide +kernel
theorem mk156 : jMok jT jTs jNWl jSRl jm156 := jMok_of tok14 jcasts jarr tT14 jm156p jm156 false rfl (by decide +kernel) rfl (fun h => (by cases h)) ck156 (fun h => rfl) (Or.inl rfl)
theorem ck157 : jchkB jTab14 (jthrb jTT14 (jM_by jm157)) false jm157 jm157p jm157p (jM_bl jm157) = true := by decide +kernel
theorem mk157 : jMok jT jTs jNWl jSRl jm157 := jMok_of tok14 jcasts jarr tT14 jm157p jm157 false rfl (by decide +kernel) rfl (fun h => (by cases h)) ck157 (fun h => rfl) (Or.inl rfl)
theorem ck158 : jchkB jTab14 (jthrb jTT14 (jM_by jm158)) false jm158 jm158p jm158p (jM_bl jm158) = true := by decide +kernel
theorem mk158 : jMok jT jTs jNWl jSRl jm158 := jMok_of tok14 jcasts jarr tT14 jm158p jm158 false rfl (by decide +kernel) rfl (fun h => (by cases h)) ck158 (fun h => rfl) (Or.inl rfl)
theorem ck159 : jchkB jTab14 (jthrb jTT14 (jM_by jm159)) false jm159 jm159p jm159p (jM_bl jm159) = true := by decide +kernel
theorem mk159 : jMok jT jTs jNWl jSRl jm159 := jMok_of tok14 jcasts jarr tT14 jm159p jm159 false rfl (by decide +kernel) rfl (fun h => (by cases h)) ck159 (fun h => rfl) (Or.inl rfl)
theorem ck160 : jchkB jTab14 (jthrb jTT14 (jM_by jm160)) false jm160 jm160p jm160p (jM_bl jm160) = true := by decide +kernel
theorem mk160 : jMok jT jTs jNWl jSRl jm160 := jMok_of tok14 jcasts jarr tT14 jm160p jm160 false rfl (by decide +kernel) rfl (fun h => (by cases h)) ck160 (fun h => rfl) (Or.inl rfl)
theorem ck161 : jchkB jTab14 (jthrb jTT14 (jM_by jm161)) false jm161 jm161p jm161p (jM_bl jm161) = true := by decide +kernel
theorem mk161 : jMok jT jTs jNWl jSRl jm161 := jMok_of tok14 jcasts jarr tT14 jm161p jm161 false rfl (by decide +kernel) rfl (fun h => (by cases h)) ck161 (fun h => rfl) (Or.inl rfl)
theorem ck162 : jchkB jTab14 (jthrb jTT14 (jM_by jm162)) false jm162 jm162p jm162p (jM_bl jm162) = true := by decide +kernel
theorem mk162 : jMok jT jTs jNWl jSRl jm162 := jMok_of tok14 jcasts jarr tT14 jm162p jm162 false rfl (by decide +kernel) rfl (fun h => (by cases h)) ck162 (fun h => rfl) (Or.inl rfl)
theorem ck163 : jchkB jTab14 (jthrb jTT14 (jM_by jm163)) false jm163 jm163p jm163p (jM_bl jm163) = true := by decide +kernel
theorem mk163 : jMok jT jTs jNWl jSRl jm163 := jMok_of tok14 jcasts jarr tT14 jm163p jm163 false rfl (by decide +kernel) rfl (fun h => (by cases h)) ck163 (fun h => rfl) (Or.inl rfl)
theorem ck164 : jchkB jTab14 (jthrb jTT14 (jM_by jm164)) false jm164 jm164p jm164p (jM_bl jm164) = true := by decide +kernel
theorem mk164 : jMok jT jTs jNWl jSRl jm164 := jMok_of tok14 jcasts jarr tT14 jm164p jm164 false rfl (by decide +kernel) rfl (fun h => (by cases h)) ck164 (fun h => rfl) (Or.inl rfl)
theorem ck165 : jchkB jTab14 (jthrb jTT14 (jM_by jm165)) false jm165 jm165p jm165p (jM_bl jm165) = true := by decide +kernel
theorem mk165 : jMok jT jTs jNWl jSRl jm165 := jMok_of tok14 jcasts jarr tT14 jm165p jm165 false rfl (by decide +kernel) rfl (fun h => (by cases h)) ck165 (fun h => rfl) (Or.inl rfl)
theorem ck166 : jchkB jTab14 (jthrb jTT14 (jM_by jm166)) false jm166 jm166p jm166p (jM_bl jm166) = true := by decide +kernel
theorem mk166 : jMok jT jTs jNWl jSRl jm166 := jMok_of tok14 jcasts jarr tT14 jm166p jm166 false rfl (by decide +kernel) rfl (fun h => (by cases h)) ck166 (fun h => rfl) (Or.inl rfl)
theorem ck167 : jchkB jTab14 (jthrb jTT14 (jM_by jm167)) false jm167 jm167p jm167p (jM_bl jm167) = true := by decide +kernel
theorem mk167 : jMok jT jTs jNWl jSRl jm167 := jMok_of tok14 jcasts jarr tT14 jm167p jm167 false rfl (by decide +kernel) rfl (fun h => (by cases h)) ck167 (fun h => rfl) (Or.inl rfl)
