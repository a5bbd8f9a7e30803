theorem jv_k113 : jv_ck2 (jv_ym 113).2.1 0 jv_c113 = true := by decide +kernel
theorem jv_k114 : jv_ck2 (jv_ym 114).2.1 0 jv_c114 = true := by decide +kernel
theorem jv_k115 : jv_ck2 (jv_ym 115).2.1 0 jv_c115 = true := by decide +kernel
theorem jv_k116 : jv_ck2 (jv_ym 116).2.1 0 jv_c116 = true := by decide +kernel
theorem jv_k117 : jv_ck2 (jv_ym 117).2.1 0 jv_c117 = true := by decide +kernel
theorem jv_k118 : jv_ck2 (jv_ym 118).2.1 0 jv_c118 = true := by decide +kernel
theorem jv_k119 : jv_ck2 (jv_ym 119).2.1 0 jv_c119 = true := by decide +kernel
theorem jv_k120 : jv_ck2 (jv_ym 120).2.1 0 jv_c120 = true := by decide +kernel
theorem jv_k121 : jv_ck2 (jv_ym 121).2.1 0 jv_c121 = true := by decide +kernel
theorem jv_k122 : jv_ck2 (jv_ym 122).2.1 0 jv_c122 = true := by decide +kernel
theorem jv_k123_0 : jv_ck2 (jv_ym 123).2.1 0 jv_c123_0 = true := by decide +kernel
theorem jv_k123_1 : jv_ck2 (jv_ym 123).2.1 192 jv_c123_1 = true := by decide +kernel
theorem jv_k123 : jv_ck2 (jv_ym 123).2.1 0 jv_c123 = true := by
  unfold jv_c123
  simp only [jv_ck2_app, Bool.and_eq_true]
  exact ⟨jv_k123_0, jv_k123_1⟩
theorem jv_k124 : jv_ck2 (jv_ym 124).2.1 0 jv_c124 = true := by decide +kernel
theorem jv_k125 : jv_ck2 (jv_ym 125).2.1 0 jv_c125 = true := by decide +kernel
theorem jv_k126 : jv_ck2 (jv_ym 126).2.1 0 jv_c126 = true := by decide +kernel
theorem jv_k127 : jv_ck2 (jv_ym 127).2.1 0 jv_c127 = true := by decide +kernel
theorem jv_k128 : jv_ck2 (jv_ym 128).2.1 0 jv_c128 = true := by decide +kernel
theorem jv_k129 : jv_ck2 (jv_ym 129).2.1 0 jv_c129 = true := by decide +kernel
theorem jv_k130 : jv_ck2 (jv_ym 130).2.1 0 jv_c130 = true := by decide +kernel
theorem jv_k131 : jv_ck2 (jv_ym 131).2.1 0 jv_c131 = true := by decide +kernel
theorem jv_k132 : jv_ck2 (jv_ym 132).2.1 0 jv_c132 = true := by decide +kernel
theorem jv_k133 : jv_ck2 (jv_ym 133).2.1 0 jv_c133 = true := by decide +kernel
theorem jv_k134 : jv_ck2 (jv_ym 134).2.1 0 jv_c134 = true := by decide +kernel
theorem jv_k135 : jv_ck2 (jv_ym 135).2.1 0 jv_c135 = true := by decide +kernel
theorem jv_k136 : jv_ck2 (jv_ym 136).2.1 0 jv_c136 = true := by decide +kernel
theorem jv_k137 : jv_ck2 (jv_ym 137).2.1 0 jv_c137 = true := by decide +kernel
theorem jv_k138 : jv_ck2 (jv_ym 138).2.1 0 jv_c138 = true := by decide +kernel
theorem jv_k139 : jv_ck2 (jv_ym 139).2.1 0 jv_c139 = true := by decide +kernel
theorem jv_k140 : jv_ck2 (jv_ym 140).2.1 0 jv_c140 = true := by decide +kernel
theorem jv_k141 : jv_ck2 (jv_ym 141).2.1 0 jv_c141 = true := by decide +kernel
theorem jv_k142 : jv_ck2 (jv_ym 142).2.1 0 jv_c142 = true := by decide +kernel
theorem jv_k143 : jv_ck2 (jv_ym 143).2.1 0 jv_c143 = true := by decide +kernel
theorem jv_k144 : jv_ck2 (jv_ym 144).2.1 0 jv_c144 = true := by decide +kernel
theorem jv_k145 : jv_ck2 (jv_ym 145).2.1 0 jv_c145 = true := by decide +kernel
theorem jv_k146 : jv_ck2 (jv_ym 146).2.1 0 jv_c146 = true := by decide +kernel
theorem jv_k147 : jv_ck2 (jv_ym 147).2.1 0 jv_c147 = true := by decide +kernel
theorem jv_k148 : jv_ck2 (jv_ym 148).2.1 0 jv_c148 = true := by decide +kernel
theorem jv_k149 : jv_ck2 (jv_ym 149).2.1 0 jv_c149 = true := by decide +kernel
theorem jv_k150 : jv_ck2 (jv_ym 150).2.1 0 jv_c150 = true := by decide +kernel
theorem jv_k151 : jv_ck2 (jv_ym 151).2.1 0 jv_c151 = true := by decide +kernel
theorem jv_k152 : jv_ck2 (jv_ym 152).2.1 0 jv_c152 = true := by decide +kernel
theorem jv_k153 : jv_ck2 (jv_ym 153).2.1 0 jv_c153 = true := by decide +kernel
theorem jv_k154 : jv_ck2 (jv_ym 154).2.1 0 jv_c154 = true := by decide +kernel
theorem jv_k155 : jv_ck2 (jv_ym 155).2.1 0 jv_c155 = true := by decide +kernel
theorem jv_k156 : jv_ck2 (jv_ym 156).2.1 0 jv_c156 = true := by decide +kernel
theorem jv_k157 : jv_ck2 (jv_ym 157).2.1 0 jv_c157 = true := by decide +kernel
theorem jv_k158 : jv_ck2 (jv_ym 158).2.1 0 jv_c158 = true := by decide +kernel
theorem jv_k159 : jv_ck2 (jv_ym 159).2.1 0 jv_c159 = true := by decide +kernel
theorem jv_k160 : jv_ck2 (jv_ym 160).2.1 0 jv_c160 = true := by decide +kernel
theorem jv_k161 : jv_ck2 (jv_ym 161).2.1 0 jv_c161 = true := by decide +kernel
theorem jv_k162 : jv_ck2 (jv_ym 162).2.1 0 jv_c162 = true := by decide +kernel
theorem jv_k163 : jv_ck2 (jv_ym 163).2.1 0 jv_c163 = true := by decide +kernel
theorem jv_k164 : jv_ck2 (jv_ym 164).2.1 0 jv_c164 = true := by decide +kernel
theorem jv_k165 : jv_ck2 (jv_ym 165).2.1 0 jv_c165 = true := by decide +kernel
theorem jv_k166 : jv_ck2 (jv_ym 166).2.1 0 jv_c166 = true := by decide +kernel
theorem jv_k167 : jv_ck2 (jv_ym 167).2.1 0 jv_c167 = true := by decide +kernel
theorem jv_k168 : jv_ck2 (jv_ym 168).2.1 0 jv_c168 = true := by decide +kernel
theorem jv_k169 : jv_ck2 (jv_ym 169).2.1 0 jv_c169 = true := by decide +kernel
theorem jv_k170 : jv_ck2 (jv_ym 170).2.1 0 jv_c170 = true := by decide +kernel
theorem jv_k171 : jv_ck2 (jv_ym 171).2.1 0 jv_c171 = true := by decide +kernel
theorem jv_k172 : jv_ck2 (jv_ym 172).2.1 0 jv_c172 = true := by decide +kernel
theorem jv_k173 : jv_ck2 (jv_ym 173).2.1 0 jv_c173 = true := by decide +kernel
theorem jv_k174 : jv_ck2 (jv_ym 174).2.1 0 jv_c174 = true := by decide +kernel
theorem jv_k175 : jv_ck2 (jv_ym 175).2.1 0 jv_c175 = true := by decide +kernel
theorem jv_k176 : jv_ck2 (jv_ym 176).2.1 0 jv_c176 = true := by decide +kernel
theorem jv_k177 : jv_ck2 (jv_ym 177).2.1 0 jv_c177 = true := by decide +kernel
theorem jv_k178 : jv_ck2 (jv_ym 178).2.1 0 jv_c178 = true := by decide +kernel
theorem jv_k179 : jv_ck2 (jv_ym 179).2.1 0 jv_c179 = true := by decide +kernel
theorem jv_k180 : jv_ck2 (jv_ym 180).2.1 0 jv_c180 = true := by decide +kernel
theorem jv_k181 : jv_ck2 (jv_ym 181).2.1 0 jv_c181 = true := by decide +kernel
theorem jv_k182 : jv_ck2 (jv_ym 182).2.1 0 jv_c182 = true := by decide +kernel
theorem jv_k183 : jv_ck2 (jv_ym 183).2.1 0 jv_c183 = true := by decide +kernel
theorem jv_k184 : jv_ck2 (jv_ym 184).2.1 0 jv_c184 = true := by decide +kernel
theorem jv_k185 : jv_ck2 (jv_ym 185).2.1 0 jv_c185 = true := by decide +kernel
theorem jv_k186 : jv_ck2 (jv_ym 186).2.1 0 jv_c186 = true := by decide +kernel
theorem jv_k187 : jv_ck2 (jv_ym 187).2.1 0 jv_c187 = true := by decide +kernel
theorem jv_k188 : jv_ck2 (jv_ym 188).2.1 0 jv_c188 = true := by decide +kernel
theorem jv_k189 : jv_ck2 (jv_ym 189).2.1 0 jv_c189 = true := by decide +kernel
theorem jv_k190 : jv_ck2 (jv_ym 190).2.1 0 jv_c190 = true := by decide +kernel
theorem jv_k191 : jv_ck2 (jv_ym 191).2.1 0 jv_c191 = true := by decide +kernel
theorem jv_k192 : jv_ck2 (jv_ym 192).2.1 0 jv_c192 = true := by decide +kernel
theorem jv_k193 : jv_ck2 (jv_ym 193).2.1 0 jv_c193 = true := by decide +kernel
theorem jv_k194 : jv_ck2 (jv_ym 194).2.1 0 jv_c194 = true := by decide +kernel
theorem jv_k195 : jv_ck2 (jv_ym 195).2.1 0 jv_c195 = true := by decide +kernel
theorem jv_k196 : jv_ck2 (jv_ym 196).2.1 0 jv_c196 = true := by decide +kernel
theorem jv_k197 : jv_ck2 (jv_ym 197).2.1 0 jv_c197 = true := by decide +kernel
theorem jv_k198 : jv_ck2 (jv_ym 198).2.1 0 jv_c198 = true := by decide +kernel
theorem jv_k199 : jv_ck2 (jv_ym 199).2.1 0 jv_c199 = true := by decide +kernel
theorem jv_k200 : jv_ck2 (jv_ym 200).2.1 0 jv_c200 = true := by decide +kernel
theorem jv_k201 : jv_ck2 (jv_ym 201).2.1 0 jv_c201 = true := by decide +kernel
theorem jv_k202_0 : jv_ck2 (jv_ym 202).2.1 0 jv_c202_0 = true := by decide +kernel
theorem jv_k202_1 : jv_ck2 (jv_ym 202).2.1 192 jv_c202_1 = true := by decide +kernel
theorem jv_k202 : jv_ck2 (jv_ym 202).2.1 0 jv_c202 = true := by
  unfold jv_c202
  simp only [jv_ck2_app, Bool.and_eq_true]
  exact ⟨jv_k202_0, jv_k202_1⟩
theorem jv_k203_0 : jv_ck2 (jv_ym 203).2.1 0 jv_c203_0 = true := by decide +kernel
theorem jv_k203_1 : jv_ck2 (jv_ym 203).2.1 192 jv_c203_1 = true := by decide +kernel
theorem jv_k203 : jv_ck2 (jv_ym 203).2.1 0 jv_c203 = true := by
  unfold jv_c203
  simp only [jv_ck2_app, Bool.and_eq_true]
  exact ⟨jv_k203_0, jv_k203_1⟩
