section

end
section

end
section
theorem jv_g0 : jv_ck3 0 [jv_c0, jv_c1, jv_c2, jv_c3, jv_c4, jv_c5, jv_c6, jv_c7, jv_c8, jv_c9, jv_c10, jv_c11, jv_c12, jv_c13, jv_c14, jv_c15] = true := jv_and jv_k0 (jv_and jv_k1 (jv_and jv_k2 (jv_and jv_k3 (jv_and jv_k4 (jv_and jv_k5 (jv_and jv_k6 (jv_and jv_k7 (jv_and jv_k8 (jv_and jv_k9 (jv_and jv_k10 (jv_and jv_k11 (jv_and jv_k12 (jv_and jv_k13 (jv_and jv_k14 (jv_and jv_k15 (rfl))))))))))))))))
theorem jv_g1 : jv_ck3 16 [jv_c16, jv_c17, jv_c18, jv_c19, jv_c20, jv_c21, jv_c22, jv_c23, jv_c24, jv_c25, jv_c26, jv_c27, jv_c28, jv_c29, jv_c30, jv_c31] = true := jv_and jv_k16 (jv_and jv_k17 (jv_and jv_k18 (jv_and jv_k19 (jv_and jv_k20 (jv_and jv_k21 (jv_and jv_k22 (jv_and jv_k23 (jv_and jv_k24 (jv_and jv_k25 (jv_and jv_k26 (jv_and jv_k27 (jv_and jv_k28 (jv_and jv_k29 (jv_and jv_k30 (jv_and jv_k31 (rfl))))))))))))))))
theorem jv_g2 : jv_ck3 32 [jv_c32, jv_c33, jv_c34, jv_c35, jv_c36, jv_c37, jv_c38, jv_c39, jv_c40, jv_c41, jv_c42, jv_c43, jv_c44, jv_c45, jv_c46, jv_c47] = true := jv_and jv_k32 (jv_and jv_k33 (jv_and jv_k34 (jv_and jv_k35 (jv_and jv_k36 (jv_and jv_k37 (jv_and jv_k38 (jv_and jv_k39 (jv_and jv_k40 (jv_and jv_k41 (jv_and jv_k42 (jv_and jv_k43 (jv_and jv_k44 (jv_and jv_k45 (jv_and jv_k46 (jv_and jv_k47 (rfl))))))))))))))))
theorem jv_g3 : jv_ck3 48 [jv_c48, jv_c49, jv_c50, jv_c51, jv_c52, jv_c53, jv_c54, jv_c55, jv_c56, jv_c57, jv_c58, jv_c59, jv_c60, jv_c61, jv_c62, jv_c63] = true := jv_and jv_k48 (jv_and jv_k49 (jv_and jv_k50 (jv_and jv_k51 (jv_and jv_k52 (jv_and jv_k53 (jv_and jv_k54 (jv_and jv_k55 (jv_and jv_k56 (jv_and jv_k57 (jv_and jv_k58 (jv_and jv_k59 (jv_and jv_k60 (jv_and jv_k61 (jv_and jv_k62 (jv_and jv_k63 (rfl))))))))))))))))
theorem jv_g4 : jv_ck3 64 [jv_c64, jv_c65, jv_c66, jv_c67, jv_c68, jv_c69, jv_c70, jv_c71, jv_c72, jv_c73, jv_c74, jv_c75, jv_c76, jv_c77, jv_c78, jv_c79] = true := jv_and jv_k64 (jv_and jv_k65 (jv_and jv_k66 (jv_and jv_k67 (jv_and jv_k68 (jv_and jv_k69 (jv_and jv_k70 (jv_and jv_k71 (jv_and jv_k72 (jv_and jv_k73 (jv_and jv_k74 (jv_and jv_k75 (jv_and jv_k76 (jv_and jv_k77 (jv_and jv_k78 (jv_and jv_k79 (rfl))))))))))))))))
theorem jv_g5 : jv_ck3 80 [jv_c80, jv_c81, jv_c82, jv_c83, jv_c84, jv_c85, jv_c86, jv_c87, jv_c88, jv_c89, jv_c90, jv_c91, jv_c92, jv_c93, jv_c94, jv_c95] = true := jv_and jv_k80 (jv_and jv_k81 (jv_and jv_k82 (jv_and jv_k83 (jv_and jv_k84 (jv_and jv_k85 (jv_and jv_k86 (jv_and jv_k87 (jv_and jv_k88 (jv_and jv_k89 (jv_and jv_k90 (jv_and jv_k91 (jv_and jv_k92 (jv_and jv_k93 (jv_and jv_k94 (jv_and jv_k95 (rfl))))))))))))))))
theorem jv_g6 : jv_ck3 96 [jv_c96, jv_c97, jv_c98, jv_c99, jv_c100, jv_c101, jv_c102, jv_c103, jv_c104, jv_c105, jv_c106, jv_c107, jv_c108, jv_c109, jv_c110, jv_c111] = true := jv_and jv_k96 (jv_and jv_k97 (jv_and jv_k98 (jv_and jv_k99 (jv_and jv_k100 (jv_and jv_k101 (jv_and jv_k102 (jv_and jv_k103 (jv_and jv_k104 (jv_and jv_k105 (jv_and jv_k106 (jv_and jv_k107 (jv_and jv_k108 (jv_and jv_k109 (jv_and jv_k110 (jv_and jv_k111 (rfl))))))))))))))))
theorem jv_g7 : jv_ck3 112 [jv_c112, jv_c113, jv_c114, jv_c115, jv_c116, jv_c117, jv_c118, jv_c119, jv_c120, jv_c121, jv_c122, jv_c123, jv_c124, jv_c125, jv_c126, jv_c127] = true := jv_and jv_k112 (jv_and jv_k113 (jv_and jv_k114 (jv_and jv_k115 (jv_and jv_k116 (jv_and jv_k117 (jv_and jv_k118 (jv_and jv_k119 (jv_and jv_k120 (jv_and jv_k121 (jv_and jv_k122 (jv_and jv_k123 (jv_and jv_k124 (jv_and jv_k125 (jv_and jv_k126 (jv_and jv_k127 (rfl))))))))))))))))
theorem jv_g8 : jv_ck3 128 [jv_c128, jv_c129, jv_c130, jv_c131, jv_c132, jv_c133, jv_c134, jv_c135, jv_c136, jv_c137, jv_c138, jv_c139, jv_c140, jv_c141, jv_c142, jv_c143] = true := jv_and jv_k128 (jv_and jv_k129 (jv_and jv_k130 (jv_and jv_k131 (jv_and jv_k132 (jv_and jv_k133 (jv_and jv_k134 (jv_and jv_k135 (jv_and jv_k136 (jv_and jv_k137 (jv_and jv_k138 (jv_and jv_k139 (jv_and jv_k140 (jv_and jv_k141 (jv_and jv_k142 (jv_and jv_k143 (rfl))))))))))))))))
theorem jv_g9 : jv_ck3 144 [jv_c144, jv_c145, jv_c146, jv_c147, jv_c148, jv_c149, jv_c150, jv_c151, jv_c152, jv_c153, jv_c154, jv_c155, jv_c156, jv_c157, jv_c158, jv_c159] = true := jv_and jv_k144 (jv_and jv_k145 (jv_and jv_k146 (jv_and jv_k147 (jv_and jv_k148 (jv_and jv_k149 (jv_and jv_k150 (jv_and jv_k151 (jv_and jv_k152 (jv_and jv_k153 (jv_and jv_k154 (jv_and jv_k155 (jv_and jv_k156 (jv_and jv_k157 (jv_and jv_k158 (jv_and jv_k159 (rfl))))))))))))))))
theorem jv_g10 : jv_ck3 160 [jv_c160, jv_c161, jv_c162, jv_c163, jv_c164, jv_c165, jv_c166, jv_c167, jv_c168, jv_c169, jv_c170, jv_c171, jv_c172, jv_c173, jv_c174, jv_c175] = true := jv_and jv_k160 (jv_and jv_k161 (jv_and jv_k162 (jv_and jv_k163 (jv_and jv_k164 (jv_and jv_k165 (jv_and jv_k166 (jv_and jv_k167 (jv_and jv_k168 (jv_and jv_k169 (jv_and jv_k170 (jv_and jv_k171 (jv_and jv_k172 (jv_and jv_k173 (jv_and jv_k174 (jv_and jv_k175 (rfl))))))))))))))))
theorem jv_g11 : jv_ck3 176 [jv_c176, jv_c177, jv_c178, jv_c179, jv_c180, jv_c181, jv_c182, jv_c183, jv_c184, jv_c185, jv_c186, jv_c187, jv_c188, jv_c189, jv_c190, jv_c191] = true := jv_and jv_k176 (jv_and jv_k177 (jv_and jv_k178 (jv_and jv_k179 (jv_and jv_k180 (jv_and jv_k181 (jv_and jv_k182 (jv_and jv_k183 (jv_and jv_k184 (jv_and jv_k185 (jv_and jv_k186 (jv_and jv_k187 (jv_and jv_k188 (jv_and jv_k189 (jv_and jv_k190 (jv_and jv_k191 (rfl))))))))))))))))
theorem jv_g12 : jv_ck3 192 [jv_c192, jv_c193, jv_c194, jv_c195, jv_c196, jv_c197, jv_c198, jv_c199, jv_c200, jv_c201, jv_c202, jv_c203, jv_c204, jv_c205, jv_c206, jv_c207] = true := jv_and jv_k192 (jv_and jv_k193 (jv_and jv_k194 (jv_and jv_k195 (jv_and jv_k196 (jv_and jv_k197 (jv_and jv_k198 (jv_and jv_k199 (jv_and jv_k200 (jv_and jv_k201 (jv_and jv_k202 (jv_and jv_k203 (jv_and jv_k204 (jv_and jv_k205 (jv_and jv_k206 (jv_and jv_k207 (rfl))))))))))))))))
theorem jv_g13 : jv_ck3 208 [jv_c208, jv_c209, jv_c210, jv_c211, jv_c212, jv_c213, jv_c214, jv_c215, jv_c216, jv_c217, jv_c218, jv_c219, jv_c220, jv_c221, jv_c222, jv_c223] = true := jv_and jv_k208 (jv_and jv_k209 (jv_and jv_k210 (jv_and jv_k211 (jv_and jv_k212 (jv_and jv_k213 (jv_and jv_k214 (jv_and jv_k215 (jv_and jv_k216 (jv_and jv_k217 (jv_and jv_k218 (jv_and jv_k219 (jv_and jv_k220 (jv_and jv_k221 (jv_and jv_k222 (jv_and jv_k223 (rfl))))))))))))))))
theorem jv_g14 : jv_ck3 224 [jv_c224, jv_c225, jv_c226, jv_c227, jv_c228, jv_c229, jv_c230, jv_c231, jv_c232, jv_c233, jv_c234, jv_c235, jv_c236, jv_c237, jv_c238, jv_c239] = true := jv_and jv_k224 (jv_and jv_k225 (jv_and jv_k226 (jv_and jv_k227 (jv_and jv_k228 (jv_and jv_k229 (jv_and jv_k230 (jv_and jv_k231 (jv_and jv_k232 (jv_and jv_k233 (jv_and jv_k234 (jv_and jv_k235 (jv_and jv_k236 (jv_and jv_k237 (jv_and jv_k238 (jv_and jv_k239 (rfl))))))))))))))))
theorem jv_g15 : jv_ck3 240 [jv_c240, jv_c241, jv_c242, jv_c243, jv_c244, jv_c245, jv_c246, jv_c247, jv_c248, jv_c249, jv_c250, jv_c251, jv_c252, jv_c253, jv_c254, jv_c255] = true := jv_and jv_k240 (jv_and jv_k241 (jv_and jv_k242 (jv_and jv_k243 (jv_and jv_k244 (jv_and jv_k245 (jv_and jv_k246 (jv_and jv_k247 (jv_and jv_k248 (jv_and jv_k249 (jv_and jv_k250 (jv_and jv_k251 (jv_and jv_k252 (jv_and jv_k253 (jv_and jv_k254 (jv_and jv_k255 (rfl))))))))))))))))
theorem jv_g16 : jv_ck3 256 [jv_c256, jv_c257, jv_c258, jv_c259, jv_c260, jv_c261, jv_c262, jv_c263, jv_c264, jv_c265, jv_c266, jv_c267, jv_c268, jv_c269, jv_c270, jv_c271] = true := jv_and jv_k256 (jv_and jv_k257 (jv_and jv_k258 (jv_and jv_k259 (jv_and jv_k260 (jv_and jv_k261 (jv_and jv_k262 (jv_and jv_k263 (jv_and jv_k264 (jv_and jv_k265 (jv_and jv_k266 (jv_and jv_k267 (jv_and jv_k268 (jv_and jv_k269 (jv_and jv_k270 (jv_and jv_k271 (rfl))))))))))))))))
theorem jv_ck : jv_ck4 0 jv_prog = true := jv_and jv_g0 (jv_and jv_g1 (jv_and jv_g2 (jv_and jv_g3 (jv_and jv_g4 (jv_and jv_g5 (jv_and jv_g6 (jv_and jv_g7 (jv_and jv_g8 (jv_and jv_g9 (jv_and jv_g10 (jv_and jv_g11 (jv_and jv_g12 (jv_and jv_g13 (jv_and jv_g14 (jv_and jv_g15 (jv_and jv_g16 (rfl)))))))))))))))))
/-- the tables tell the code -/
theorem jv_code_ok {y pc : Nat} {i : Instr} {len : Nat} (h : jv_code y pc = some (i, len)) : decode (jv_ym y).2.1 pc = .ok (i, len) ∧ (jv_sw i = true ∨ len = jv_len i) := by
  unfold jv_code at h
  split at h
  · cases h
  · rename_i a ha
    split at h
    · cases h
    · rename_i b hb
      split at h
      · cases h
      · rename_i c hc
        split at h
        · cases h
        · rename_i d hd
          have h1 := jv_ck4_of _ 0 _ jv_ck ha
          have h2 := jv_ck3_of _ _ _ h1 hb
          have h3 := jv_ck2_of _ 0 _ _ h2 hc (hd.trans (congrArg some h))
          rw [show 0 + 16 * (y / 16) + y % 16 = y by omega, show 0 + 16 * (pc / 16) + pc % 16 = pc by omega] at h3
          exact h3
end
