def scx {α : Type} (xs : Nat → Int32) (L : Nat) (j : Int32) (K : Int32 → Option α) : Option α := if 0 ≤ j ∧ j < Int32.ofNat L then K (xs j.toNatClampNeg) else none
def B_L_law_L18 (N : Nat) (L : Nat) (xs : Nat → Int32) (r18 : Int32 → Sx → Option (Int32 × Sx)) (x1 : Int32) (σ1 : Sx) : Option (Int32 × Sx) := (if ((Int32.ofNat L) - (6 : Int32)) < x1 then some ((1 : Int32), σ1) else scx xs L x1 (fun v1 => nmx (fun (σ2 : Sx) => r18 (x1 + (6 : Int32)) σ2) (fun (j1519 : Sx → Option (Int32 × Sx)) => nmx ((v1 &&& (63 : Int32))) (fun v2 => (if v2 = (0 : Int32) then scx xs L (x1 + (1 : Int32)) (fun v3 => scx xs L (x1 + (2 : Int32)) (fun v4 => clx (F_X9_walker N v3 v4 σ1) (fun v5 σ3 => scx xs L (x1 + (1 : Int32)) (fun v6 => scx xs L (x1 + (2 : Int32)) (fun v7 => clx (F_X10_walker N v6 v7 σ3) (fun v8 σ4 => (if v5 = v8 then j1519 σ4 else some ((0 : Int32), σ4)))))))) else (if v2 = (1 : Int32) then scx xs L (x1 + (1 : Int32)) (fun v9 => scx xs L (x1 + (2 : Int32)) (fun v10 => scx xs L (x1 + (3 : Int32)) (fun v11 => clx (F_X9_way N v9 v10 v11 σ1) (fun v12 σ5 => scx xs L (x1 + (1 : Int32)) (fun v13 => scx xs L (x1 + (2 : Int32)) (fun v14 => scx xs L (x1 + (3 : Int32)) (fun v15 => clx (F_X10_way N v13 v14 v15 σ5) (fun v16 σ6 => (if v12 = v16 then j1519 σ6 else some ((0 : Int32), σ6)))))))))) else (if v2 = (2 : Int32) then scx xs L (x1 + (1 : Int32)) (fun v17 => scx xs L (x1 + (2 : Int32)) (fun v18 => scx xs L (x1 + (3 : Int32)) (fun v19 => clx (F_X9_mend N v17 v18 v19 σ1) (fun v20 σ7 => scx xs L (x1 + (1 : Int32)) (fun v21 => scx xs L (x1 + (2 : Int32)) (fun v22 => scx xs L (x1 + (3 : Int32)) (fun v23 => clx (F_X10_mend N v21 v22 v23 σ7) (fun v24 σ8 => (if v20 = v24 then j1519 σ8 else some ((0 : Int32), σ8)))))))))) else (if v2 = (3 : Int32) then scx xs L (x1 + (1 : Int32)) (fun v25 => scx xs L (x1 + (2 : Int32)) (fun v26 => clx (F_X9_of v25 v26 σ1) (fun v27 σ9 => scx xs L (x1 + (1 : Int32)) (fun v28 => scx xs L (x1 + (2 : Int32)) (fun v29 => clx (F_X10_of v28 v29 σ9) (fun v30 σ10 => (if v27 = v30 then j1519 σ10 else some ((0 : Int32), σ10)))))))) else (if v2 = (4 : Int32) then scx xs L (x1 + (1 : Int32)) (fun v31 => scx xs L (x1 + (2 : Int32)) (fun v32 => clx (F_X9_place v31 v32 σ1) (fun v33 σ11 => scx xs L (x1 + (1 : Int32)) (fun v34 => scx xs L (x1 + (2 : Int32)) (fun v35 => clx (F_X10_place v34 v35 σ11) (fun v36 σ12 => (if v33 = v36 then j1519 σ12 else some ((0 : Int32), σ12)))))))) else (if v2 = (5 : Int32) then scx xs L (x1 + (1 : Int32)) (fun v37 => clx (F_X9_feed v37 σ1) (fun v38 σ13 => scx xs L (x1 + (1 : Int32)) (fun v39 => clx (F_X10_feed v39 σ13) (fun v40 σ14 => (if v38 = v40 then j1519 σ14 else some ((0 : Int32), σ14)))))) else (if v2 = (6 : Int32) then clx (F_X9_law N  σ1) (fun v41 σ15 => clx (F_X10_law N  σ15) (fun v42 σ16 => (if v41 = v42 then j1519 σ16 else some ((0 : Int32), σ16)))) else (if v2 = (7 : Int32) then scx xs L (x1 + (1 : Int32)) (fun v43 => clx (F_X9_holding N v43 σ1) (fun v44 σ17 => scx xs L (x1 + (1 : Int32)) (fun v45 => clx (F_X10_holding N v45 σ17) (fun v46 σ18 => (if v44 = v46 then j1519 σ18 else some ((0 : Int32), σ18)))))) else (if v2 = (8 : Int32) then scx xs L (x1 + (1 : Int32)) (fun v47 => scx xs L (x1 + (2 : Int32)) (fun v48 => clx (F_X9_day N v47 v48 σ1) (fun v49 σ19 => scx xs L (x1 + (1 : Int32)) (fun v50 => scx xs L (x1 + (2 : Int32)) (fun v51 => clx (F_X10_day N v50 v51 σ19) (fun v52 σ20 => (if v49 = v52 then j1519 σ20 else some ((0 : Int32), σ20)))))))) else (if v2 = (9 : Int32) then scx xs L (x1 + (1 : Int32)) (fun v53 => scx xs L (x1 + (2 : Int32)) (fun v54 => scx xs L (x1 + (3 : Int32)) (fun v55 => clx (F_X9_where N v53 v54 v55 σ1) (fun v56 σ21 => scx xs L (x1 + (1 : Int32)) (fun v57 => scx xs L (x1 + (2 : Int32)) (fun v58 => scx xs L (x1 + (3 : Int32)) (fun v59 => clx (F_X10_where N v57 v58 v59 σ21) (fun v60 σ22 => (if v56 = v60 then j1519 σ22 else some ((0 : Int32), σ22)))))))))) else (if v2 = (10 : Int32) then scx xs L (x1 + (1 : Int32)) (fun v61 => scx xs L (x1 + (2 : Int32)) (fun v62 => scx xs L (x1 + (3 : Int32)) (fun v63 => clx (F_X9_sees N v61 v62 v63 σ1) (fun v64 σ23 => scx xs L (x1 + (1 : Int32)) (fun v65 => scx xs L (x1 + (2 : Int32)) (fun v66 => scx xs L (x1 + (3 : Int32)) (fun v67 => clx (F_X10_sees N v65 v66 v67 σ23) (fun v68 σ24 => (if v64 = v68 then j1519 σ24 else some ((0 : Int32), σ24)))))))))) else (if v2 = (11 : Int32) then scx xs L (x1 + (1 : Int32)) (fun v69 => scx xs L (x1 + (2 : Int32)) (fun v70 => clx (F_X9_takes N v69 v70 σ1) (fun v71 σ25 => scx xs L (x1 + (1 : Int32)) (fun v72 => scx xs L (x1 + (2 : Int32)) (fun v73 => clx (F_X10_takes N v72 v73 σ25) (fun v74 σ26 => (if v71 = v74 then j1519 σ26 else some ((0 : Int32), σ26)))))))) else (if v2 = (12 : Int32) then scx xs L (x1 + (1 : Int32)) (fun v75 => scx xs L (x1 + (2 : Int32)) (fun v76 => clx (F_X9_meet N v75 v76 σ1) (fun v77 σ27 => scx xs L (x1 + (1 : Int32)) (fun v78 => scx xs L (x1 + (2 : Int32)) (fun v79 => clx (F_X10_meet N v78 v79 σ27) (fun v80 σ28 => (if v77 = v80 then j1519 σ28 else some ((0 : Int32), σ28)))))))) else (if v2 = (13 : Int32) then scx xs L (x1 + (1 : Int32)) (fun v81 => scx xs L (x1 + (2 : Int32)) (fun v82 => clx (F_X9_sure N v81 v82 σ1) (fun v83 σ29 => scx xs L (x1 + (1 : Int32)) (fun v84 => scx xs L (x1 + (2 : Int32)) (fun v85 => clx (F_X10_sure N v84 v85 σ29) (fun v86 σ30 => (if v83 = v86 then j1519 σ30 else some ((0 : Int32), σ30)))))))) else (if v2 = (14 : Int32) then scx xs L (x1 + (1 : Int32)) (fun v87 => scx xs L (x1 + (2 : Int32)) (fun v88 => clx (F_X9_follow N v87 v88 σ1) (fun v89 σ31 => scx xs L (x1 + (1 : Int32)) (fun v90 => scx xs L (x1 + (2 : Int32)) (fun v91 => clx (F_X10_follow N v90 v91 σ31) (fun v92 σ32 => (if v89 = v92 then j1519 σ32 else some ((0 : Int32), σ32)))))))) else (if v2 = (15 : Int32) then scx xs L (x1 + (1 : Int32)) (fun v93 => scx xs L (x1 + (2 : Int32)) (fun v94 => clx (F_X9_read N v93 v94 σ1) (fun v95 σ33 => scx xs L (x1 + (1 : Int32)) (fun v96 => scx xs L (x1 + (2 : Int32)) (fun v97 => clx (F_X10_read N v96 v97 σ33) (fun v98 σ34 => (if v95 = v98 then j1519 σ34 else some ((0 : Int32), σ34)))))))) else (if v2 = (16 : Int32) then scx xs L (x1 + (1 : Int32)) (fun v99 => clx (F_X9_look N v99 σ1) (fun v100 σ35 => scx xs L (x1 + (1 : Int32)) (fun v101 => clx (F_X10_look N v101 σ35) (fun v102 σ36 => (if v100 = v102 then j1519 σ36 else some ((0 : Int32), σ36)))))) else (if v2 = (17 : Int32) then scx xs L (x1 + (1 : Int32)) (fun v103 => scx xs L (x1 + (2 : Int32)) (fun v104 => scx xs L (x1 + (3 : Int32)) (fun v105 => clx (F_X9_cheapest N v103 v104 v105 σ1) (fun v106 σ37 => scx xs L (x1 + (1 : Int32)) (fun v107 => scx xs L (x1 + (2 : Int32)) (fun v108 => scx xs L (x1 + (3 : Int32)) (fun v109 => clx (F_X10_cheapest N v107 v108 v109 σ37) (fun v110 σ38 => (if v106 = v110 then j1519 σ38 else some ((0 : Int32), σ38)))))))))) else (if v2 = (18 : Int32) then scx xs L (x1 + (1 : Int32)) (fun v111 => scx xs L (x1 + (2 : Int32)) (fun v112 => clx (F_X9_guard N v111 v112 σ1) (fun v113 σ39 => scx xs L (x1 + (1 : Int32)) (fun v114 => scx xs L (x1 + (2 : Int32)) (fun v115 => clx (F_X10_guard N v114 v115 σ39) (fun v116 σ40 => (if v113 = v116 then j1519 σ40 else some ((0 : Int32), σ40)))))))) else (if v2 = (19 : Int32) then scx xs L (x1 + (1 : Int32)) (fun v117 => scx xs L (x1 + (2 : Int32)) (fun v118 => clx (F_X9_shoes N v117 v118 σ1) (fun v119 σ41 => scx xs L (x1 + (1 : Int32)) (fun v120 => scx xs L (x1 + (2 : Int32)) (fun v121 => clx (F_X10_shoes N v120 v121 σ41) (fun v122 σ42 => (if v119 = v122 then j1519 σ42 else some ((0 : Int32), σ42)))))))) else (if v2 = (20 : Int32) then scx xs L (x1 + (1 : Int32)) (fun v123 => scx xs L (x1 + (2 : Int32)) (fun v124 => scx xs L (x1 + (3 : Int32)) (fun v125 => clx (F_X9_feigned N v123 v124 v125 σ1) (fun v126 σ43 => scx xs L (x1 + (1 : Int32)) (fun v127 => scx xs L (x1 + (2 : Int32)) (fun v128 => scx xs L (x1 + (3 : Int32)) (fun v129 => clx (F_X10_feigned N v127 v128 v129 σ43) (fun v130 σ44 => (if v126 = v130 then j1519 σ44 else some ((0 : Int32), σ44)))))))))) else (if v2 = (21 : Int32) then scx xs L (x1 + (1 : Int32)) (fun v131 => scx xs L (x1 + (2 : Int32)) (fun v132 => scx xs L (x1 + (3 : Int32)) (fun v133 => clx (F_X9_flood N v131 v132 v133 σ1) (fun v134 σ45 => scx xs L (x1 + (1 : Int32)) (fun v135 => scx xs L (x1 + (2 : Int32)) (fun v136 => scx xs L (x1 + (3 : Int32)) (fun v137 => clx (F_X10_flood N v135 v136 v137 σ45) (fun v138 σ46 => (if v134 = v138 then j1519 σ46 else some ((0 : Int32), σ46)))))))))) else (if v2 = (22 : Int32) then scx xs L (x1 + (1 : Int32)) (fun v139 => scx xs L (x1 + (2 : Int32)) (fun v140 => scx xs L (x1 + (3 : Int32)) (fun v141 => clx (F_X9_drawn N v139 v140 v141 σ1) (fun v142 σ47 => scx xs L (x1 + (1 : Int32)) (fun v143 => scx xs L (x1 + (2 : Int32)) (fun v144 => scx xs L (x1 + (3 : Int32)) (fun v145 => clx (F_X10_drawn N v143 v144 v145 σ47) (fun v146 σ48 => (if v142 = v146 then j1519 σ48 else some ((0 : Int32), σ48)))))))))) else (if v2 = (23 : Int32) then scx xs L (x1 + (1 : Int32)) (fun v147 => clx (F_X9_live N v147 σ1) (fun v148 σ49 => scx xs L (x1 + (1 : Int32)) (fun v149 => clx (F_X10_live N v149 σ49) (fun v150 σ50 => (if v148 = v150 then j1519 σ50 else some ((0 : Int32), σ50)))))) else (if v2 = (24 : Int32) then scx xs L (x1 + (1 : Int32)) (fun v151 => scx xs L (x1 + (2 : Int32)) (fun v152 => clx (F_X9_step N v151 v152 σ1) (fun v153 σ51 => scx xs L (x1 + (1 : Int32)) (fun v154 => scx xs L (x1 + (2 : Int32)) (fun v155 => clx (F_X10_step N v154 v155 σ51) (fun v156 σ52 => (if v153 = v156 then j1519 σ52 else some ((0 : Int32), σ52)))))))) else (if v2 = (25 : Int32) then scx xs L (x1 + (1 : Int32)) (fun v157 => clx (F_X9_led v157 σ1) (fun v158 σ53 => scx xs L (x1 + (1 : Int32)) (fun v159 => clx (F_X10_led v159 σ53) (fun v160 σ54 => (if v158 = v160 then j1519 σ54 else some ((0 : Int32), σ54)))))) else (if v2 = (26 : Int32) then clx (F_X9_image  σ1) (fun v161 σ55 => clx (F_X10_image N  σ55) (fun v162 σ56 => (if v161 = v162 then j1519 σ56 else some ((0 : Int32), σ56)))) else (if v2 = (27 : Int32) then clx (F_X9_back  σ1) (fun v163 σ57 => clx (F_X10_back N  σ57) (fun v164 σ58 => (if v163 = v164 then j1519 σ58 else some ((0 : Int32), σ58)))) else (if v2 = (28 : Int32) then clx (F_X9_undo N  σ1) (fun v165 σ59 => clx (F_X10_undo  σ59) (fun v166 σ60 => (if v165 = v166 then j1519 σ60 else some ((0 : Int32), σ60)))) else (if v2 = (29 : Int32) then clx (F_X9_redo N  σ1) (fun v167 σ61 => clx (F_X10_redo  σ61) (fun v168 σ62 => (if v167 = v168 then j1519 σ62 else some ((0 : Int32), σ62)))) else (if v2 = (30 : Int32) then scx xs L (x1 + (1 : Int32)) (fun v169 => clx (F_X9_body v169 σ1) (fun v170 σ63 => scx xs L (x1 + (1 : Int32)) (fun v171 => clx (F_X10_body v171 σ63) (fun v172 σ64 => (if v170 = v172 then j1519 σ64 else some ((0 : Int32), σ64)))))) else (if v2 = (31 : Int32) then scx xs L (x1 + (1 : Int32)) (fun v173 => scx xs L (x1 + (2 : Int32)) (fun v174 => scx xs L (x1 + (3 : Int32)) (fun v175 => clx (F_X9_act N v173 v174 v175 σ1) (fun v176 σ65 => scx xs L (x1 + (1 : Int32)) (fun v177 => scx xs L (x1 + (2 : Int32)) (fun v178 => scx xs L (x1 + (3 : Int32)) (fun v179 => clx (F_X10_act v177 v178 v179 σ65) (fun v180 σ66 => (if v176 = v180 then j1519 σ66 else some ((0 : Int32), σ66)))))))))) else (if v2 = (32 : Int32) then scx xs L (x1 + (1 : Int32)) (fun v181 => clx (F_X9_trace v181 σ1) (fun v182 σ67 => scx xs L (x1 + (1 : Int32)) (fun v183 => clx (F_X10_trace v183 σ67) (fun v184 σ68 => (if v182 = v184 then j1519 σ68 else some ((0 : Int32), σ68)))))) else (if v2 = (33 : Int32) then scx xs L (x1 + (1 : Int32)) (fun v185 => scx xs L (x1 + (2 : Int32)) (fun v186 => clx (F_X9_keep v185 v186 σ1) (fun v187 σ69 => scx xs L (x1 + (1 : Int32)) (fun v188 => scx xs L (x1 + (2 : Int32)) (fun v189 => clx (F_X10_keep v188 v189 σ69) (fun v190 σ70 => (if v187 = v190 then j1519 σ70 else some ((0 : Int32), σ70)))))))) else (if v2 = (34 : Int32) then scx xs L (x1 + (1 : Int32)) (fun v191 => scx xs L (x1 + (2 : Int32)) (fun v192 => scx xs L (x1 + (3 : Int32)) (fun v193 => clx (F_X9_row N v191 v192 v193 σ1) (fun v194 σ71 => scx xs L (x1 + (1 : Int32)) (fun v195 => scx xs L (x1 + (2 : Int32)) (fun v196 => scx xs L (x1 + (3 : Int32)) (fun v197 => clx (F_X10_row N v195 v196 v197 σ71) (fun v198 σ72 => (if v194 = v198 then j1519 σ72 else some ((0 : Int32), σ72)))))))))) else (if v2 = (35 : Int32) then scx xs L (x1 + (1 : Int32)) (fun v199 => scx xs L (x1 + (2 : Int32)) (fun v200 => scx xs L (x1 + (3 : Int32)) (fun v201 => scx xs L (x1 + (4 : Int32)) (fun v202 => clx (F_X9_put v199 v200 ((jlshl v201.toInt64 (32 : Int32)) ||| (v202.toInt64 &&& (4294967295 : Int64))) σ1) (fun v203 σ73 => scx xs L (x1 + (1 : Int32)) (fun v204 => scx xs L (x1 + (2 : Int32)) (fun v205 => scx xs L (x1 + (3 : Int32)) (fun v206 => scx xs L (x1 + (4 : Int32)) (fun v207 => clx (F_X10_put v204 v205 ((jlshl v206.toInt64 (32 : Int32)) ||| (v207.toInt64 &&& (4294967295 : Int64))) σ73) (fun v208 σ74 => (if v203 = v208 then j1519 σ74 else some ((0 : Int32), σ74)))))))))))) else (if v2 = (36 : Int32) then scx xs L (x1 + (1 : Int32)) (fun v209 => scx xs L (x1 + (2 : Int32)) (fun v210 => clx (F_X9_element v209 v210 σ1) (fun z1 σ75 => scx xs L (x1 + (1 : Int32)) (fun v211 => scx xs L (x1 + (2 : Int32)) (fun v212 => clx (F_X10_element v211 v212 σ75) (fun z2 σ76 => (if (lg_cmp z1 z2) = 0 then j1519 σ76 else some ((0 : Int32), σ76)))))))) else (if v2 = (37 : Int32) then scx xs L (x1 + (1 : Int32)) (fun v213 => scx xs L (x1 + (2 : Int32)) (fun v214 => scx xs L (x1 + (3 : Int32)) (fun v215 => scx xs L (x1 + (4 : Int32)) (fun v216 => scx xs L (x1 + (5 : Int32)) (fun v217 => clx (F_X9_shift v213 v214 v215 v216 v217 σ1) (fun v218 σ77 => scx xs L (x1 + (1 : Int32)) (fun v219 => scx xs L (x1 + (2 : Int32)) (fun v220 => scx xs L (x1 + (3 : Int32)) (fun v221 => scx xs L (x1 + (4 : Int32)) (fun v222 => scx xs L (x1 + (5 : Int32)) (fun v223 => clx (F_X10_shift N v219 v220 v221 v222 v223 σ77) (fun v224 σ78 => (if v218 = v224 then j1519 σ78 else some ((0 : Int32), σ78)))))))))))))) else (if v2 = (38 : Int32) then scx xs L (x1 + (1 : Int32)) (fun v225 => scx xs L (x1 + (2 : Int32)) (fun v226 => clx (F_X9_taken N v225 v226 σ1) (fun v227 σ79 => scx xs L (x1 + (1 : Int32)) (fun v228 => scx xs L (x1 + (2 : Int32)) (fun v229 => clx (F_X10_taken v228 v229 σ79) (fun v230 σ80 => (if v227 = v230 then j1519 σ80 else some ((0 : Int32), σ80)))))))) else (if v2 = (39 : Int32) then scx xs L (x1 + (1 : Int32)) (fun v231 => clx (F_X9_count N v231 σ1) (fun v232 σ81 => scx xs L (x1 + (1 : Int32)) (fun v233 => clx (F_X10_count N v233 σ81) (fun v234 σ82 => (if v232 = v234 then j1519 σ82 else some ((0 : Int32), σ82)))))) else j1519 σ1))))))))))))))))))))))))))))))))))))))))))))
def F_law (N : Nat) (L : Nat) (xs : Nat → Int32) (σ0 : Sx) : Option (Int32 × Sx) := lpx1 (B_L_law_L18 N L xs) N (0 : Int32) σ0
def lwQx (b : Nat) (below : List Frame) (s : State) (out : Int32 × Sx) : State → Prop := fun t => out.1 = 1 → lw_Z below #[Value.ref b] s t
section LW
variable {p : Program} {l : Launch} {e : Env} {s : State} {m : MethodId} {below : List Frame} {meth : Method} {c : Code} {D : va_G} {al : Nat → Nat} {cA : Nat → ClassId} {ba : Nat} {b L : Nat} {xs : Nat → Int32} {kc ks : Nat}
theorem x_slen {pc : Nat} {lv : List (Nat × Value)} {st : List Value} {σ : Sx} {K : Option (Int32 × Sx)} (g : GXx p l s m #[Value.ref b] meth c D al cA ba code R_law 4) (hX : va_X b L xs s s.heap) (hbl : b < s.heap.size) (hbA : ¬ Ax ba b) (hd : decode code pc = .ok (.arraylength, 1)) (kk : XTx p l e room_1 s m #[Value.ref b] below meth c D al cA ba 4 (lwQx b below s) kc ks (pc + 1) lv (.int (Int32.ofNat L) :: st) σ (K)) : XTx p l e room_1 s m #[Value.ref b] below meth c D al cA ba 4 (lwQx b below s) kc ks pc lv (.ref b :: st) σ (K) := fun out ho H locs ls hP hS hl => va_slen g.1 g.2.1 hX hbl hbA hS hd (kk out ho H locs ls hP hS hl)
theorem x_sld {pc : Nat} {lv : List (Nat × Value)} {st : List Value} {σ : Sx} {j : Int32} {Kf : Int32 → Option (Int32 × Sx)} (g : GXx p l s m #[Value.ref b] meth c D al cA ba code R_law 4) (hX : va_X b L xs s s.heap) (hbl : b < s.heap.size) (hbA : ¬ Ax ba b) (hL : L < 2 ^ 31) (hd : decode code pc = .ok (.iaload, 1)) (kk : ∀ v : Int32, XTx p l e room_1 s m #[Value.ref b] below meth c D al cA ba 4 (lwQx b below s) kc ks (pc + 1) lv (.int v :: st) σ (Kf v)) : XTx p l e room_1 s m #[Value.ref b] below meth c D al cA ba 4 (lwQx b below s) kc ks pc lv (.int j :: .ref b :: st) σ (scx xs L j Kf) := fun out ho H locs ls hP hS hl => by
  unfold scx at ho
  by_cases h : 0 ≤ j ∧ j < Int32.ofNat L
  · rw [if_pos h] at ho
    exact va_sld g.1 g.2.1 hX hbl hbA hS (vpx hL h) hd (kk _ out ho H locs ls hP hS hl)
  · rw [if_neg h] at ho
    cases ho
theorem x_lwret {pc : Nat} {lv : List (Nat × Value)} {σ : Sx} {v : Int32} (hbA2 : s.heap.size ≤ ba) (g : GXx p l s m #[Value.ref b] meth c D al cA ba code R_law 4) (hrt : meth.sig.returnType = ret) (hcl : kc ≤ 600000 ∧ ks ≤ 7302250) (hd : decode code pc = .ok (.ireturn, 1)) : XTx p l e room_1 s m #[Value.ref b] below meth c D al cA ba 4 (lwQx b below s) kc ks pc lv [.int v] σ (some (v, σ)) := fun out ho H locs ls hP hS hl => by
  cases ho
  intro T hT X
  by_cases hv : v = 1
  · subst hv
    obtain ⟨t, h1, h2⟩ := va_forget (fun q hq => Nat.le_trans hbA2 (hS.2.2 q hq)) (W.widen (k := 600000) (n := 7302250) hcl.1 hcl.2 (lw_ret g.1 g.2.1 hrt g.2.2.2.2.2.2.2.2.2 hd)) T hT X
    exact ⟨t, h1, fun _ => h2⟩
  · exact ⟨_, Steps.refl _, fun h => absurd h hv⟩
end LW
set_option maxRecDepth 100000 in
set_option maxHeartbeats 8000000 in
theorem law_walk {p : Program} {l : Launch} {e : Env} {s : State} {m : MethodId} {below : List Frame} {meth : Method} {c : Code} {D : va_G} {al : Nat → Nat} {cA : Nat → ClassId} {ba : Nat} {b L : Nat} {xs : Nat → Int32} {kc ks : Nat} (N : Nat) (g : GXx p l s m #[Value.ref b] meth c D al cA ba code R_law 4) (hX : va_X b L xs s s.heap) (hbl : b < s.heap.size) (hbA : ¬ Ax ba b) (hbA2 : s.heap.size ≤ ba) (hL : L < 2 ^ 31) (hrt : meth.sig.returnType = ret) (hcl : kc ≤ 600000 ∧ ks ≤ 7302250) (σ0 : Sx) : XTx p l e room_1 s m #[Value.ref b] below meth c D al cA ba 4 (lwQx b below s) kc ks 16 [(2, .ref (al 103)), (1, .ref (al 0)), (0, .ref b)] [] σ0 (F_law N L xs σ0) := by
  have hkc : kc ≤ room_1.cells ∧ ks ≤ room_1.slots := hcl
  unfold F_law
  refine x_iconst (pc := 16) (v := (0 : Int32)) g (by decide) dL_law_16 ?_
  refine x_istore_n (pc := 17) (lv' := [(3, .int (0 : Int32)), (2, .ref (al 103)), (1, .ref (al 0)), (0, .ref b)]) g rfl (by decide) rfl dL_law_17 ?_
  refine x_lv [3, 2, 1, 0] rfl ?_
  refine lpx1_ind (fun (x1 : Int32) (σ1 : Sx) (K : Option (Int32 × Sx)) => XTx p l e room_1 s m #[Value.ref b] below meth c D al cA ba 4 (lwQx b below s) kc ks 18 [(0, .ref b), (1, .ref (al 0)), (2, .ref (al 103)), (3, .int x1)] [] σ1 (K)) (fun _ _ => x_no) (fun r18 hr18 x1 σ1 => ?_) N (0 : Int32) σ0
  show XTx p l e room_1 s m #[Value.ref b] below meth c D al cA ba 4 (lwQx b below s) kc ks 18 [(0, .ref b), (1, .ref (al 0)), (2, .ref (al 103)), (3, .int x1)] [] σ1 (B_L_law_L18 N L xs r18 x1 σ1)
  unfold B_L_law_L18
  refine x_iload_n (pc := 18) g rfl 3 rfl dL_law_18 ?_
  refine x_aload_n (pc := 19) g rfl 0 rfl dL_law_19 ?_
  refine x_slen (pc := 20) g hX hbl hbA dL_law_20 ?_
  refine x_bipush (pc := 21) (v := (6 : Int32)) g (by decide) dL_law_21 ?_
  refine x_isub (pc := 23) g dL_law_23 ?_
  refine x_icmp_gt (pc := 24) (tgt := 1525) g (by decide) dL_law_24 ?_ ?_
  · refine x_iconst (pc := 1525) (v := (1 : Int32)) g (by decide) dL_law_1525 ?_
    exact x_lwret (pc := 1526) hbA2 g hrt hcl dL_law_1526
  · refine x_aload_n (pc := 27) g rfl 0 rfl dL_law_27 ?_
    refine x_iload_n (pc := 28) g rfl 3 rfl dL_law_28 ?_
    refine x_sld (pc := 29) g hX hbl hbA hL dL_law_29 (fun v1 => ?_)
    refine x_bipush (pc := 30) (v := (63 : Int32)) g (by decide) dL_law_30 ?_
    refine x_iand (pc := 32) g dL_law_32 ?_
    refine x_jn (fun (j1519 : Sx → Option (Int32 × Sx)) => ∀ (σ2 : Sx), XTx p l e room_1 s m #[Value.ref b] below meth c D al cA ba 4 (lwQx b below s) kc ks 1519 [(0, .ref b), (1, .ref (al 0)), (2, .ref (al 103)), (3, .int x1)] [] σ2 (j1519 σ2)) (fun σ2 => ?_) (fun j1519 hj1519 => ?_)
    · refine x_iinc (pc := 1519) (v := (x1 + (6 : Int32))) (lv' := [(3, .int (x1 + (6 : Int32))), (0, .ref b), (1, .ref (al 0)), (2, .ref (al 103))]) g 3 rfl (by rfl) (by decide) rfl dL_law_1519 ?_
      refine x_goto (pc := 1522) (tgt := 18) g (by decide) dL_law_1522 ?_
      refine x_lv [1, 2, 3, 0] rfl ?_
      exact hr18 (x1 + (6 : Int32)) σ2
    · refine x_nm (fun v2 => ?_)
      refine x_eqs ?_ (fun hs1 => ?_)
      · refine x_tabIn (pc := 33) (tgt := 208) (off := 175) g (by decide) (by decide) dL_law_33 ?_
        refine x_aload_n (pc := 208) g rfl 1 rfl dL_law_208 ?_
        refine x_aload_n (pc := 209) g rfl 0 rfl dL_law_209 ?_
        refine x_iload_n (pc := 210) g rfl 3 rfl dL_law_210 ?_
        refine x_iconst (pc := 211) (v := (1 : Int32)) g (by decide) dL_law_211 ?_
        refine x_iadd (pc := 212) g dL_law_212 ?_
        refine x_sld (pc := 213) g hX hbl hbA hL dL_law_213 (fun v3 => ?_)
        refine x_aload_n (pc := 214) g rfl 0 rfl dL_law_214 ?_
        refine x_iload_n (pc := 215) g rfl 3 rfl dL_law_215 ?_
        refine x_iconst (pc := 216) (v := (2 : Int32)) g (by decide) dL_law_216 ?_
        refine x_iadd (pc := 217) g dL_law_217 ?_
        refine x_sld (pc := 218) g hX hbl hbA hL dL_law_218 (fun v4 => ?_)
        refine x_callVI (pc := 219) (hkc := hkc) (As := [.int v3, .int v4]) g sh_0 (mc_X9_walker N v3 v4) cw_X9_walker lk_L_13 rfl ⟨Nat.le_of_ble_eq_true rfl, Nat.le_of_ble_eq_true rfl⟩ rfl (Nat.le_of_ble_eq_true rfl) dL_law_219 (fun v5 σ3 => ?_)
        refine x_aload_n (pc := 222) g rfl 2 rfl dL_law_222 ?_
        refine x_aload_n (pc := 223) g rfl 0 rfl dL_law_223 ?_
        refine x_iload_n (pc := 224) g rfl 3 rfl dL_law_224 ?_
        refine x_iconst (pc := 225) (v := (1 : Int32)) g (by decide) dL_law_225 ?_
        refine x_iadd (pc := 226) g dL_law_226 ?_
        refine x_sld (pc := 227) g hX hbl hbA hL dL_law_227 (fun v6 => ?_)
        refine x_aload_n (pc := 228) g rfl 0 rfl dL_law_228 ?_
        refine x_iload_n (pc := 229) g rfl 3 rfl dL_law_229 ?_
        refine x_iconst (pc := 230) (v := (2 : Int32)) g (by decide) dL_law_230 ?_
        refine x_iadd (pc := 231) g dL_law_231 ?_
        refine x_sld (pc := 232) g hX hbl hbA hL dL_law_232 (fun v7 => ?_)
        refine x_callVI (pc := 233) (hkc := hkc) (As := [.int v6, .int v7]) g sh_103 (mc_X10_walker N v6 v7) cw_X10_walker lk_L_17 rfl ⟨Nat.le_of_ble_eq_true rfl, Nat.le_of_ble_eq_true rfl⟩ rfl (Nat.le_of_ble_eq_true rfl) dL_law_233 (fun v8 σ4 => ?_)
        refine x_icmp_eq (pc := 236) (tgt := 1519) g (by decide) dL_law_236 ?_ ?_
        · exact hj1519 σ4
        · refine x_iconst (pc := 239) (v := (0 : Int32)) g (by decide) dL_law_239 ?_
          exact x_lwret (pc := 240) hbA2 g hrt hcl dL_law_240
      refine x_eqs ?_ (fun hs2 => ?_)
      · refine x_tabIn (pc := 33) (tgt := 241) (off := 208) g (by decide) (by decide) dL_law_33 ?_
        refine x_aload_n (pc := 241) g rfl 1 rfl dL_law_241 ?_
        refine x_aload_n (pc := 242) g rfl 0 rfl dL_law_242 ?_
        refine x_iload_n (pc := 243) g rfl 3 rfl dL_law_243 ?_
        refine x_iconst (pc := 244) (v := (1 : Int32)) g (by decide) dL_law_244 ?_
        refine x_iadd (pc := 245) g dL_law_245 ?_
        refine x_sld (pc := 246) g hX hbl hbA hL dL_law_246 (fun v9 => ?_)
        refine x_aload_n (pc := 247) g rfl 0 rfl dL_law_247 ?_
        refine x_iload_n (pc := 248) g rfl 3 rfl dL_law_248 ?_
        refine x_iconst (pc := 249) (v := (2 : Int32)) g (by decide) dL_law_249 ?_
        refine x_iadd (pc := 250) g dL_law_250 ?_
        refine x_sld (pc := 251) g hX hbl hbA hL dL_law_251 (fun v10 => ?_)
        refine x_aload_n (pc := 252) g rfl 0 rfl dL_law_252 ?_
        refine x_iload_n (pc := 253) g rfl 3 rfl dL_law_253 ?_
        refine x_iconst (pc := 254) (v := (3 : Int32)) g (by decide) dL_law_254 ?_
        refine x_iadd (pc := 255) g dL_law_255 ?_
        refine x_sld (pc := 256) g hX hbl hbA hL dL_law_256 (fun v11 => ?_)
        refine x_callVI (pc := 257) (hkc := hkc) (As := [.int v9, .int v10, .int v11]) g sh_0 (mc_X9_way N v9 v10 v11) cw_X9_way lk_L_18 rfl ⟨Nat.le_of_ble_eq_true rfl, Nat.le_of_ble_eq_true rfl⟩ rfl (Nat.le_of_ble_eq_true rfl) dL_law_257 (fun v12 σ5 => ?_)
        refine x_aload_n (pc := 260) g rfl 2 rfl dL_law_260 ?_
        refine x_aload_n (pc := 261) g rfl 0 rfl dL_law_261 ?_
        refine x_iload_n (pc := 262) g rfl 3 rfl dL_law_262 ?_
        refine x_iconst (pc := 263) (v := (1 : Int32)) g (by decide) dL_law_263 ?_
        refine x_iadd (pc := 264) g dL_law_264 ?_
        refine x_sld (pc := 265) g hX hbl hbA hL dL_law_265 (fun v13 => ?_)
        refine x_aload_n (pc := 266) g rfl 0 rfl dL_law_266 ?_
        refine x_iload_n (pc := 267) g rfl 3 rfl dL_law_267 ?_
        refine x_iconst (pc := 268) (v := (2 : Int32)) g (by decide) dL_law_268 ?_
        refine x_iadd (pc := 269) g dL_law_269 ?_
        refine x_sld (pc := 270) g hX hbl hbA hL dL_law_270 (fun v14 => ?_)
        refine x_aload_n (pc := 271) g rfl 0 rfl dL_law_271 ?_
        refine x_iload_n (pc := 272) g rfl 3 rfl dL_law_272 ?_
        refine x_iconst (pc := 273) (v := (3 : Int32)) g (by decide) dL_law_273 ?_
        refine x_iadd (pc := 274) g dL_law_274 ?_
        refine x_sld (pc := 275) g hX hbl hbA hL dL_law_275 (fun v15 => ?_)
        refine x_callVI (pc := 276) (hkc := hkc) (As := [.int v13, .int v14, .int v15]) g sh_103 (mc_X10_way N v13 v14 v15) cw_X10_way lk_L_22 rfl ⟨Nat.le_of_ble_eq_true rfl, Nat.le_of_ble_eq_true rfl⟩ rfl (Nat.le_of_ble_eq_true rfl) dL_law_276 (fun v16 σ6 => ?_)
        refine x_icmp_eq (pc := 279) (tgt := 1519) g (by decide) dL_law_279 ?_ ?_
        · exact hj1519 σ6
        · refine x_iconst (pc := 282) (v := (0 : Int32)) g (by decide) dL_law_282 ?_
          exact x_lwret (pc := 283) hbA2 g hrt hcl dL_law_283
      refine x_eqs ?_ (fun hs3 => ?_)
      · refine x_tabIn (pc := 33) (tgt := 284) (off := 251) g (by decide) (by decide) dL_law_33 ?_
        refine x_aload_n (pc := 284) g rfl 1 rfl dL_law_284 ?_
        refine x_aload_n (pc := 285) g rfl 0 rfl dL_law_285 ?_
        refine x_iload_n (pc := 286) g rfl 3 rfl dL_law_286 ?_
        refine x_iconst (pc := 287) (v := (1 : Int32)) g (by decide) dL_law_287 ?_
        refine x_iadd (pc := 288) g dL_law_288 ?_
        refine x_sld (pc := 289) g hX hbl hbA hL dL_law_289 (fun v17 => ?_)
        refine x_aload_n (pc := 290) g rfl 0 rfl dL_law_290 ?_
        refine x_iload_n (pc := 291) g rfl 3 rfl dL_law_291 ?_
        refine x_iconst (pc := 292) (v := (2 : Int32)) g (by decide) dL_law_292 ?_
        refine x_iadd (pc := 293) g dL_law_293 ?_
        refine x_sld (pc := 294) g hX hbl hbA hL dL_law_294 (fun v18 => ?_)
        refine x_aload_n (pc := 295) g rfl 0 rfl dL_law_295 ?_
        refine x_iload_n (pc := 296) g rfl 3 rfl dL_law_296 ?_
        refine x_iconst (pc := 297) (v := (3 : Int32)) g (by decide) dL_law_297 ?_
        refine x_iadd (pc := 298) g dL_law_298 ?_
        refine x_sld (pc := 299) g hX hbl hbA hL dL_law_299 (fun v19 => ?_)
        refine x_callVI (pc := 300) (hkc := hkc) (As := [.int v17, .int v18, .int v19]) g sh_0 (mc_X9_mend N v17 v18 v19) cw_X9_mend lk_L_23 rfl ⟨Nat.le_of_ble_eq_true rfl, Nat.le_of_ble_eq_true rfl⟩ rfl (Nat.le_of_ble_eq_true rfl) dL_law_300 (fun v20 σ7 => ?_)
        refine x_aload_n (pc := 303) g rfl 2 rfl dL_law_303 ?_
        refine x_aload_n (pc := 304) g rfl 0 rfl dL_law_304 ?_
        refine x_iload_n (pc := 305) g rfl 3 rfl dL_law_305 ?_
        refine x_iconst (pc := 306) (v := (1 : Int32)) g (by decide) dL_law_306 ?_
        refine x_iadd (pc := 307) g dL_law_307 ?_
        refine x_sld (pc := 308) g hX hbl hbA hL dL_law_308 (fun v21 => ?_)
        refine x_aload_n (pc := 309) g rfl 0 rfl dL_law_309 ?_
        refine x_iload_n (pc := 310) g rfl 3 rfl dL_law_310 ?_
        refine x_iconst (pc := 311) (v := (2 : Int32)) g (by decide) dL_law_311 ?_
        refine x_iadd (pc := 312) g dL_law_312 ?_
        refine x_sld (pc := 313) g hX hbl hbA hL dL_law_313 (fun v22 => ?_)
        refine x_aload_n (pc := 314) g rfl 0 rfl dL_law_314 ?_
        refine x_iload_n (pc := 315) g rfl 3 rfl dL_law_315 ?_
        refine x_iconst (pc := 316) (v := (3 : Int32)) g (by decide) dL_law_316 ?_
        refine x_iadd (pc := 317) g dL_law_317 ?_
        refine x_sld (pc := 318) g hX hbl hbA hL dL_law_318 (fun v23 => ?_)
        refine x_callVI (pc := 319) (hkc := hkc) (As := [.int v21, .int v22, .int v23]) g sh_103 (mc_X10_mend N v21 v22 v23) cw_X10_mend lk_L_26 rfl ⟨Nat.le_of_ble_eq_true rfl, Nat.le_of_ble_eq_true rfl⟩ rfl (Nat.le_of_ble_eq_true rfl) dL_law_319 (fun v24 σ8 => ?_)
        refine x_icmp_eq (pc := 322) (tgt := 1519) g (by decide) dL_law_322 ?_ ?_
        · exact hj1519 σ8
        · refine x_iconst (pc := 325) (v := (0 : Int32)) g (by decide) dL_law_325 ?_
          exact x_lwret (pc := 326) hbA2 g hrt hcl dL_law_326
      refine x_eqs ?_ (fun hs4 => ?_)
      · refine x_tabIn (pc := 33) (tgt := 327) (off := 294) g (by decide) (by decide) dL_law_33 ?_
        refine x_aload_n (pc := 327) g rfl 1 rfl dL_law_327 ?_
        refine x_aload_n (pc := 328) g rfl 0 rfl dL_law_328 ?_
        refine x_iload_n (pc := 329) g rfl 3 rfl dL_law_329 ?_
        refine x_iconst (pc := 330) (v := (1 : Int32)) g (by decide) dL_law_330 ?_
        refine x_iadd (pc := 331) g dL_law_331 ?_
        refine x_sld (pc := 332) g hX hbl hbA hL dL_law_332 (fun v25 => ?_)
        refine x_aload_n (pc := 333) g rfl 0 rfl dL_law_333 ?_
        refine x_iload_n (pc := 334) g rfl 3 rfl dL_law_334 ?_
        refine x_iconst (pc := 335) (v := (2 : Int32)) g (by decide) dL_law_335 ?_
        refine x_iadd (pc := 336) g dL_law_336 ?_
        refine x_sld (pc := 337) g hX hbl hbA hL dL_law_337 (fun v26 => ?_)
        refine x_callVI (pc := 338) (hkc := hkc) (As := [.int v25, .int v26]) g sh_0 (mc_X9_of v25 v26) cw_X9_of lk_L_27 rfl ⟨Nat.le_of_ble_eq_true rfl, Nat.le_of_ble_eq_true rfl⟩ rfl (Nat.le_of_ble_eq_true rfl) dL_law_338 (fun v27 σ9 => ?_)
        refine x_aload_n (pc := 341) g rfl 2 rfl dL_law_341 ?_
        refine x_aload_n (pc := 342) g rfl 0 rfl dL_law_342 ?_
        refine x_iload_n (pc := 343) g rfl 3 rfl dL_law_343 ?_
        refine x_iconst (pc := 344) (v := (1 : Int32)) g (by decide) dL_law_344 ?_
        refine x_iadd (pc := 345) g dL_law_345 ?_
        refine x_sld (pc := 346) g hX hbl hbA hL dL_law_346 (fun v28 => ?_)
        refine x_aload_n (pc := 347) g rfl 0 rfl dL_law_347 ?_
        refine x_iload_n (pc := 348) g rfl 3 rfl dL_law_348 ?_
        refine x_iconst (pc := 349) (v := (2 : Int32)) g (by decide) dL_law_349 ?_
        refine x_iadd (pc := 350) g dL_law_350 ?_
        refine x_sld (pc := 351) g hX hbl hbA hL dL_law_351 (fun v29 => ?_)
        refine x_callVI (pc := 352) (hkc := hkc) (As := [.int v28, .int v29]) g sh_103 (mc_X10_of v28 v29) cw_X10_of lk_L_30 rfl ⟨Nat.le_of_ble_eq_true rfl, Nat.le_of_ble_eq_true rfl⟩ rfl (Nat.le_of_ble_eq_true rfl) dL_law_352 (fun v30 σ10 => ?_)
        refine x_icmp_eq (pc := 355) (tgt := 1519) g (by decide) dL_law_355 ?_ ?_
        · exact hj1519 σ10
        · refine x_iconst (pc := 358) (v := (0 : Int32)) g (by decide) dL_law_358 ?_
          exact x_lwret (pc := 359) hbA2 g hrt hcl dL_law_359
      refine x_eqs ?_ (fun hs5 => ?_)
      · refine x_tabIn (pc := 33) (tgt := 360) (off := 327) g (by decide) (by decide) dL_law_33 ?_
        refine x_aload_n (pc := 360) g rfl 1 rfl dL_law_360 ?_
        refine x_aload_n (pc := 361) g rfl 0 rfl dL_law_361 ?_
        refine x_iload_n (pc := 362) g rfl 3 rfl dL_law_362 ?_
        refine x_iconst (pc := 363) (v := (1 : Int32)) g (by decide) dL_law_363 ?_
        refine x_iadd (pc := 364) g dL_law_364 ?_
        refine x_sld (pc := 365) g hX hbl hbA hL dL_law_365 (fun v31 => ?_)
        refine x_aload_n (pc := 366) g rfl 0 rfl dL_law_366 ?_
        refine x_iload_n (pc := 367) g rfl 3 rfl dL_law_367 ?_
        refine x_iconst (pc := 368) (v := (2 : Int32)) g (by decide) dL_law_368 ?_
        refine x_iadd (pc := 369) g dL_law_369 ?_
        refine x_sld (pc := 370) g hX hbl hbA hL dL_law_370 (fun v32 => ?_)
        refine x_callVI (pc := 371) (hkc := hkc) (As := [.int v31, .int v32]) g sh_0 (mc_X9_place v31 v32) cw_X9_place lk_L_31 rfl ⟨Nat.le_of_ble_eq_true rfl, Nat.le_of_ble_eq_true rfl⟩ rfl (Nat.le_of_ble_eq_true rfl) dL_law_371 (fun v33 σ11 => ?_)
        refine x_aload_n (pc := 374) g rfl 2 rfl dL_law_374 ?_
        refine x_aload_n (pc := 375) g rfl 0 rfl dL_law_375 ?_
        refine x_iload_n (pc := 376) g rfl 3 rfl dL_law_376 ?_
        refine x_iconst (pc := 377) (v := (1 : Int32)) g (by decide) dL_law_377 ?_
        refine x_iadd (pc := 378) g dL_law_378 ?_
        refine x_sld (pc := 379) g hX hbl hbA hL dL_law_379 (fun v34 => ?_)
        refine x_aload_n (pc := 380) g rfl 0 rfl dL_law_380 ?_
        refine x_iload_n (pc := 381) g rfl 3 rfl dL_law_381 ?_
        refine x_iconst (pc := 382) (v := (2 : Int32)) g (by decide) dL_law_382 ?_
        refine x_iadd (pc := 383) g dL_law_383 ?_
        refine x_sld (pc := 384) g hX hbl hbA hL dL_law_384 (fun v35 => ?_)
        refine x_callVI (pc := 385) (hkc := hkc) (As := [.int v34, .int v35]) g sh_103 (mc_X10_place v34 v35) cw_X10_place lk_L_34 rfl ⟨Nat.le_of_ble_eq_true rfl, Nat.le_of_ble_eq_true rfl⟩ rfl (Nat.le_of_ble_eq_true rfl) dL_law_385 (fun v36 σ12 => ?_)
        refine x_icmp_eq (pc := 388) (tgt := 1519) g (by decide) dL_law_388 ?_ ?_
        · exact hj1519 σ12
        · refine x_iconst (pc := 391) (v := (0 : Int32)) g (by decide) dL_law_391 ?_
          exact x_lwret (pc := 392) hbA2 g hrt hcl dL_law_392
      refine x_eqs ?_ (fun hs6 => ?_)
      · refine x_tabIn (pc := 33) (tgt := 393) (off := 360) g (by decide) (by decide) dL_law_33 ?_
        refine x_aload_n (pc := 393) g rfl 1 rfl dL_law_393 ?_
        refine x_aload_n (pc := 394) g rfl 0 rfl dL_law_394 ?_
        refine x_iload_n (pc := 395) g rfl 3 rfl dL_law_395 ?_
        refine x_iconst (pc := 396) (v := (1 : Int32)) g (by decide) dL_law_396 ?_
        refine x_iadd (pc := 397) g dL_law_397 ?_
        refine x_sld (pc := 398) g hX hbl hbA hL dL_law_398 (fun v37 => ?_)
        refine x_callVI (pc := 399) (hkc := hkc) (As := [.int v37]) g sh_0 (mc_X9_feed v37) cw_X9_feed lk_L_35 rfl ⟨Nat.le_of_ble_eq_true rfl, Nat.le_of_ble_eq_true rfl⟩ rfl (Nat.le_of_ble_eq_true rfl) dL_law_399 (fun v38 σ13 => ?_)
        refine x_aload_n (pc := 402) g rfl 2 rfl dL_law_402 ?_
        refine x_aload_n (pc := 403) g rfl 0 rfl dL_law_403 ?_
        refine x_iload_n (pc := 404) g rfl 3 rfl dL_law_404 ?_
        refine x_iconst (pc := 405) (v := (1 : Int32)) g (by decide) dL_law_405 ?_
        refine x_iadd (pc := 406) g dL_law_406 ?_
        refine x_sld (pc := 407) g hX hbl hbA hL dL_law_407 (fun v39 => ?_)
        refine x_callVI (pc := 408) (hkc := hkc) (As := [.int v39]) g sh_103 (mc_X10_feed v39) cw_X10_feed lk_L_39 rfl ⟨Nat.le_of_ble_eq_true rfl, Nat.le_of_ble_eq_true rfl⟩ rfl (Nat.le_of_ble_eq_true rfl) dL_law_408 (fun v40 σ14 => ?_)
        refine x_icmp_eq (pc := 411) (tgt := 1519) g (by decide) dL_law_411 ?_ ?_
        · exact hj1519 σ14
        · refine x_iconst (pc := 414) (v := (0 : Int32)) g (by decide) dL_law_414 ?_
          exact x_lwret (pc := 415) hbA2 g hrt hcl dL_law_415
      refine x_eqs ?_ (fun hs7 => ?_)
      · refine x_tabIn (pc := 33) (tgt := 416) (off := 383) g (by decide) (by decide) dL_law_33 ?_
        refine x_aload_n (pc := 416) g rfl 1 rfl dL_law_416 ?_
        refine x_callVI (pc := 417) (hkc := hkc) (As := []) g sh_0 (mc_X9_law N ) cw_X9_law lk_L_40 rfl ⟨Nat.le_of_ble_eq_true rfl, Nat.le_of_ble_eq_true rfl⟩ rfl (Nat.le_of_ble_eq_true rfl) dL_law_417 (fun v41 σ15 => ?_)
        refine x_aload_n (pc := 420) g rfl 2 rfl dL_law_420 ?_
        refine x_callVI (pc := 421) (hkc := hkc) (As := []) g sh_103 (mc_X10_law N ) cw_X10_law lk_L_44 rfl ⟨Nat.le_of_ble_eq_true rfl, Nat.le_of_ble_eq_true rfl⟩ rfl (Nat.le_of_ble_eq_true rfl) dL_law_421 (fun v42 σ16 => ?_)
        refine x_icmp_eq (pc := 424) (tgt := 1519) g (by decide) dL_law_424 ?_ ?_
        · exact hj1519 σ16
        · refine x_iconst (pc := 427) (v := (0 : Int32)) g (by decide) dL_law_427 ?_
          exact x_lwret (pc := 428) hbA2 g hrt hcl dL_law_428
      refine x_eqs ?_ (fun hs8 => ?_)
      · refine x_tabIn (pc := 33) (tgt := 429) (off := 396) g (by decide) (by decide) dL_law_33 ?_
        refine x_aload_n (pc := 429) g rfl 1 rfl dL_law_429 ?_
        refine x_aload_n (pc := 430) g rfl 0 rfl dL_law_430 ?_
        refine x_iload_n (pc := 431) g rfl 3 rfl dL_law_431 ?_
        refine x_iconst (pc := 432) (v := (1 : Int32)) g (by decide) dL_law_432 ?_
        refine x_iadd (pc := 433) g dL_law_433 ?_
        refine x_sld (pc := 434) g hX hbl hbA hL dL_law_434 (fun v43 => ?_)
        refine x_callVI (pc := 435) (hkc := hkc) (As := [.int v43]) g sh_0 (mc_X9_holding N v43) cw_X9_holding lk_L_45 rfl ⟨Nat.le_of_ble_eq_true rfl, Nat.le_of_ble_eq_true rfl⟩ rfl (Nat.le_of_ble_eq_true rfl) dL_law_435 (fun v44 σ17 => ?_)
        refine x_aload_n (pc := 438) g rfl 2 rfl dL_law_438 ?_
        refine x_aload_n (pc := 439) g rfl 0 rfl dL_law_439 ?_
        refine x_iload_n (pc := 440) g rfl 3 rfl dL_law_440 ?_
        refine x_iconst (pc := 441) (v := (1 : Int32)) g (by decide) dL_law_441 ?_
        refine x_iadd (pc := 442) g dL_law_442 ?_
        refine x_sld (pc := 443) g hX hbl hbA hL dL_law_443 (fun v45 => ?_)
        refine x_callVI (pc := 444) (hkc := hkc) (As := [.int v45]) g sh_103 (mc_X10_holding N v45) cw_X10_holding lk_L_48 rfl ⟨Nat.le_of_ble_eq_true rfl, Nat.le_of_ble_eq_true rfl⟩ rfl (Nat.le_of_ble_eq_true rfl) dL_law_444 (fun v46 σ18 => ?_)
        refine x_icmp_eq (pc := 447) (tgt := 1519) g (by decide) dL_law_447 ?_ ?_
        · exact hj1519 σ18
        · refine x_iconst (pc := 450) (v := (0 : Int32)) g (by decide) dL_law_450 ?_
          exact x_lwret (pc := 451) hbA2 g hrt hcl dL_law_451
      refine x_eqs ?_ (fun hs9 => ?_)
      · refine x_tabIn (pc := 33) (tgt := 452) (off := 419) g (by decide) (by decide) dL_law_33 ?_
        refine x_aload_n (pc := 452) g rfl 1 rfl dL_law_452 ?_
        refine x_aload_n (pc := 453) g rfl 0 rfl dL_law_453 ?_
        refine x_iload_n (pc := 454) g rfl 3 rfl dL_law_454 ?_
        refine x_iconst (pc := 455) (v := (1 : Int32)) g (by decide) dL_law_455 ?_
        refine x_iadd (pc := 456) g dL_law_456 ?_
        refine x_sld (pc := 457) g hX hbl hbA hL dL_law_457 (fun v47 => ?_)
        refine x_aload_n (pc := 458) g rfl 0 rfl dL_law_458 ?_
        refine x_iload_n (pc := 459) g rfl 3 rfl dL_law_459 ?_
        refine x_iconst (pc := 460) (v := (2 : Int32)) g (by decide) dL_law_460 ?_
        refine x_iadd (pc := 461) g dL_law_461 ?_
        refine x_sld (pc := 462) g hX hbl hbA hL dL_law_462 (fun v48 => ?_)
        refine x_callVI (pc := 463) (hkc := hkc) (As := [.int v47, .int v48]) g sh_0 (mc_X9_day N v47 v48) cw_X9_day lk_L_49 rfl ⟨Nat.le_of_ble_eq_true rfl, Nat.le_of_ble_eq_true rfl⟩ rfl (Nat.le_of_ble_eq_true rfl) dL_law_463 (fun v49 σ19 => ?_)
        refine x_aload_n (pc := 466) g rfl 2 rfl dL_law_466 ?_
        refine x_aload_n (pc := 467) g rfl 0 rfl dL_law_467 ?_
        refine x_iload_n (pc := 468) g rfl 3 rfl dL_law_468 ?_
        refine x_iconst (pc := 469) (v := (1 : Int32)) g (by decide) dL_law_469 ?_
        refine x_iadd (pc := 470) g dL_law_470 ?_
        refine x_sld (pc := 471) g hX hbl hbA hL dL_law_471 (fun v50 => ?_)
        refine x_aload_n (pc := 472) g rfl 0 rfl dL_law_472 ?_
        refine x_iload_n (pc := 473) g rfl 3 rfl dL_law_473 ?_
        refine x_iconst (pc := 474) (v := (2 : Int32)) g (by decide) dL_law_474 ?_
        refine x_iadd (pc := 475) g dL_law_475 ?_
        refine x_sld (pc := 476) g hX hbl hbA hL dL_law_476 (fun v51 => ?_)
        refine x_callVI (pc := 477) (hkc := hkc) (As := [.int v50, .int v51]) g sh_103 (mc_X10_day N v50 v51) cw_X10_day lk_L_52 rfl ⟨Nat.le_of_ble_eq_true rfl, Nat.le_of_ble_eq_true rfl⟩ rfl (Nat.le_of_ble_eq_true rfl) dL_law_477 (fun v52 σ20 => ?_)
        refine x_icmp_eq (pc := 480) (tgt := 1519) g (by decide) dL_law_480 ?_ ?_
        · exact hj1519 σ20
        · refine x_iconst (pc := 483) (v := (0 : Int32)) g (by decide) dL_law_483 ?_
          exact x_lwret (pc := 484) hbA2 g hrt hcl dL_law_484
      refine x_eqs ?_ (fun hs10 => ?_)
      · refine x_tabIn (pc := 33) (tgt := 485) (off := 452) g (by decide) (by decide) dL_law_33 ?_
        refine x_aload_n (pc := 485) g rfl 1 rfl dL_law_485 ?_
        refine x_aload_n (pc := 486) g rfl 0 rfl dL_law_486 ?_
        refine x_iload_n (pc := 487) g rfl 3 rfl dL_law_487 ?_
        refine x_iconst (pc := 488) (v := (1 : Int32)) g (by decide) dL_law_488 ?_
        refine x_iadd (pc := 489) g dL_law_489 ?_
        refine x_sld (pc := 490) g hX hbl hbA hL dL_law_490 (fun v53 => ?_)
        refine x_aload_n (pc := 491) g rfl 0 rfl dL_law_491 ?_
        refine x_iload_n (pc := 492) g rfl 3 rfl dL_law_492 ?_
        refine x_iconst (pc := 493) (v := (2 : Int32)) g (by decide) dL_law_493 ?_
        refine x_iadd (pc := 494) g dL_law_494 ?_
        refine x_sld (pc := 495) g hX hbl hbA hL dL_law_495 (fun v54 => ?_)
        refine x_aload_n (pc := 496) g rfl 0 rfl dL_law_496 ?_
        refine x_iload_n (pc := 497) g rfl 3 rfl dL_law_497 ?_
        refine x_iconst (pc := 498) (v := (3 : Int32)) g (by decide) dL_law_498 ?_
        refine x_iadd (pc := 499) g dL_law_499 ?_
        refine x_sld (pc := 500) g hX hbl hbA hL dL_law_500 (fun v55 => ?_)
        refine x_callVI (pc := 501) (hkc := hkc) (As := [.int v53, .int v54, .int v55]) g sh_0 (mc_X9_where N v53 v54 v55) cw_X9_where lk_L_53 rfl ⟨Nat.le_of_ble_eq_true rfl, Nat.le_of_ble_eq_true rfl⟩ rfl (Nat.le_of_ble_eq_true rfl) dL_law_501 (fun v56 σ21 => ?_)
        refine x_aload_n (pc := 504) g rfl 2 rfl dL_law_504 ?_
        refine x_aload_n (pc := 505) g rfl 0 rfl dL_law_505 ?_
        refine x_iload_n (pc := 506) g rfl 3 rfl dL_law_506 ?_
        refine x_iconst (pc := 507) (v := (1 : Int32)) g (by decide) dL_law_507 ?_
        refine x_iadd (pc := 508) g dL_law_508 ?_
        refine x_sld (pc := 509) g hX hbl hbA hL dL_law_509 (fun v57 => ?_)
        refine x_aload_n (pc := 510) g rfl 0 rfl dL_law_510 ?_
        refine x_iload_n (pc := 511) g rfl 3 rfl dL_law_511 ?_
        refine x_iconst (pc := 512) (v := (2 : Int32)) g (by decide) dL_law_512 ?_
        refine x_iadd (pc := 513) g dL_law_513 ?_
        refine x_sld (pc := 514) g hX hbl hbA hL dL_law_514 (fun v58 => ?_)
        refine x_aload_n (pc := 515) g rfl 0 rfl dL_law_515 ?_
        refine x_iload_n (pc := 516) g rfl 3 rfl dL_law_516 ?_
        refine x_iconst (pc := 517) (v := (3 : Int32)) g (by decide) dL_law_517 ?_
        refine x_iadd (pc := 518) g dL_law_518 ?_
        refine x_sld (pc := 519) g hX hbl hbA hL dL_law_519 (fun v59 => ?_)
        refine x_callVI (pc := 520) (hkc := hkc) (As := [.int v57, .int v58, .int v59]) g sh_103 (mc_X10_where N v57 v58 v59) cw_X10_where lk_L_56 rfl ⟨Nat.le_of_ble_eq_true rfl, Nat.le_of_ble_eq_true rfl⟩ rfl (Nat.le_of_ble_eq_true rfl) dL_law_520 (fun v60 σ22 => ?_)
        refine x_icmp_eq (pc := 523) (tgt := 1519) g (by decide) dL_law_523 ?_ ?_
        · exact hj1519 σ22
        · refine x_iconst (pc := 526) (v := (0 : Int32)) g (by decide) dL_law_526 ?_
          exact x_lwret (pc := 527) hbA2 g hrt hcl dL_law_527
      refine x_eqs ?_ (fun hs11 => ?_)
      · refine x_tabIn (pc := 33) (tgt := 528) (off := 495) g (by decide) (by decide) dL_law_33 ?_
        refine x_aload_n (pc := 528) g rfl 1 rfl dL_law_528 ?_
        refine x_aload_n (pc := 529) g rfl 0 rfl dL_law_529 ?_
        refine x_iload_n (pc := 530) g rfl 3 rfl dL_law_530 ?_
        refine x_iconst (pc := 531) (v := (1 : Int32)) g (by decide) dL_law_531 ?_
        refine x_iadd (pc := 532) g dL_law_532 ?_
        refine x_sld (pc := 533) g hX hbl hbA hL dL_law_533 (fun v61 => ?_)
        refine x_aload_n (pc := 534) g rfl 0 rfl dL_law_534 ?_
        refine x_iload_n (pc := 535) g rfl 3 rfl dL_law_535 ?_
        refine x_iconst (pc := 536) (v := (2 : Int32)) g (by decide) dL_law_536 ?_
        refine x_iadd (pc := 537) g dL_law_537 ?_
        refine x_sld (pc := 538) g hX hbl hbA hL dL_law_538 (fun v62 => ?_)
        refine x_aload_n (pc := 539) g rfl 0 rfl dL_law_539 ?_
        refine x_iload_n (pc := 540) g rfl 3 rfl dL_law_540 ?_
        refine x_iconst (pc := 541) (v := (3 : Int32)) g (by decide) dL_law_541 ?_
        refine x_iadd (pc := 542) g dL_law_542 ?_
        refine x_sld (pc := 543) g hX hbl hbA hL dL_law_543 (fun v63 => ?_)
        refine x_callVI (pc := 544) (hkc := hkc) (As := [.int v61, .int v62, .int v63]) g sh_0 (mc_X9_sees N v61 v62 v63) cw_X9_sees lk_L_57 rfl ⟨Nat.le_of_ble_eq_true rfl, Nat.le_of_ble_eq_true rfl⟩ rfl (Nat.le_of_ble_eq_true rfl) dL_law_544 (fun v64 σ23 => ?_)
        refine x_aload_n (pc := 547) g rfl 2 rfl dL_law_547 ?_
        refine x_aload_n (pc := 548) g rfl 0 rfl dL_law_548 ?_
        refine x_iload_n (pc := 549) g rfl 3 rfl dL_law_549 ?_
        refine x_iconst (pc := 550) (v := (1 : Int32)) g (by decide) dL_law_550 ?_
        refine x_iadd (pc := 551) g dL_law_551 ?_
        refine x_sld (pc := 552) g hX hbl hbA hL dL_law_552 (fun v65 => ?_)
        refine x_aload_n (pc := 553) g rfl 0 rfl dL_law_553 ?_
        refine x_iload_n (pc := 554) g rfl 3 rfl dL_law_554 ?_
        refine x_iconst (pc := 555) (v := (2 : Int32)) g (by decide) dL_law_555 ?_
        refine x_iadd (pc := 556) g dL_law_556 ?_
        refine x_sld (pc := 557) g hX hbl hbA hL dL_law_557 (fun v66 => ?_)
        refine x_aload_n (pc := 558) g rfl 0 rfl dL_law_558 ?_
        refine x_iload_n (pc := 559) g rfl 3 rfl dL_law_559 ?_
        refine x_iconst (pc := 560) (v := (3 : Int32)) g (by decide) dL_law_560 ?_
        refine x_iadd (pc := 561) g dL_law_561 ?_
        refine x_sld (pc := 562) g hX hbl hbA hL dL_law_562 (fun v67 => ?_)
        refine x_callVI (pc := 563) (hkc := hkc) (As := [.int v65, .int v66, .int v67]) g sh_103 (mc_X10_sees N v65 v66 v67) cw_X10_sees lk_L_60 rfl ⟨Nat.le_of_ble_eq_true rfl, Nat.le_of_ble_eq_true rfl⟩ rfl (Nat.le_of_ble_eq_true rfl) dL_law_563 (fun v68 σ24 => ?_)
        refine x_icmp_eq (pc := 566) (tgt := 1519) g (by decide) dL_law_566 ?_ ?_
        · exact hj1519 σ24
        · refine x_iconst (pc := 569) (v := (0 : Int32)) g (by decide) dL_law_569 ?_
          exact x_lwret (pc := 570) hbA2 g hrt hcl dL_law_570
      refine x_eqs ?_ (fun hs12 => ?_)
      · refine x_tabIn (pc := 33) (tgt := 571) (off := 538) g (by decide) (by decide) dL_law_33 ?_
        refine x_aload_n (pc := 571) g rfl 1 rfl dL_law_571 ?_
        refine x_aload_n (pc := 572) g rfl 0 rfl dL_law_572 ?_
        refine x_iload_n (pc := 573) g rfl 3 rfl dL_law_573 ?_
        refine x_iconst (pc := 574) (v := (1 : Int32)) g (by decide) dL_law_574 ?_
        refine x_iadd (pc := 575) g dL_law_575 ?_
        refine x_sld (pc := 576) g hX hbl hbA hL dL_law_576 (fun v69 => ?_)
        refine x_aload_n (pc := 577) g rfl 0 rfl dL_law_577 ?_
        refine x_iload_n (pc := 578) g rfl 3 rfl dL_law_578 ?_
        refine x_iconst (pc := 579) (v := (2 : Int32)) g (by decide) dL_law_579 ?_
        refine x_iadd (pc := 580) g dL_law_580 ?_
        refine x_sld (pc := 581) g hX hbl hbA hL dL_law_581 (fun v70 => ?_)
        refine x_callVI (pc := 582) (hkc := hkc) (As := [.int v69, .int v70]) g sh_0 (mc_X9_takes N v69 v70) cw_X9_takes lk_L_61 rfl ⟨Nat.le_of_ble_eq_true rfl, Nat.le_of_ble_eq_true rfl⟩ rfl (Nat.le_of_ble_eq_true rfl) dL_law_582 (fun v71 σ25 => ?_)
        refine x_aload_n (pc := 585) g rfl 2 rfl dL_law_585 ?_
        refine x_aload_n (pc := 586) g rfl 0 rfl dL_law_586 ?_
        refine x_iload_n (pc := 587) g rfl 3 rfl dL_law_587 ?_
        refine x_iconst (pc := 588) (v := (1 : Int32)) g (by decide) dL_law_588 ?_
        refine x_iadd (pc := 589) g dL_law_589 ?_
        refine x_sld (pc := 590) g hX hbl hbA hL dL_law_590 (fun v72 => ?_)
        refine x_aload_n (pc := 591) g rfl 0 rfl dL_law_591 ?_
        refine x_iload_n (pc := 592) g rfl 3 rfl dL_law_592 ?_
        refine x_iconst (pc := 593) (v := (2 : Int32)) g (by decide) dL_law_593 ?_
        refine x_iadd (pc := 594) g dL_law_594 ?_
        refine x_sld (pc := 595) g hX hbl hbA hL dL_law_595 (fun v73 => ?_)
        refine x_callVI (pc := 596) (hkc := hkc) (As := [.int v72, .int v73]) g sh_103 (mc_X10_takes N v72 v73) cw_X10_takes lk_L_64 rfl ⟨Nat.le_of_ble_eq_true rfl, Nat.le_of_ble_eq_true rfl⟩ rfl (Nat.le_of_ble_eq_true rfl) dL_law_596 (fun v74 σ26 => ?_)
        refine x_icmp_eq (pc := 599) (tgt := 1519) g (by decide) dL_law_599 ?_ ?_
        · exact hj1519 σ26
        · refine x_iconst (pc := 602) (v := (0 : Int32)) g (by decide) dL_law_602 ?_
          exact x_lwret (pc := 603) hbA2 g hrt hcl dL_law_603
      refine x_eqs ?_ (fun hs13 => ?_)
      · refine x_tabIn (pc := 33) (tgt := 604) (off := 571) g (by decide) (by decide) dL_law_33 ?_
        refine x_aload_n (pc := 604) g rfl 1 rfl dL_law_604 ?_
        refine x_aload_n (pc := 605) g rfl 0 rfl dL_law_605 ?_
        refine x_iload_n (pc := 606) g rfl 3 rfl dL_law_606 ?_
        refine x_iconst (pc := 607) (v := (1 : Int32)) g (by decide) dL_law_607 ?_
        refine x_iadd (pc := 608) g dL_law_608 ?_
        refine x_sld (pc := 609) g hX hbl hbA hL dL_law_609 (fun v75 => ?_)
        refine x_aload_n (pc := 610) g rfl 0 rfl dL_law_610 ?_
        refine x_iload_n (pc := 611) g rfl 3 rfl dL_law_611 ?_
        refine x_iconst (pc := 612) (v := (2 : Int32)) g (by decide) dL_law_612 ?_
        refine x_iadd (pc := 613) g dL_law_613 ?_
        refine x_sld (pc := 614) g hX hbl hbA hL dL_law_614 (fun v76 => ?_)
        refine x_callVI (pc := 615) (hkc := hkc) (As := [.int v75, .int v76]) g sh_0 (mc_X9_meet N v75 v76) cw_X9_meet lk_L_65 rfl ⟨Nat.le_of_ble_eq_true rfl, Nat.le_of_ble_eq_true rfl⟩ rfl (Nat.le_of_ble_eq_true rfl) dL_law_615 (fun v77 σ27 => ?_)
        refine x_aload_n (pc := 618) g rfl 2 rfl dL_law_618 ?_
        refine x_aload_n (pc := 619) g rfl 0 rfl dL_law_619 ?_
        refine x_iload_n (pc := 620) g rfl 3 rfl dL_law_620 ?_
        refine x_iconst (pc := 621) (v := (1 : Int32)) g (by decide) dL_law_621 ?_
        refine x_iadd (pc := 622) g dL_law_622 ?_
        refine x_sld (pc := 623) g hX hbl hbA hL dL_law_623 (fun v78 => ?_)
        refine x_aload_n (pc := 624) g rfl 0 rfl dL_law_624 ?_
        refine x_iload_n (pc := 625) g rfl 3 rfl dL_law_625 ?_
        refine x_iconst (pc := 626) (v := (2 : Int32)) g (by decide) dL_law_626 ?_
        refine x_iadd (pc := 627) g dL_law_627 ?_
        refine x_sld (pc := 628) g hX hbl hbA hL dL_law_628 (fun v79 => ?_)
        refine x_callVI (pc := 629) (hkc := hkc) (As := [.int v78, .int v79]) g sh_103 (mc_X10_meet N v78 v79) cw_X10_meet lk_L_68 rfl ⟨Nat.le_of_ble_eq_true rfl, Nat.le_of_ble_eq_true rfl⟩ rfl (Nat.le_of_ble_eq_true rfl) dL_law_629 (fun v80 σ28 => ?_)
        refine x_icmp_eq (pc := 632) (tgt := 1519) g (by decide) dL_law_632 ?_ ?_
        · exact hj1519 σ28
        · refine x_iconst (pc := 635) (v := (0 : Int32)) g (by decide) dL_law_635 ?_
          exact x_lwret (pc := 636) hbA2 g hrt hcl dL_law_636
      refine x_eqs ?_ (fun hs14 => ?_)
      · refine x_tabIn (pc := 33) (tgt := 637) (off := 604) g (by decide) (by decide) dL_law_33 ?_
        refine x_aload_n (pc := 637) g rfl 1 rfl dL_law_637 ?_
        refine x_aload_n (pc := 638) g rfl 0 rfl dL_law_638 ?_
        refine x_iload_n (pc := 639) g rfl 3 rfl dL_law_639 ?_
        refine x_iconst (pc := 640) (v := (1 : Int32)) g (by decide) dL_law_640 ?_
        refine x_iadd (pc := 641) g dL_law_641 ?_
        refine x_sld (pc := 642) g hX hbl hbA hL dL_law_642 (fun v81 => ?_)
        refine x_aload_n (pc := 643) g rfl 0 rfl dL_law_643 ?_
        refine x_iload_n (pc := 644) g rfl 3 rfl dL_law_644 ?_
        refine x_iconst (pc := 645) (v := (2 : Int32)) g (by decide) dL_law_645 ?_
        refine x_iadd (pc := 646) g dL_law_646 ?_
        refine x_sld (pc := 647) g hX hbl hbA hL dL_law_647 (fun v82 => ?_)
        refine x_callVI (pc := 648) (hkc := hkc) (As := [.int v81, .int v82]) g sh_0 (mc_X9_sure N v81 v82) cw_X9_sure lk_L_69 rfl ⟨Nat.le_of_ble_eq_true rfl, Nat.le_of_ble_eq_true rfl⟩ rfl (Nat.le_of_ble_eq_true rfl) dL_law_648 (fun v83 σ29 => ?_)
        refine x_aload_n (pc := 651) g rfl 2 rfl dL_law_651 ?_
        refine x_aload_n (pc := 652) g rfl 0 rfl dL_law_652 ?_
        refine x_iload_n (pc := 653) g rfl 3 rfl dL_law_653 ?_
        refine x_iconst (pc := 654) (v := (1 : Int32)) g (by decide) dL_law_654 ?_
        refine x_iadd (pc := 655) g dL_law_655 ?_
        refine x_sld (pc := 656) g hX hbl hbA hL dL_law_656 (fun v84 => ?_)
        refine x_aload_n (pc := 657) g rfl 0 rfl dL_law_657 ?_
        refine x_iload_n (pc := 658) g rfl 3 rfl dL_law_658 ?_
        refine x_iconst (pc := 659) (v := (2 : Int32)) g (by decide) dL_law_659 ?_
        refine x_iadd (pc := 660) g dL_law_660 ?_
        refine x_sld (pc := 661) g hX hbl hbA hL dL_law_661 (fun v85 => ?_)
        refine x_callVI (pc := 662) (hkc := hkc) (As := [.int v84, .int v85]) g sh_103 (mc_X10_sure N v84 v85) cw_X10_sure lk_L_72 rfl ⟨Nat.le_of_ble_eq_true rfl, Nat.le_of_ble_eq_true rfl⟩ rfl (Nat.le_of_ble_eq_true rfl) dL_law_662 (fun v86 σ30 => ?_)
        refine x_icmp_eq (pc := 665) (tgt := 1519) g (by decide) dL_law_665 ?_ ?_
        · exact hj1519 σ30
        · refine x_iconst (pc := 668) (v := (0 : Int32)) g (by decide) dL_law_668 ?_
          exact x_lwret (pc := 669) hbA2 g hrt hcl dL_law_669
      refine x_eqs ?_ (fun hs15 => ?_)
      · refine x_tabIn (pc := 33) (tgt := 670) (off := 637) g (by decide) (by decide) dL_law_33 ?_
        refine x_aload_n (pc := 670) g rfl 1 rfl dL_law_670 ?_
        refine x_aload_n (pc := 671) g rfl 0 rfl dL_law_671 ?_
        refine x_iload_n (pc := 672) g rfl 3 rfl dL_law_672 ?_
        refine x_iconst (pc := 673) (v := (1 : Int32)) g (by decide) dL_law_673 ?_
        refine x_iadd (pc := 674) g dL_law_674 ?_
        refine x_sld (pc := 675) g hX hbl hbA hL dL_law_675 (fun v87 => ?_)
        refine x_aload_n (pc := 676) g rfl 0 rfl dL_law_676 ?_
        refine x_iload_n (pc := 677) g rfl 3 rfl dL_law_677 ?_
        refine x_iconst (pc := 678) (v := (2 : Int32)) g (by decide) dL_law_678 ?_
        refine x_iadd (pc := 679) g dL_law_679 ?_
        refine x_sld (pc := 680) g hX hbl hbA hL dL_law_680 (fun v88 => ?_)
        refine x_callVI (pc := 681) (hkc := hkc) (As := [.int v87, .int v88]) g sh_0 (mc_X9_follow N v87 v88) cw_X9_follow lk_L_73 rfl ⟨Nat.le_of_ble_eq_true rfl, Nat.le_of_ble_eq_true rfl⟩ rfl (Nat.le_of_ble_eq_true rfl) dL_law_681 (fun v89 σ31 => ?_)
        refine x_aload_n (pc := 684) g rfl 2 rfl dL_law_684 ?_
        refine x_aload_n (pc := 685) g rfl 0 rfl dL_law_685 ?_
        refine x_iload_n (pc := 686) g rfl 3 rfl dL_law_686 ?_
        refine x_iconst (pc := 687) (v := (1 : Int32)) g (by decide) dL_law_687 ?_
        refine x_iadd (pc := 688) g dL_law_688 ?_
        refine x_sld (pc := 689) g hX hbl hbA hL dL_law_689 (fun v90 => ?_)
        refine x_aload_n (pc := 690) g rfl 0 rfl dL_law_690 ?_
        refine x_iload_n (pc := 691) g rfl 3 rfl dL_law_691 ?_
        refine x_iconst (pc := 692) (v := (2 : Int32)) g (by decide) dL_law_692 ?_
        refine x_iadd (pc := 693) g dL_law_693 ?_
        refine x_sld (pc := 694) g hX hbl hbA hL dL_law_694 (fun v91 => ?_)
        refine x_callVI (pc := 695) (hkc := hkc) (As := [.int v90, .int v91]) g sh_103 (mc_X10_follow N v90 v91) cw_X10_follow lk_L_76 rfl ⟨Nat.le_of_ble_eq_true rfl, Nat.le_of_ble_eq_true rfl⟩ rfl (Nat.le_of_ble_eq_true rfl) dL_law_695 (fun v92 σ32 => ?_)
        refine x_icmp_eq (pc := 698) (tgt := 1519) g (by decide) dL_law_698 ?_ ?_
        · exact hj1519 σ32
        · refine x_iconst (pc := 701) (v := (0 : Int32)) g (by decide) dL_law_701 ?_
          exact x_lwret (pc := 702) hbA2 g hrt hcl dL_law_702
      refine x_eqs ?_ (fun hs16 => ?_)
      · refine x_tabIn (pc := 33) (tgt := 703) (off := 670) g (by decide) (by decide) dL_law_33 ?_
        refine x_aload_n (pc := 703) g rfl 1 rfl dL_law_703 ?_
        refine x_aload_n (pc := 704) g rfl 0 rfl dL_law_704 ?_
        refine x_iload_n (pc := 705) g rfl 3 rfl dL_law_705 ?_
        refine x_iconst (pc := 706) (v := (1 : Int32)) g (by decide) dL_law_706 ?_
        refine x_iadd (pc := 707) g dL_law_707 ?_
        refine x_sld (pc := 708) g hX hbl hbA hL dL_law_708 (fun v93 => ?_)
        refine x_aload_n (pc := 709) g rfl 0 rfl dL_law_709 ?_
        refine x_iload_n (pc := 710) g rfl 3 rfl dL_law_710 ?_
        refine x_iconst (pc := 711) (v := (2 : Int32)) g (by decide) dL_law_711 ?_
        refine x_iadd (pc := 712) g dL_law_712 ?_
        refine x_sld (pc := 713) g hX hbl hbA hL dL_law_713 (fun v94 => ?_)
        refine x_callVI (pc := 714) (hkc := hkc) (As := [.int v93, .int v94]) g sh_0 (mc_X9_read N v93 v94) cw_X9_read lk_L_77 rfl ⟨Nat.le_of_ble_eq_true rfl, Nat.le_of_ble_eq_true rfl⟩ rfl (Nat.le_of_ble_eq_true rfl) dL_law_714 (fun v95 σ33 => ?_)
        refine x_aload_n (pc := 717) g rfl 2 rfl dL_law_717 ?_
        refine x_aload_n (pc := 718) g rfl 0 rfl dL_law_718 ?_
        refine x_iload_n (pc := 719) g rfl 3 rfl dL_law_719 ?_
        refine x_iconst (pc := 720) (v := (1 : Int32)) g (by decide) dL_law_720 ?_
        refine x_iadd (pc := 721) g dL_law_721 ?_
        refine x_sld (pc := 722) g hX hbl hbA hL dL_law_722 (fun v96 => ?_)
        refine x_aload_n (pc := 723) g rfl 0 rfl dL_law_723 ?_
        refine x_iload_n (pc := 724) g rfl 3 rfl dL_law_724 ?_
        refine x_iconst (pc := 725) (v := (2 : Int32)) g (by decide) dL_law_725 ?_
        refine x_iadd (pc := 726) g dL_law_726 ?_
        refine x_sld (pc := 727) g hX hbl hbA hL dL_law_727 (fun v97 => ?_)
        refine x_callVI (pc := 728) (hkc := hkc) (As := [.int v96, .int v97]) g sh_103 (mc_X10_read N v96 v97) cw_X10_read lk_L_80 rfl ⟨Nat.le_of_ble_eq_true rfl, Nat.le_of_ble_eq_true rfl⟩ rfl (Nat.le_of_ble_eq_true rfl) dL_law_728 (fun v98 σ34 => ?_)
        refine x_icmp_eq (pc := 731) (tgt := 1519) g (by decide) dL_law_731 ?_ ?_
        · exact hj1519 σ34
        · refine x_iconst (pc := 734) (v := (0 : Int32)) g (by decide) dL_law_734 ?_
          exact x_lwret (pc := 735) hbA2 g hrt hcl dL_law_735
      refine x_eqs ?_ (fun hs17 => ?_)
      · refine x_tabIn (pc := 33) (tgt := 736) (off := 703) g (by decide) (by decide) dL_law_33 ?_
        refine x_aload_n (pc := 736) g rfl 1 rfl dL_law_736 ?_
        refine x_aload_n (pc := 737) g rfl 0 rfl dL_law_737 ?_
        refine x_iload_n (pc := 738) g rfl 3 rfl dL_law_738 ?_
        refine x_iconst (pc := 739) (v := (1 : Int32)) g (by decide) dL_law_739 ?_
        refine x_iadd (pc := 740) g dL_law_740 ?_
        refine x_sld (pc := 741) g hX hbl hbA hL dL_law_741 (fun v99 => ?_)
        refine x_callVI (pc := 742) (hkc := hkc) (As := [.int v99]) g sh_0 (mc_X9_look N v99) cw_X9_look lk_L_81 rfl ⟨Nat.le_of_ble_eq_true rfl, Nat.le_of_ble_eq_true rfl⟩ rfl (Nat.le_of_ble_eq_true rfl) dL_law_742 (fun v100 σ35 => ?_)
        refine x_aload_n (pc := 745) g rfl 2 rfl dL_law_745 ?_
        refine x_aload_n (pc := 746) g rfl 0 rfl dL_law_746 ?_
        refine x_iload_n (pc := 747) g rfl 3 rfl dL_law_747 ?_
        refine x_iconst (pc := 748) (v := (1 : Int32)) g (by decide) dL_law_748 ?_
        refine x_iadd (pc := 749) g dL_law_749 ?_
        refine x_sld (pc := 750) g hX hbl hbA hL dL_law_750 (fun v101 => ?_)
        refine x_callVI (pc := 751) (hkc := hkc) (As := [.int v101]) g sh_103 (mc_X10_look N v101) cw_X10_look lk_L_84 rfl ⟨Nat.le_of_ble_eq_true rfl, Nat.le_of_ble_eq_true rfl⟩ rfl (Nat.le_of_ble_eq_true rfl) dL_law_751 (fun v102 σ36 => ?_)
        refine x_icmp_eq (pc := 754) (tgt := 1519) g (by decide) dL_law_754 ?_ ?_
        · exact hj1519 σ36
        · refine x_iconst (pc := 757) (v := (0 : Int32)) g (by decide) dL_law_757 ?_
          exact x_lwret (pc := 758) hbA2 g hrt hcl dL_law_758
      refine x_eqs ?_ (fun hs18 => ?_)
      · refine x_tabIn (pc := 33) (tgt := 759) (off := 726) g (by decide) (by decide) dL_law_33 ?_
        refine x_aload_n (pc := 759) g rfl 1 rfl dL_law_759 ?_
        refine x_aload_n (pc := 760) g rfl 0 rfl dL_law_760 ?_
        refine x_iload_n (pc := 761) g rfl 3 rfl dL_law_761 ?_
        refine x_iconst (pc := 762) (v := (1 : Int32)) g (by decide) dL_law_762 ?_
        refine x_iadd (pc := 763) g dL_law_763 ?_
        refine x_sld (pc := 764) g hX hbl hbA hL dL_law_764 (fun v103 => ?_)
        refine x_aload_n (pc := 765) g rfl 0 rfl dL_law_765 ?_
        refine x_iload_n (pc := 766) g rfl 3 rfl dL_law_766 ?_
        refine x_iconst (pc := 767) (v := (2 : Int32)) g (by decide) dL_law_767 ?_
        refine x_iadd (pc := 768) g dL_law_768 ?_
        refine x_sld (pc := 769) g hX hbl hbA hL dL_law_769 (fun v104 => ?_)
        refine x_aload_n (pc := 770) g rfl 0 rfl dL_law_770 ?_
        refine x_iload_n (pc := 771) g rfl 3 rfl dL_law_771 ?_
        refine x_iconst (pc := 772) (v := (3 : Int32)) g (by decide) dL_law_772 ?_
        refine x_iadd (pc := 773) g dL_law_773 ?_
        refine x_sld (pc := 774) g hX hbl hbA hL dL_law_774 (fun v105 => ?_)
        refine x_callVI (pc := 775) (hkc := hkc) (As := [.int v103, .int v104, .int v105]) g sh_0 (mc_X9_cheapest N v103 v104 v105) cw_X9_cheapest lk_L_85 rfl ⟨Nat.le_of_ble_eq_true rfl, Nat.le_of_ble_eq_true rfl⟩ rfl (Nat.le_of_ble_eq_true rfl) dL_law_775 (fun v106 σ37 => ?_)
        refine x_aload_n (pc := 778) g rfl 2 rfl dL_law_778 ?_
        refine x_aload_n (pc := 779) g rfl 0 rfl dL_law_779 ?_
        refine x_iload_n (pc := 780) g rfl 3 rfl dL_law_780 ?_
        refine x_iconst (pc := 781) (v := (1 : Int32)) g (by decide) dL_law_781 ?_
        refine x_iadd (pc := 782) g dL_law_782 ?_
        refine x_sld (pc := 783) g hX hbl hbA hL dL_law_783 (fun v107 => ?_)
        refine x_aload_n (pc := 784) g rfl 0 rfl dL_law_784 ?_
        refine x_iload_n (pc := 785) g rfl 3 rfl dL_law_785 ?_
        refine x_iconst (pc := 786) (v := (2 : Int32)) g (by decide) dL_law_786 ?_
        refine x_iadd (pc := 787) g dL_law_787 ?_
        refine x_sld (pc := 788) g hX hbl hbA hL dL_law_788 (fun v108 => ?_)
        refine x_aload_n (pc := 789) g rfl 0 rfl dL_law_789 ?_
        refine x_iload_n (pc := 790) g rfl 3 rfl dL_law_790 ?_
        refine x_iconst (pc := 791) (v := (3 : Int32)) g (by decide) dL_law_791 ?_
        refine x_iadd (pc := 792) g dL_law_792 ?_
        refine x_sld (pc := 793) g hX hbl hbA hL dL_law_793 (fun v109 => ?_)
        refine x_callVI (pc := 794) (hkc := hkc) (As := [.int v107, .int v108, .int v109]) g sh_103 (mc_X10_cheapest N v107 v108 v109) cw_X10_cheapest lk_L_88 rfl ⟨Nat.le_of_ble_eq_true rfl, Nat.le_of_ble_eq_true rfl⟩ rfl (Nat.le_of_ble_eq_true rfl) dL_law_794 (fun v110 σ38 => ?_)
        refine x_icmp_eq (pc := 797) (tgt := 1519) g (by decide) dL_law_797 ?_ ?_
        · exact hj1519 σ38
        · refine x_iconst (pc := 800) (v := (0 : Int32)) g (by decide) dL_law_800 ?_
          exact x_lwret (pc := 801) hbA2 g hrt hcl dL_law_801
      refine x_eqs ?_ (fun hs19 => ?_)
      · refine x_tabIn (pc := 33) (tgt := 802) (off := 769) g (by decide) (by decide) dL_law_33 ?_
        refine x_aload_n (pc := 802) g rfl 1 rfl dL_law_802 ?_
        refine x_aload_n (pc := 803) g rfl 0 rfl dL_law_803 ?_
        refine x_iload_n (pc := 804) g rfl 3 rfl dL_law_804 ?_
        refine x_iconst (pc := 805) (v := (1 : Int32)) g (by decide) dL_law_805 ?_
        refine x_iadd (pc := 806) g dL_law_806 ?_
        refine x_sld (pc := 807) g hX hbl hbA hL dL_law_807 (fun v111 => ?_)
        refine x_aload_n (pc := 808) g rfl 0 rfl dL_law_808 ?_
        refine x_iload_n (pc := 809) g rfl 3 rfl dL_law_809 ?_
        refine x_iconst (pc := 810) (v := (2 : Int32)) g (by decide) dL_law_810 ?_
        refine x_iadd (pc := 811) g dL_law_811 ?_
        refine x_sld (pc := 812) g hX hbl hbA hL dL_law_812 (fun v112 => ?_)
        refine x_callVI (pc := 813) (hkc := hkc) (As := [.int v111, .int v112]) g sh_0 (mc_X9_guard N v111 v112) cw_X9_guard lk_L_89 rfl ⟨Nat.le_of_ble_eq_true rfl, Nat.le_of_ble_eq_true rfl⟩ rfl (Nat.le_of_ble_eq_true rfl) dL_law_813 (fun v113 σ39 => ?_)
        refine x_aload_n (pc := 816) g rfl 2 rfl dL_law_816 ?_
        refine x_aload_n (pc := 817) g rfl 0 rfl dL_law_817 ?_
        refine x_iload_n (pc := 818) g rfl 3 rfl dL_law_818 ?_
        refine x_iconst (pc := 819) (v := (1 : Int32)) g (by decide) dL_law_819 ?_
        refine x_iadd (pc := 820) g dL_law_820 ?_
        refine x_sld (pc := 821) g hX hbl hbA hL dL_law_821 (fun v114 => ?_)
        refine x_aload_n (pc := 822) g rfl 0 rfl dL_law_822 ?_
        refine x_iload_n (pc := 823) g rfl 3 rfl dL_law_823 ?_
        refine x_iconst (pc := 824) (v := (2 : Int32)) g (by decide) dL_law_824 ?_
        refine x_iadd (pc := 825) g dL_law_825 ?_
        refine x_sld (pc := 826) g hX hbl hbA hL dL_law_826 (fun v115 => ?_)
        refine x_callVI (pc := 827) (hkc := hkc) (As := [.int v114, .int v115]) g sh_103 (mc_X10_guard N v114 v115) cw_X10_guard lk_L_92 rfl ⟨Nat.le_of_ble_eq_true rfl, Nat.le_of_ble_eq_true rfl⟩ rfl (Nat.le_of_ble_eq_true rfl) dL_law_827 (fun v116 σ40 => ?_)
        refine x_icmp_eq (pc := 830) (tgt := 1519) g (by decide) dL_law_830 ?_ ?_
        · exact hj1519 σ40
        · refine x_iconst (pc := 833) (v := (0 : Int32)) g (by decide) dL_law_833 ?_
          exact x_lwret (pc := 834) hbA2 g hrt hcl dL_law_834
      refine x_eqs ?_ (fun hs20 => ?_)
      · refine x_tabIn (pc := 33) (tgt := 835) (off := 802) g (by decide) (by decide) dL_law_33 ?_
        refine x_aload_n (pc := 835) g rfl 1 rfl dL_law_835 ?_
        refine x_aload_n (pc := 836) g rfl 0 rfl dL_law_836 ?_
        refine x_iload_n (pc := 837) g rfl 3 rfl dL_law_837 ?_
        refine x_iconst (pc := 838) (v := (1 : Int32)) g (by decide) dL_law_838 ?_
        refine x_iadd (pc := 839) g dL_law_839 ?_
        refine x_sld (pc := 840) g hX hbl hbA hL dL_law_840 (fun v117 => ?_)
        refine x_aload_n (pc := 841) g rfl 0 rfl dL_law_841 ?_
        refine x_iload_n (pc := 842) g rfl 3 rfl dL_law_842 ?_
        refine x_iconst (pc := 843) (v := (2 : Int32)) g (by decide) dL_law_843 ?_
        refine x_iadd (pc := 844) g dL_law_844 ?_
        refine x_sld (pc := 845) g hX hbl hbA hL dL_law_845 (fun v118 => ?_)
        refine x_callVI (pc := 846) (hkc := hkc) (As := [.int v117, .int v118]) g sh_0 (mc_X9_shoes N v117 v118) cw_X9_shoes lk_L_93 rfl ⟨Nat.le_of_ble_eq_true rfl, Nat.le_of_ble_eq_true rfl⟩ rfl (Nat.le_of_ble_eq_true rfl) dL_law_846 (fun v119 σ41 => ?_)
        refine x_aload_n (pc := 849) g rfl 2 rfl dL_law_849 ?_
        refine x_aload_n (pc := 850) g rfl 0 rfl dL_law_850 ?_
        refine x_iload_n (pc := 851) g rfl 3 rfl dL_law_851 ?_
        refine x_iconst (pc := 852) (v := (1 : Int32)) g (by decide) dL_law_852 ?_
        refine x_iadd (pc := 853) g dL_law_853 ?_
        refine x_sld (pc := 854) g hX hbl hbA hL dL_law_854 (fun v120 => ?_)
        refine x_aload_n (pc := 855) g rfl 0 rfl dL_law_855 ?_
        refine x_iload_n (pc := 856) g rfl 3 rfl dL_law_856 ?_
        refine x_iconst (pc := 857) (v := (2 : Int32)) g (by decide) dL_law_857 ?_
        refine x_iadd (pc := 858) g dL_law_858 ?_
        refine x_sld (pc := 859) g hX hbl hbA hL dL_law_859 (fun v121 => ?_)
        refine x_callVI (pc := 860) (hkc := hkc) (As := [.int v120, .int v121]) g sh_103 (mc_X10_shoes N v120 v121) cw_X10_shoes lk_L_96 rfl ⟨Nat.le_of_ble_eq_true rfl, Nat.le_of_ble_eq_true rfl⟩ rfl (Nat.le_of_ble_eq_true rfl) dL_law_860 (fun v122 σ42 => ?_)
        refine x_icmp_eq (pc := 863) (tgt := 1519) g (by decide) dL_law_863 ?_ ?_
        · exact hj1519 σ42
        · refine x_iconst (pc := 866) (v := (0 : Int32)) g (by decide) dL_law_866 ?_
          exact x_lwret (pc := 867) hbA2 g hrt hcl dL_law_867
      refine x_eqs ?_ (fun hs21 => ?_)
      · refine x_tabIn (pc := 33) (tgt := 868) (off := 835) g (by decide) (by decide) dL_law_33 ?_
        refine x_aload_n (pc := 868) g rfl 1 rfl dL_law_868 ?_
        refine x_aload_n (pc := 869) g rfl 0 rfl dL_law_869 ?_
        refine x_iload_n (pc := 870) g rfl 3 rfl dL_law_870 ?_
        refine x_iconst (pc := 871) (v := (1 : Int32)) g (by decide) dL_law_871 ?_
        refine x_iadd (pc := 872) g dL_law_872 ?_
        refine x_sld (pc := 873) g hX hbl hbA hL dL_law_873 (fun v123 => ?_)
        refine x_aload_n (pc := 874) g rfl 0 rfl dL_law_874 ?_
        refine x_iload_n (pc := 875) g rfl 3 rfl dL_law_875 ?_
        refine x_iconst (pc := 876) (v := (2 : Int32)) g (by decide) dL_law_876 ?_
        refine x_iadd (pc := 877) g dL_law_877 ?_
        refine x_sld (pc := 878) g hX hbl hbA hL dL_law_878 (fun v124 => ?_)
        refine x_aload_n (pc := 879) g rfl 0 rfl dL_law_879 ?_
        refine x_iload_n (pc := 880) g rfl 3 rfl dL_law_880 ?_
        refine x_iconst (pc := 881) (v := (3 : Int32)) g (by decide) dL_law_881 ?_
        refine x_iadd (pc := 882) g dL_law_882 ?_
        refine x_sld (pc := 883) g hX hbl hbA hL dL_law_883 (fun v125 => ?_)
        refine x_callVI (pc := 884) (hkc := hkc) (As := [.int v123, .int v124, .int v125]) g sh_0 (mc_X9_feigned N v123 v124 v125) cw_X9_feigned lk_L_97 rfl ⟨Nat.le_of_ble_eq_true rfl, Nat.le_of_ble_eq_true rfl⟩ rfl (Nat.le_of_ble_eq_true rfl) dL_law_884 (fun v126 σ43 => ?_)
        refine x_aload_n (pc := 887) g rfl 2 rfl dL_law_887 ?_
        refine x_aload_n (pc := 888) g rfl 0 rfl dL_law_888 ?_
        refine x_iload_n (pc := 889) g rfl 3 rfl dL_law_889 ?_
        refine x_iconst (pc := 890) (v := (1 : Int32)) g (by decide) dL_law_890 ?_
        refine x_iadd (pc := 891) g dL_law_891 ?_
        refine x_sld (pc := 892) g hX hbl hbA hL dL_law_892 (fun v127 => ?_)
        refine x_aload_n (pc := 893) g rfl 0 rfl dL_law_893 ?_
        refine x_iload_n (pc := 894) g rfl 3 rfl dL_law_894 ?_
        refine x_iconst (pc := 895) (v := (2 : Int32)) g (by decide) dL_law_895 ?_
        refine x_iadd (pc := 896) g dL_law_896 ?_
        refine x_sld (pc := 897) g hX hbl hbA hL dL_law_897 (fun v128 => ?_)
        refine x_aload_n (pc := 898) g rfl 0 rfl dL_law_898 ?_
        refine x_iload_n (pc := 899) g rfl 3 rfl dL_law_899 ?_
        refine x_iconst (pc := 900) (v := (3 : Int32)) g (by decide) dL_law_900 ?_
        refine x_iadd (pc := 901) g dL_law_901 ?_
        refine x_sld (pc := 902) g hX hbl hbA hL dL_law_902 (fun v129 => ?_)
        refine x_callVI (pc := 903) (hkc := hkc) (As := [.int v127, .int v128, .int v129]) g sh_103 (mc_X10_feigned N v127 v128 v129) cw_X10_feigned lk_L_100 rfl ⟨Nat.le_of_ble_eq_true rfl, Nat.le_of_ble_eq_true rfl⟩ rfl (Nat.le_of_ble_eq_true rfl) dL_law_903 (fun v130 σ44 => ?_)
        refine x_icmp_eq (pc := 906) (tgt := 1519) g (by decide) dL_law_906 ?_ ?_
        · exact hj1519 σ44
        · refine x_iconst (pc := 909) (v := (0 : Int32)) g (by decide) dL_law_909 ?_
          exact x_lwret (pc := 910) hbA2 g hrt hcl dL_law_910
      refine x_eqs ?_ (fun hs22 => ?_)
      · refine x_tabIn (pc := 33) (tgt := 911) (off := 878) g (by decide) (by decide) dL_law_33 ?_
        refine x_aload_n (pc := 911) g rfl 1 rfl dL_law_911 ?_
        refine x_aload_n (pc := 912) g rfl 0 rfl dL_law_912 ?_
        refine x_iload_n (pc := 913) g rfl 3 rfl dL_law_913 ?_
        refine x_iconst (pc := 914) (v := (1 : Int32)) g (by decide) dL_law_914 ?_
        refine x_iadd (pc := 915) g dL_law_915 ?_
        refine x_sld (pc := 916) g hX hbl hbA hL dL_law_916 (fun v131 => ?_)
        refine x_aload_n (pc := 917) g rfl 0 rfl dL_law_917 ?_
        refine x_iload_n (pc := 918) g rfl 3 rfl dL_law_918 ?_
        refine x_iconst (pc := 919) (v := (2 : Int32)) g (by decide) dL_law_919 ?_
        refine x_iadd (pc := 920) g dL_law_920 ?_
        refine x_sld (pc := 921) g hX hbl hbA hL dL_law_921 (fun v132 => ?_)
        refine x_aload_n (pc := 922) g rfl 0 rfl dL_law_922 ?_
        refine x_iload_n (pc := 923) g rfl 3 rfl dL_law_923 ?_
        refine x_iconst (pc := 924) (v := (3 : Int32)) g (by decide) dL_law_924 ?_
        refine x_iadd (pc := 925) g dL_law_925 ?_
        refine x_sld (pc := 926) g hX hbl hbA hL dL_law_926 (fun v133 => ?_)
        refine x_callVI (pc := 927) (hkc := hkc) (As := [.int v131, .int v132, .int v133]) g sh_0 (mc_X9_flood N v131 v132 v133) cw_X9_flood lk_L_101 rfl ⟨Nat.le_of_ble_eq_true rfl, Nat.le_of_ble_eq_true rfl⟩ rfl (Nat.le_of_ble_eq_true rfl) dL_law_927 (fun v134 σ45 => ?_)
        refine x_aload_n (pc := 930) g rfl 2 rfl dL_law_930 ?_
        refine x_aload_n (pc := 931) g rfl 0 rfl dL_law_931 ?_
        refine x_iload_n (pc := 932) g rfl 3 rfl dL_law_932 ?_
        refine x_iconst (pc := 933) (v := (1 : Int32)) g (by decide) dL_law_933 ?_
        refine x_iadd (pc := 934) g dL_law_934 ?_
        refine x_sld (pc := 935) g hX hbl hbA hL dL_law_935 (fun v135 => ?_)
        refine x_aload_n (pc := 936) g rfl 0 rfl dL_law_936 ?_
        refine x_iload_n (pc := 937) g rfl 3 rfl dL_law_937 ?_
        refine x_iconst (pc := 938) (v := (2 : Int32)) g (by decide) dL_law_938 ?_
        refine x_iadd (pc := 939) g dL_law_939 ?_
        refine x_sld (pc := 940) g hX hbl hbA hL dL_law_940 (fun v136 => ?_)
        refine x_aload_n (pc := 941) g rfl 0 rfl dL_law_941 ?_
        refine x_iload_n (pc := 942) g rfl 3 rfl dL_law_942 ?_
        refine x_iconst (pc := 943) (v := (3 : Int32)) g (by decide) dL_law_943 ?_
        refine x_iadd (pc := 944) g dL_law_944 ?_
        refine x_sld (pc := 945) g hX hbl hbA hL dL_law_945 (fun v137 => ?_)
        refine x_callVI (pc := 946) (hkc := hkc) (As := [.int v135, .int v136, .int v137]) g sh_103 (mc_X10_flood N v135 v136 v137) cw_X10_flood lk_L_104 rfl ⟨Nat.le_of_ble_eq_true rfl, Nat.le_of_ble_eq_true rfl⟩ rfl (Nat.le_of_ble_eq_true rfl) dL_law_946 (fun v138 σ46 => ?_)
        refine x_icmp_eq (pc := 949) (tgt := 1519) g (by decide) dL_law_949 ?_ ?_
        · exact hj1519 σ46
        · refine x_iconst (pc := 952) (v := (0 : Int32)) g (by decide) dL_law_952 ?_
          exact x_lwret (pc := 953) hbA2 g hrt hcl dL_law_953
      refine x_eqs ?_ (fun hs23 => ?_)
      · refine x_tabIn (pc := 33) (tgt := 954) (off := 921) g (by decide) (by decide) dL_law_33 ?_
        refine x_aload_n (pc := 954) g rfl 1 rfl dL_law_954 ?_
        refine x_aload_n (pc := 955) g rfl 0 rfl dL_law_955 ?_
        refine x_iload_n (pc := 956) g rfl 3 rfl dL_law_956 ?_
        refine x_iconst (pc := 957) (v := (1 : Int32)) g (by decide) dL_law_957 ?_
        refine x_iadd (pc := 958) g dL_law_958 ?_
        refine x_sld (pc := 959) g hX hbl hbA hL dL_law_959 (fun v139 => ?_)
        refine x_aload_n (pc := 960) g rfl 0 rfl dL_law_960 ?_
        refine x_iload_n (pc := 961) g rfl 3 rfl dL_law_961 ?_
        refine x_iconst (pc := 962) (v := (2 : Int32)) g (by decide) dL_law_962 ?_
        refine x_iadd (pc := 963) g dL_law_963 ?_
        refine x_sld (pc := 964) g hX hbl hbA hL dL_law_964 (fun v140 => ?_)
        refine x_aload_n (pc := 965) g rfl 0 rfl dL_law_965 ?_
        refine x_iload_n (pc := 966) g rfl 3 rfl dL_law_966 ?_
        refine x_iconst (pc := 967) (v := (3 : Int32)) g (by decide) dL_law_967 ?_
        refine x_iadd (pc := 968) g dL_law_968 ?_
        refine x_sld (pc := 969) g hX hbl hbA hL dL_law_969 (fun v141 => ?_)
        refine x_callVI (pc := 970) (hkc := hkc) (As := [.int v139, .int v140, .int v141]) g sh_0 (mc_X9_drawn N v139 v140 v141) cw_X9_drawn lk_L_105 rfl ⟨Nat.le_of_ble_eq_true rfl, Nat.le_of_ble_eq_true rfl⟩ rfl (Nat.le_of_ble_eq_true rfl) dL_law_970 (fun v142 σ47 => ?_)
        refine x_aload_n (pc := 973) g rfl 2 rfl dL_law_973 ?_
        refine x_aload_n (pc := 974) g rfl 0 rfl dL_law_974 ?_
        refine x_iload_n (pc := 975) g rfl 3 rfl dL_law_975 ?_
        refine x_iconst (pc := 976) (v := (1 : Int32)) g (by decide) dL_law_976 ?_
        refine x_iadd (pc := 977) g dL_law_977 ?_
        refine x_sld (pc := 978) g hX hbl hbA hL dL_law_978 (fun v143 => ?_)
        refine x_aload_n (pc := 979) g rfl 0 rfl dL_law_979 ?_
        refine x_iload_n (pc := 980) g rfl 3 rfl dL_law_980 ?_
        refine x_iconst (pc := 981) (v := (2 : Int32)) g (by decide) dL_law_981 ?_
        refine x_iadd (pc := 982) g dL_law_982 ?_
        refine x_sld (pc := 983) g hX hbl hbA hL dL_law_983 (fun v144 => ?_)
        refine x_aload_n (pc := 984) g rfl 0 rfl dL_law_984 ?_
        refine x_iload_n (pc := 985) g rfl 3 rfl dL_law_985 ?_
        refine x_iconst (pc := 986) (v := (3 : Int32)) g (by decide) dL_law_986 ?_
        refine x_iadd (pc := 987) g dL_law_987 ?_
        refine x_sld (pc := 988) g hX hbl hbA hL dL_law_988 (fun v145 => ?_)
        refine x_callVI (pc := 989) (hkc := hkc) (As := [.int v143, .int v144, .int v145]) g sh_103 (mc_X10_drawn N v143 v144 v145) cw_X10_drawn lk_L_108 rfl ⟨Nat.le_of_ble_eq_true rfl, Nat.le_of_ble_eq_true rfl⟩ rfl (Nat.le_of_ble_eq_true rfl) dL_law_989 (fun v146 σ48 => ?_)
        refine x_icmp_eq (pc := 992) (tgt := 1519) g (by decide) dL_law_992 ?_ ?_
        · exact hj1519 σ48
        · refine x_iconst (pc := 995) (v := (0 : Int32)) g (by decide) dL_law_995 ?_
          exact x_lwret (pc := 996) hbA2 g hrt hcl dL_law_996
      refine x_eqs ?_ (fun hs24 => ?_)
      · refine x_tabIn (pc := 33) (tgt := 997) (off := 964) g (by decide) (by decide) dL_law_33 ?_
        refine x_aload_n (pc := 997) g rfl 1 rfl dL_law_997 ?_
        refine x_aload_n (pc := 998) g rfl 0 rfl dL_law_998 ?_
        refine x_iload_n (pc := 999) g rfl 3 rfl dL_law_999 ?_
        refine x_iconst (pc := 1000) (v := (1 : Int32)) g (by decide) dL_law_1000 ?_
        refine x_iadd (pc := 1001) g dL_law_1001 ?_
        refine x_sld (pc := 1002) g hX hbl hbA hL dL_law_1002 (fun v147 => ?_)
        refine x_callVI (pc := 1003) (hkc := hkc) (As := [.int v147]) g sh_0 (mc_X9_live N v147) cw_X9_live lk_L_109 rfl ⟨Nat.le_of_ble_eq_true rfl, Nat.le_of_ble_eq_true rfl⟩ rfl (Nat.le_of_ble_eq_true rfl) dL_law_1003 (fun v148 σ49 => ?_)
        refine x_aload_n (pc := 1006) g rfl 2 rfl dL_law_1006 ?_
        refine x_aload_n (pc := 1007) g rfl 0 rfl dL_law_1007 ?_
        refine x_iload_n (pc := 1008) g rfl 3 rfl dL_law_1008 ?_
        refine x_iconst (pc := 1009) (v := (1 : Int32)) g (by decide) dL_law_1009 ?_
        refine x_iadd (pc := 1010) g dL_law_1010 ?_
        refine x_sld (pc := 1011) g hX hbl hbA hL dL_law_1011 (fun v149 => ?_)
        refine x_callVI (pc := 1012) (hkc := hkc) (As := [.int v149]) g sh_103 (mc_X10_live N v149) cw_X10_live lk_L_112 rfl ⟨Nat.le_of_ble_eq_true rfl, Nat.le_of_ble_eq_true rfl⟩ rfl (Nat.le_of_ble_eq_true rfl) dL_law_1012 (fun v150 σ50 => ?_)
        refine x_icmp_eq (pc := 1015) (tgt := 1519) g (by decide) dL_law_1015 ?_ ?_
        · exact hj1519 σ50
        · refine x_iconst (pc := 1018) (v := (0 : Int32)) g (by decide) dL_law_1018 ?_
          exact x_lwret (pc := 1019) hbA2 g hrt hcl dL_law_1019
      refine x_eqs ?_ (fun hs25 => ?_)
      · refine x_tabIn (pc := 33) (tgt := 1020) (off := 987) g (by decide) (by decide) dL_law_33 ?_
        refine x_aload_n (pc := 1020) g rfl 1 rfl dL_law_1020 ?_
        refine x_aload_n (pc := 1021) g rfl 0 rfl dL_law_1021 ?_
        refine x_iload_n (pc := 1022) g rfl 3 rfl dL_law_1022 ?_
        refine x_iconst (pc := 1023) (v := (1 : Int32)) g (by decide) dL_law_1023 ?_
        refine x_iadd (pc := 1024) g dL_law_1024 ?_
        refine x_sld (pc := 1025) g hX hbl hbA hL dL_law_1025 (fun v151 => ?_)
        refine x_aload_n (pc := 1026) g rfl 0 rfl dL_law_1026 ?_
        refine x_iload_n (pc := 1027) g rfl 3 rfl dL_law_1027 ?_
        refine x_iconst (pc := 1028) (v := (2 : Int32)) g (by decide) dL_law_1028 ?_
        refine x_iadd (pc := 1029) g dL_law_1029 ?_
        refine x_sld (pc := 1030) g hX hbl hbA hL dL_law_1030 (fun v152 => ?_)
        refine x_callVI (pc := 1031) (hkc := hkc) (As := [.int v151, .int v152]) g sh_0 (mc_X9_step N v151 v152) cw_X9_step lk_L_113 rfl ⟨Nat.le_of_ble_eq_true rfl, Nat.le_of_ble_eq_true rfl⟩ rfl (Nat.le_of_ble_eq_true rfl) dL_law_1031 (fun v153 σ51 => ?_)
        refine x_aload_n (pc := 1034) g rfl 2 rfl dL_law_1034 ?_
        refine x_aload_n (pc := 1035) g rfl 0 rfl dL_law_1035 ?_
        refine x_iload_n (pc := 1036) g rfl 3 rfl dL_law_1036 ?_
        refine x_iconst (pc := 1037) (v := (1 : Int32)) g (by decide) dL_law_1037 ?_
        refine x_iadd (pc := 1038) g dL_law_1038 ?_
        refine x_sld (pc := 1039) g hX hbl hbA hL dL_law_1039 (fun v154 => ?_)
        refine x_aload_n (pc := 1040) g rfl 0 rfl dL_law_1040 ?_
        refine x_iload_n (pc := 1041) g rfl 3 rfl dL_law_1041 ?_
        refine x_iconst (pc := 1042) (v := (2 : Int32)) g (by decide) dL_law_1042 ?_
        refine x_iadd (pc := 1043) g dL_law_1043 ?_
        refine x_sld (pc := 1044) g hX hbl hbA hL dL_law_1044 (fun v155 => ?_)
        refine x_callVI (pc := 1045) (hkc := hkc) (As := [.int v154, .int v155]) g sh_103 (mc_X10_step N v154 v155) cw_X10_step lk_L_116 rfl ⟨Nat.le_of_ble_eq_true rfl, Nat.le_of_ble_eq_true rfl⟩ rfl (Nat.le_of_ble_eq_true rfl) dL_law_1045 (fun v156 σ52 => ?_)
        refine x_icmp_eq (pc := 1048) (tgt := 1519) g (by decide) dL_law_1048 ?_ ?_
        · exact hj1519 σ52
        · refine x_iconst (pc := 1051) (v := (0 : Int32)) g (by decide) dL_law_1051 ?_
          exact x_lwret (pc := 1052) hbA2 g hrt hcl dL_law_1052
      refine x_eqs ?_ (fun hs26 => ?_)
      · refine x_tabIn (pc := 33) (tgt := 1053) (off := 1020) g (by decide) (by decide) dL_law_33 ?_
        refine x_aload_n (pc := 1053) g rfl 1 rfl dL_law_1053 ?_
        refine x_aload_n (pc := 1054) g rfl 0 rfl dL_law_1054 ?_
        refine x_iload_n (pc := 1055) g rfl 3 rfl dL_law_1055 ?_
        refine x_iconst (pc := 1056) (v := (1 : Int32)) g (by decide) dL_law_1056 ?_
        refine x_iadd (pc := 1057) g dL_law_1057 ?_
        refine x_sld (pc := 1058) g hX hbl hbA hL dL_law_1058 (fun v157 => ?_)
        refine x_callVI (pc := 1059) (hkc := hkc) (As := [.int v157]) g sh_0 (mc_X9_led v157) cw_X9_led lk_L_117 rfl ⟨Nat.le_of_ble_eq_true rfl, Nat.le_of_ble_eq_true rfl⟩ rfl (Nat.le_of_ble_eq_true rfl) dL_law_1059 (fun v158 σ53 => ?_)
        refine x_aload_n (pc := 1062) g rfl 2 rfl dL_law_1062 ?_
        refine x_aload_n (pc := 1063) g rfl 0 rfl dL_law_1063 ?_
        refine x_iload_n (pc := 1064) g rfl 3 rfl dL_law_1064 ?_
        refine x_iconst (pc := 1065) (v := (1 : Int32)) g (by decide) dL_law_1065 ?_
        refine x_iadd (pc := 1066) g dL_law_1066 ?_
        refine x_sld (pc := 1067) g hX hbl hbA hL dL_law_1067 (fun v159 => ?_)
        refine x_callVI (pc := 1068) (hkc := hkc) (As := [.int v159]) g sh_103 (mc_X10_led v159) cw_X10_led lk_L_120 rfl ⟨Nat.le_of_ble_eq_true rfl, Nat.le_of_ble_eq_true rfl⟩ rfl (Nat.le_of_ble_eq_true rfl) dL_law_1068 (fun v160 σ54 => ?_)
        refine x_icmp_eq (pc := 1071) (tgt := 1519) g (by decide) dL_law_1071 ?_ ?_
        · exact hj1519 σ54
        · refine x_iconst (pc := 1074) (v := (0 : Int32)) g (by decide) dL_law_1074 ?_
          exact x_lwret (pc := 1075) hbA2 g hrt hcl dL_law_1075
      refine x_eqs ?_ (fun hs27 => ?_)
      · refine x_tabIn (pc := 33) (tgt := 1076) (off := 1043) g (by decide) (by decide) dL_law_33 ?_
        refine x_aload_n (pc := 1076) g rfl 1 rfl dL_law_1076 ?_
        refine x_callVI (pc := 1077) (hkc := hkc) (As := []) g sh_0 (mc_X9_image ) cw_X9_image lk_L_121 rfl ⟨Nat.le_of_ble_eq_true rfl, Nat.le_of_ble_eq_true rfl⟩ rfl (Nat.le_of_ble_eq_true rfl) dL_law_1077 (fun v161 σ55 => ?_)
        refine x_aload_n (pc := 1080) g rfl 2 rfl dL_law_1080 ?_
        refine x_callVI (pc := 1081) (hkc := hkc) (As := []) g sh_103 (mc_X10_image N ) cw_X10_image lk_L_124 rfl ⟨Nat.le_of_ble_eq_true rfl, Nat.le_of_ble_eq_true rfl⟩ rfl (Nat.le_of_ble_eq_true rfl) dL_law_1081 (fun v162 σ56 => ?_)
        refine x_icmp_eq (pc := 1084) (tgt := 1519) g (by decide) dL_law_1084 ?_ ?_
        · exact hj1519 σ56
        · refine x_iconst (pc := 1087) (v := (0 : Int32)) g (by decide) dL_law_1087 ?_
          exact x_lwret (pc := 1088) hbA2 g hrt hcl dL_law_1088
      refine x_eqs ?_ (fun hs28 => ?_)
      · refine x_tabIn (pc := 33) (tgt := 1089) (off := 1056) g (by decide) (by decide) dL_law_33 ?_
        refine x_aload_n (pc := 1089) g rfl 1 rfl dL_law_1089 ?_
        refine x_callVI (pc := 1090) (hkc := hkc) (As := []) g sh_0 (mc_X9_back ) cw_X9_back lk_L_125 rfl ⟨Nat.le_of_ble_eq_true rfl, Nat.le_of_ble_eq_true rfl⟩ rfl (Nat.le_of_ble_eq_true rfl) dL_law_1090 (fun v163 σ57 => ?_)
        refine x_aload_n (pc := 1093) g rfl 2 rfl dL_law_1093 ?_
        refine x_callVI (pc := 1094) (hkc := hkc) (As := []) g sh_103 (mc_X10_back N ) cw_X10_back lk_L_128 rfl ⟨Nat.le_of_ble_eq_true rfl, Nat.le_of_ble_eq_true rfl⟩ rfl (Nat.le_of_ble_eq_true rfl) dL_law_1094 (fun v164 σ58 => ?_)
        refine x_icmp_eq (pc := 1097) (tgt := 1519) g (by decide) dL_law_1097 ?_ ?_
        · exact hj1519 σ58
        · refine x_iconst (pc := 1100) (v := (0 : Int32)) g (by decide) dL_law_1100 ?_
          exact x_lwret (pc := 1101) hbA2 g hrt hcl dL_law_1101
      refine x_eqs ?_ (fun hs29 => ?_)
      · refine x_tabIn (pc := 33) (tgt := 1102) (off := 1069) g (by decide) (by decide) dL_law_33 ?_
        refine x_aload_n (pc := 1102) g rfl 1 rfl dL_law_1102 ?_
        refine x_callVI (pc := 1103) (hkc := hkc) (As := []) g sh_0 (mc_X9_undo N ) cw_X9_undo lk_L_129 rfl ⟨Nat.le_of_ble_eq_true rfl, Nat.le_of_ble_eq_true rfl⟩ rfl (Nat.le_of_ble_eq_true rfl) dL_law_1103 (fun v165 σ59 => ?_)
        refine x_aload_n (pc := 1106) g rfl 2 rfl dL_law_1106 ?_
        refine x_callVI (pc := 1107) (hkc := hkc) (As := []) g sh_103 (mc_X10_undo ) cw_X10_undo lk_L_132 rfl ⟨Nat.le_of_ble_eq_true rfl, Nat.le_of_ble_eq_true rfl⟩ rfl (Nat.le_of_ble_eq_true rfl) dL_law_1107 (fun v166 σ60 => ?_)
        refine x_icmp_eq (pc := 1110) (tgt := 1519) g (by decide) dL_law_1110 ?_ ?_
        · exact hj1519 σ60
        · refine x_iconst (pc := 1113) (v := (0 : Int32)) g (by decide) dL_law_1113 ?_
          exact x_lwret (pc := 1114) hbA2 g hrt hcl dL_law_1114
      refine x_eqs ?_ (fun hs30 => ?_)
      · refine x_tabIn (pc := 33) (tgt := 1115) (off := 1082) g (by decide) (by decide) dL_law_33 ?_
        refine x_aload_n (pc := 1115) g rfl 1 rfl dL_law_1115 ?_
        refine x_callVI (pc := 1116) (hkc := hkc) (As := []) g sh_0 (mc_X9_redo N ) cw_X9_redo lk_L_133 rfl ⟨Nat.le_of_ble_eq_true rfl, Nat.le_of_ble_eq_true rfl⟩ rfl (Nat.le_of_ble_eq_true rfl) dL_law_1116 (fun v167 σ61 => ?_)
        refine x_aload_n (pc := 1119) g rfl 2 rfl dL_law_1119 ?_
        refine x_callVI (pc := 1120) (hkc := hkc) (As := []) g sh_103 (mc_X10_redo ) cw_X10_redo lk_L_136 rfl ⟨Nat.le_of_ble_eq_true rfl, Nat.le_of_ble_eq_true rfl⟩ rfl (Nat.le_of_ble_eq_true rfl) dL_law_1120 (fun v168 σ62 => ?_)
        refine x_icmp_eq (pc := 1123) (tgt := 1519) g (by decide) dL_law_1123 ?_ ?_
        · exact hj1519 σ62
        · refine x_iconst (pc := 1126) (v := (0 : Int32)) g (by decide) dL_law_1126 ?_
          exact x_lwret (pc := 1127) hbA2 g hrt hcl dL_law_1127
      refine x_eqs ?_ (fun hs31 => ?_)
      · refine x_tabIn (pc := 33) (tgt := 1128) (off := 1095) g (by decide) (by decide) dL_law_33 ?_
        refine x_aload_n (pc := 1128) g rfl 1 rfl dL_law_1128 ?_
        refine x_aload_n (pc := 1129) g rfl 0 rfl dL_law_1129 ?_
        refine x_iload_n (pc := 1130) g rfl 3 rfl dL_law_1130 ?_
        refine x_iconst (pc := 1131) (v := (1 : Int32)) g (by decide) dL_law_1131 ?_
        refine x_iadd (pc := 1132) g dL_law_1132 ?_
        refine x_sld (pc := 1133) g hX hbl hbA hL dL_law_1133 (fun v169 => ?_)
        refine x_callVI (pc := 1134) (hkc := hkc) (As := [.int v169]) g sh_0 (mc_X9_body v169) cw_X9_body lk_L_137 rfl ⟨Nat.le_of_ble_eq_true rfl, Nat.le_of_ble_eq_true rfl⟩ rfl (Nat.le_of_ble_eq_true rfl) dL_law_1134 (fun v170 σ63 => ?_)
        refine x_aload_n (pc := 1137) g rfl 2 rfl dL_law_1137 ?_
        refine x_aload_n (pc := 1138) g rfl 0 rfl dL_law_1138 ?_
        refine x_iload_n (pc := 1139) g rfl 3 rfl dL_law_1139 ?_
        refine x_iconst (pc := 1140) (v := (1 : Int32)) g (by decide) dL_law_1140 ?_
        refine x_iadd (pc := 1141) g dL_law_1141 ?_
        refine x_sld (pc := 1142) g hX hbl hbA hL dL_law_1142 (fun v171 => ?_)
        refine x_callVI (pc := 1143) (hkc := hkc) (As := [.int v171]) g sh_103 (mc_X10_body v171) cw_X10_body lk_L_140 rfl ⟨Nat.le_of_ble_eq_true rfl, Nat.le_of_ble_eq_true rfl⟩ rfl (Nat.le_of_ble_eq_true rfl) dL_law_1143 (fun v172 σ64 => ?_)
        refine x_icmp_eq (pc := 1146) (tgt := 1519) g (by decide) dL_law_1146 ?_ ?_
        · exact hj1519 σ64
        · refine x_iconst (pc := 1149) (v := (0 : Int32)) g (by decide) dL_law_1149 ?_
          exact x_lwret (pc := 1150) hbA2 g hrt hcl dL_law_1150
      refine x_eqs ?_ (fun hs32 => ?_)
      · refine x_tabIn (pc := 33) (tgt := 1151) (off := 1118) g (by decide) (by decide) dL_law_33 ?_
        refine x_aload_n (pc := 1151) g rfl 1 rfl dL_law_1151 ?_
        refine x_aload_n (pc := 1152) g rfl 0 rfl dL_law_1152 ?_
        refine x_iload_n (pc := 1153) g rfl 3 rfl dL_law_1153 ?_
        refine x_iconst (pc := 1154) (v := (1 : Int32)) g (by decide) dL_law_1154 ?_
        refine x_iadd (pc := 1155) g dL_law_1155 ?_
        refine x_sld (pc := 1156) g hX hbl hbA hL dL_law_1156 (fun v173 => ?_)
        refine x_aload_n (pc := 1157) g rfl 0 rfl dL_law_1157 ?_
        refine x_iload_n (pc := 1158) g rfl 3 rfl dL_law_1158 ?_
        refine x_iconst (pc := 1159) (v := (2 : Int32)) g (by decide) dL_law_1159 ?_
        refine x_iadd (pc := 1160) g dL_law_1160 ?_
        refine x_sld (pc := 1161) g hX hbl hbA hL dL_law_1161 (fun v174 => ?_)
        refine x_aload_n (pc := 1162) g rfl 0 rfl dL_law_1162 ?_
        refine x_iload_n (pc := 1163) g rfl 3 rfl dL_law_1163 ?_
        refine x_iconst (pc := 1164) (v := (3 : Int32)) g (by decide) dL_law_1164 ?_
        refine x_iadd (pc := 1165) g dL_law_1165 ?_
        refine x_sld (pc := 1166) g hX hbl hbA hL dL_law_1166 (fun v175 => ?_)
        refine x_callVI (pc := 1167) (hkc := hkc) (As := [.int v173, .int v174, .int v175]) g sh_0 (mc_X9_act N v173 v174 v175) cw_X9_act lk_L_141 rfl ⟨Nat.le_of_ble_eq_true rfl, Nat.le_of_ble_eq_true rfl⟩ rfl (Nat.le_of_ble_eq_true rfl) dL_law_1167 (fun v176 σ65 => ?_)
        refine x_aload_n (pc := 1170) g rfl 2 rfl dL_law_1170 ?_
        refine x_aload_n (pc := 1171) g rfl 0 rfl dL_law_1171 ?_
        refine x_iload_n (pc := 1172) g rfl 3 rfl dL_law_1172 ?_
        refine x_iconst (pc := 1173) (v := (1 : Int32)) g (by decide) dL_law_1173 ?_
        refine x_iadd (pc := 1174) g dL_law_1174 ?_
        refine x_sld (pc := 1175) g hX hbl hbA hL dL_law_1175 (fun v177 => ?_)
        refine x_aload_n (pc := 1176) g rfl 0 rfl dL_law_1176 ?_
        refine x_iload_n (pc := 1177) g rfl 3 rfl dL_law_1177 ?_
        refine x_iconst (pc := 1178) (v := (2 : Int32)) g (by decide) dL_law_1178 ?_
        refine x_iadd (pc := 1179) g dL_law_1179 ?_
        refine x_sld (pc := 1180) g hX hbl hbA hL dL_law_1180 (fun v178 => ?_)
        refine x_aload_n (pc := 1181) g rfl 0 rfl dL_law_1181 ?_
        refine x_iload_n (pc := 1182) g rfl 3 rfl dL_law_1182 ?_
        refine x_iconst (pc := 1183) (v := (3 : Int32)) g (by decide) dL_law_1183 ?_
        refine x_iadd (pc := 1184) g dL_law_1184 ?_
        refine x_sld (pc := 1185) g hX hbl hbA hL dL_law_1185 (fun v179 => ?_)
        refine x_callVI (pc := 1186) (hkc := hkc) (As := [.int v177, .int v178, .int v179]) g sh_103 (mc_X10_act v177 v178 v179) cw_X10_act lk_L_144 rfl ⟨Nat.le_of_ble_eq_true rfl, Nat.le_of_ble_eq_true rfl⟩ rfl (Nat.le_of_ble_eq_true rfl) dL_law_1186 (fun v180 σ66 => ?_)
        refine x_icmp_eq (pc := 1189) (tgt := 1519) g (by decide) dL_law_1189 ?_ ?_
        · exact hj1519 σ66
        · refine x_iconst (pc := 1192) (v := (0 : Int32)) g (by decide) dL_law_1192 ?_
          exact x_lwret (pc := 1193) hbA2 g hrt hcl dL_law_1193
      refine x_eqs ?_ (fun hs33 => ?_)
      · refine x_tabIn (pc := 33) (tgt := 1194) (off := 1161) g (by decide) (by decide) dL_law_33 ?_
        refine x_aload_n (pc := 1194) g rfl 1 rfl dL_law_1194 ?_
        refine x_aload_n (pc := 1195) g rfl 0 rfl dL_law_1195 ?_
        refine x_iload_n (pc := 1196) g rfl 3 rfl dL_law_1196 ?_
        refine x_iconst (pc := 1197) (v := (1 : Int32)) g (by decide) dL_law_1197 ?_
        refine x_iadd (pc := 1198) g dL_law_1198 ?_
        refine x_sld (pc := 1199) g hX hbl hbA hL dL_law_1199 (fun v181 => ?_)
        refine x_callVI (pc := 1200) (hkc := hkc) (As := [.int v181]) g sh_0 (mc_X9_trace v181) cw_X9_trace lk_L_145 rfl ⟨Nat.le_of_ble_eq_true rfl, Nat.le_of_ble_eq_true rfl⟩ rfl (Nat.le_of_ble_eq_true rfl) dL_law_1200 (fun v182 σ67 => ?_)
        refine x_aload_n (pc := 1203) g rfl 2 rfl dL_law_1203 ?_
        refine x_aload_n (pc := 1204) g rfl 0 rfl dL_law_1204 ?_
        refine x_iload_n (pc := 1205) g rfl 3 rfl dL_law_1205 ?_
        refine x_iconst (pc := 1206) (v := (1 : Int32)) g (by decide) dL_law_1206 ?_
        refine x_iadd (pc := 1207) g dL_law_1207 ?_
        refine x_sld (pc := 1208) g hX hbl hbA hL dL_law_1208 (fun v183 => ?_)
        refine x_callVI (pc := 1209) (hkc := hkc) (As := [.int v183]) g sh_103 (mc_X10_trace v183) cw_X10_trace lk_L_148 rfl ⟨Nat.le_of_ble_eq_true rfl, Nat.le_of_ble_eq_true rfl⟩ rfl (Nat.le_of_ble_eq_true rfl) dL_law_1209 (fun v184 σ68 => ?_)
        refine x_icmp_eq (pc := 1212) (tgt := 1519) g (by decide) dL_law_1212 ?_ ?_
        · exact hj1519 σ68
        · refine x_iconst (pc := 1215) (v := (0 : Int32)) g (by decide) dL_law_1215 ?_
          exact x_lwret (pc := 1216) hbA2 g hrt hcl dL_law_1216
      refine x_eqs ?_ (fun hs34 => ?_)
      · refine x_tabIn (pc := 33) (tgt := 1217) (off := 1184) g (by decide) (by decide) dL_law_33 ?_
        refine x_aload_n (pc := 1217) g rfl 1 rfl dL_law_1217 ?_
        refine x_aload_n (pc := 1218) g rfl 0 rfl dL_law_1218 ?_
        refine x_iload_n (pc := 1219) g rfl 3 rfl dL_law_1219 ?_
        refine x_iconst (pc := 1220) (v := (1 : Int32)) g (by decide) dL_law_1220 ?_
        refine x_iadd (pc := 1221) g dL_law_1221 ?_
        refine x_sld (pc := 1222) g hX hbl hbA hL dL_law_1222 (fun v185 => ?_)
        refine x_aload_n (pc := 1223) g rfl 0 rfl dL_law_1223 ?_
        refine x_iload_n (pc := 1224) g rfl 3 rfl dL_law_1224 ?_
        refine x_iconst (pc := 1225) (v := (2 : Int32)) g (by decide) dL_law_1225 ?_
        refine x_iadd (pc := 1226) g dL_law_1226 ?_
        refine x_sld (pc := 1227) g hX hbl hbA hL dL_law_1227 (fun v186 => ?_)
        refine x_callVI (pc := 1228) (hkc := hkc) (As := [.int v185, .int v186]) g sh_0 (mc_X9_keep v185 v186) cw_X9_keep lk_L_149 rfl ⟨Nat.le_of_ble_eq_true rfl, Nat.le_of_ble_eq_true rfl⟩ rfl (Nat.le_of_ble_eq_true rfl) dL_law_1228 (fun v187 σ69 => ?_)
        refine x_aload_n (pc := 1231) g rfl 2 rfl dL_law_1231 ?_
        refine x_aload_n (pc := 1232) g rfl 0 rfl dL_law_1232 ?_
        refine x_iload_n (pc := 1233) g rfl 3 rfl dL_law_1233 ?_
        refine x_iconst (pc := 1234) (v := (1 : Int32)) g (by decide) dL_law_1234 ?_
        refine x_iadd (pc := 1235) g dL_law_1235 ?_
        refine x_sld (pc := 1236) g hX hbl hbA hL dL_law_1236 (fun v188 => ?_)
        refine x_aload_n (pc := 1237) g rfl 0 rfl dL_law_1237 ?_
        refine x_iload_n (pc := 1238) g rfl 3 rfl dL_law_1238 ?_
        refine x_iconst (pc := 1239) (v := (2 : Int32)) g (by decide) dL_law_1239 ?_
        refine x_iadd (pc := 1240) g dL_law_1240 ?_
        refine x_sld (pc := 1241) g hX hbl hbA hL dL_law_1241 (fun v189 => ?_)
        refine x_callVI (pc := 1242) (hkc := hkc) (As := [.int v188, .int v189]) g sh_103 (mc_X10_keep v188 v189) cw_X10_keep lk_L_152 rfl ⟨Nat.le_of_ble_eq_true rfl, Nat.le_of_ble_eq_true rfl⟩ rfl (Nat.le_of_ble_eq_true rfl) dL_law_1242 (fun v190 σ70 => ?_)
        refine x_icmp_eq (pc := 1245) (tgt := 1519) g (by decide) dL_law_1245 ?_ ?_
        · exact hj1519 σ70
        · refine x_iconst (pc := 1248) (v := (0 : Int32)) g (by decide) dL_law_1248 ?_
          exact x_lwret (pc := 1249) hbA2 g hrt hcl dL_law_1249
      refine x_eqs ?_ (fun hs35 => ?_)
      · refine x_tabIn (pc := 33) (tgt := 1250) (off := 1217) g (by decide) (by decide) dL_law_33 ?_
        refine x_aload_n (pc := 1250) g rfl 1 rfl dL_law_1250 ?_
        refine x_aload_n (pc := 1251) g rfl 0 rfl dL_law_1251 ?_
        refine x_iload_n (pc := 1252) g rfl 3 rfl dL_law_1252 ?_
        refine x_iconst (pc := 1253) (v := (1 : Int32)) g (by decide) dL_law_1253 ?_
        refine x_iadd (pc := 1254) g dL_law_1254 ?_
        refine x_sld (pc := 1255) g hX hbl hbA hL dL_law_1255 (fun v191 => ?_)
        refine x_aload_n (pc := 1256) g rfl 0 rfl dL_law_1256 ?_
        refine x_iload_n (pc := 1257) g rfl 3 rfl dL_law_1257 ?_
        refine x_iconst (pc := 1258) (v := (2 : Int32)) g (by decide) dL_law_1258 ?_
        refine x_iadd (pc := 1259) g dL_law_1259 ?_
        refine x_sld (pc := 1260) g hX hbl hbA hL dL_law_1260 (fun v192 => ?_)
        refine x_aload_n (pc := 1261) g rfl 0 rfl dL_law_1261 ?_
        refine x_iload_n (pc := 1262) g rfl 3 rfl dL_law_1262 ?_
        refine x_iconst (pc := 1263) (v := (3 : Int32)) g (by decide) dL_law_1263 ?_
        refine x_iadd (pc := 1264) g dL_law_1264 ?_
        refine x_sld (pc := 1265) g hX hbl hbA hL dL_law_1265 (fun v193 => ?_)
        refine x_callVI (pc := 1266) (hkc := hkc) (As := [.int v191, .int v192, .int v193]) g sh_0 (mc_X9_row N v191 v192 v193) cw_X9_row lk_L_153 rfl ⟨Nat.le_of_ble_eq_true rfl, Nat.le_of_ble_eq_true rfl⟩ rfl (Nat.le_of_ble_eq_true rfl) dL_law_1266 (fun v194 σ71 => ?_)
        refine x_aload_n (pc := 1269) g rfl 2 rfl dL_law_1269 ?_
        refine x_aload_n (pc := 1270) g rfl 0 rfl dL_law_1270 ?_
        refine x_iload_n (pc := 1271) g rfl 3 rfl dL_law_1271 ?_
        refine x_iconst (pc := 1272) (v := (1 : Int32)) g (by decide) dL_law_1272 ?_
        refine x_iadd (pc := 1273) g dL_law_1273 ?_
        refine x_sld (pc := 1274) g hX hbl hbA hL dL_law_1274 (fun v195 => ?_)
        refine x_aload_n (pc := 1275) g rfl 0 rfl dL_law_1275 ?_
        refine x_iload_n (pc := 1276) g rfl 3 rfl dL_law_1276 ?_
        refine x_iconst (pc := 1277) (v := (2 : Int32)) g (by decide) dL_law_1277 ?_
        refine x_iadd (pc := 1278) g dL_law_1278 ?_
        refine x_sld (pc := 1279) g hX hbl hbA hL dL_law_1279 (fun v196 => ?_)
        refine x_aload_n (pc := 1280) g rfl 0 rfl dL_law_1280 ?_
        refine x_iload_n (pc := 1281) g rfl 3 rfl dL_law_1281 ?_
        refine x_iconst (pc := 1282) (v := (3 : Int32)) g (by decide) dL_law_1282 ?_
        refine x_iadd (pc := 1283) g dL_law_1283 ?_
        refine x_sld (pc := 1284) g hX hbl hbA hL dL_law_1284 (fun v197 => ?_)
        refine x_callVI (pc := 1285) (hkc := hkc) (As := [.int v195, .int v196, .int v197]) g sh_103 (mc_X10_row N v195 v196 v197) cw_X10_row lk_L_156 rfl ⟨Nat.le_of_ble_eq_true rfl, Nat.le_of_ble_eq_true rfl⟩ rfl (Nat.le_of_ble_eq_true rfl) dL_law_1285 (fun v198 σ72 => ?_)
        refine x_icmp_eq (pc := 1288) (tgt := 1519) g (by decide) dL_law_1288 ?_ ?_
        · exact hj1519 σ72
        · refine x_iconst (pc := 1291) (v := (0 : Int32)) g (by decide) dL_law_1291 ?_
          exact x_lwret (pc := 1292) hbA2 g hrt hcl dL_law_1292
      refine x_eqs ?_ (fun hs36 => ?_)
      · refine x_tabIn (pc := 33) (tgt := 1293) (off := 1260) g (by decide) (by decide) dL_law_33 ?_
        refine x_aload_n (pc := 1293) g rfl 1 rfl dL_law_1293 ?_
        refine x_aload_n (pc := 1294) g rfl 0 rfl dL_law_1294 ?_
        refine x_iload_n (pc := 1295) g rfl 3 rfl dL_law_1295 ?_
        refine x_iconst (pc := 1296) (v := (1 : Int32)) g (by decide) dL_law_1296 ?_
        refine x_iadd (pc := 1297) g dL_law_1297 ?_
        refine x_sld (pc := 1298) g hX hbl hbA hL dL_law_1298 (fun v199 => ?_)
        refine x_aload_n (pc := 1299) g rfl 0 rfl dL_law_1299 ?_
        refine x_iload_n (pc := 1300) g rfl 3 rfl dL_law_1300 ?_
        refine x_iconst (pc := 1301) (v := (2 : Int32)) g (by decide) dL_law_1301 ?_
        refine x_iadd (pc := 1302) g dL_law_1302 ?_
        refine x_sld (pc := 1303) g hX hbl hbA hL dL_law_1303 (fun v200 => ?_)
        refine x_aload_n (pc := 1304) g rfl 0 rfl dL_law_1304 ?_
        refine x_iload_n (pc := 1305) g rfl 3 rfl dL_law_1305 ?_
        refine x_iconst (pc := 1306) (v := (3 : Int32)) g (by decide) dL_law_1306 ?_
        refine x_iadd (pc := 1307) g dL_law_1307 ?_
        refine x_sld (pc := 1308) g hX hbl hbA hL dL_law_1308 (fun v201 => ?_)
        refine x_i2l (pc := 1309) g dL_law_1309 ?_
        refine x_bipush (pc := 1310) (v := (32 : Int32)) g (by decide) dL_law_1310 ?_
        refine x_lshl (pc := 1312) g dL_law_1312 ?_
        refine x_aload_n (pc := 1313) g rfl 0 rfl dL_law_1313 ?_
        refine x_iload_n (pc := 1314) g rfl 3 rfl dL_law_1314 ?_
        refine x_iconst (pc := 1315) (v := (4 : Int32)) g (by decide) dL_law_1315 ?_
        refine x_iadd (pc := 1316) g dL_law_1316 ?_
        refine x_sld (pc := 1317) g hX hbl hbA hL dL_law_1317 (fun v202 => ?_)
        refine x_i2l (pc := 1318) g dL_law_1318 ?_
        refine x_ldc2 (pc := 1319) (v := (4294967295 : Int64)) g ct_L_157 dL_law_1319 ?_
        refine x_land (pc := 1322) g dL_law_1322 ?_
        refine x_lor (pc := 1323) g dL_law_1323 ?_
        refine x_callVI (pc := 1324) (hkc := hkc) (As := [.int v199, .int v200, .long ((jlshl v201.toInt64 (32 : Int32)) ||| (v202.toInt64 &&& (4294967295 : Int64)))]) g sh_0 (mc_X9_put v199 v200 ((jlshl v201.toInt64 (32 : Int32)) ||| (v202.toInt64 &&& (4294967295 : Int64)))) cw_X9_put lk_L_159 rfl ⟨Nat.le_of_ble_eq_true rfl, Nat.le_of_ble_eq_true rfl⟩ rfl (Nat.le_of_ble_eq_true rfl) dL_law_1324 (fun v203 σ73 => ?_)
        refine x_aload_n (pc := 1327) g rfl 2 rfl dL_law_1327 ?_
        refine x_aload_n (pc := 1328) g rfl 0 rfl dL_law_1328 ?_
        refine x_iload_n (pc := 1329) g rfl 3 rfl dL_law_1329 ?_
        refine x_iconst (pc := 1330) (v := (1 : Int32)) g (by decide) dL_law_1330 ?_
        refine x_iadd (pc := 1331) g dL_law_1331 ?_
        refine x_sld (pc := 1332) g hX hbl hbA hL dL_law_1332 (fun v204 => ?_)
        refine x_aload_n (pc := 1333) g rfl 0 rfl dL_law_1333 ?_
        refine x_iload_n (pc := 1334) g rfl 3 rfl dL_law_1334 ?_
        refine x_iconst (pc := 1335) (v := (2 : Int32)) g (by decide) dL_law_1335 ?_
        refine x_iadd (pc := 1336) g dL_law_1336 ?_
        refine x_sld (pc := 1337) g hX hbl hbA hL dL_law_1337 (fun v205 => ?_)
        refine x_aload_n (pc := 1338) g rfl 0 rfl dL_law_1338 ?_
        refine x_iload_n (pc := 1339) g rfl 3 rfl dL_law_1339 ?_
        refine x_iconst (pc := 1340) (v := (3 : Int32)) g (by decide) dL_law_1340 ?_
        refine x_iadd (pc := 1341) g dL_law_1341 ?_
        refine x_sld (pc := 1342) g hX hbl hbA hL dL_law_1342 (fun v206 => ?_)
        refine x_i2l (pc := 1343) g dL_law_1343 ?_
        refine x_bipush (pc := 1344) (v := (32 : Int32)) g (by decide) dL_law_1344 ?_
        refine x_lshl (pc := 1346) g dL_law_1346 ?_
        refine x_aload_n (pc := 1347) g rfl 0 rfl dL_law_1347 ?_
        refine x_iload_n (pc := 1348) g rfl 3 rfl dL_law_1348 ?_
        refine x_iconst (pc := 1349) (v := (4 : Int32)) g (by decide) dL_law_1349 ?_
        refine x_iadd (pc := 1350) g dL_law_1350 ?_
        refine x_sld (pc := 1351) g hX hbl hbA hL dL_law_1351 (fun v207 => ?_)
        refine x_i2l (pc := 1352) g dL_law_1352 ?_
        refine x_ldc2 (pc := 1353) (v := (4294967295 : Int64)) g ct_L_157 dL_law_1353 ?_
        refine x_land (pc := 1356) g dL_law_1356 ?_
        refine x_lor (pc := 1357) g dL_law_1357 ?_
        refine x_callVI (pc := 1358) (hkc := hkc) (As := [.int v204, .int v205, .long ((jlshl v206.toInt64 (32 : Int32)) ||| (v207.toInt64 &&& (4294967295 : Int64)))]) g sh_103 (mc_X10_put v204 v205 ((jlshl v206.toInt64 (32 : Int32)) ||| (v207.toInt64 &&& (4294967295 : Int64)))) cw_X10_put lk_L_163 rfl ⟨Nat.le_of_ble_eq_true rfl, Nat.le_of_ble_eq_true rfl⟩ rfl (Nat.le_of_ble_eq_true rfl) dL_law_1358 (fun v208 σ74 => ?_)
        refine x_icmp_eq (pc := 1361) (tgt := 1519) g (by decide) dL_law_1361 ?_ ?_
        · exact hj1519 σ74
        · refine x_iconst (pc := 1364) (v := (0 : Int32)) g (by decide) dL_law_1364 ?_
          exact x_lwret (pc := 1365) hbA2 g hrt hcl dL_law_1365
      refine x_eqs ?_ (fun hs37 => ?_)
      · refine x_tabIn (pc := 33) (tgt := 1366) (off := 1333) g (by decide) (by decide) dL_law_33 ?_
        refine x_aload_n (pc := 1366) g rfl 1 rfl dL_law_1366 ?_
        refine x_aload_n (pc := 1367) g rfl 0 rfl dL_law_1367 ?_
        refine x_iload_n (pc := 1368) g rfl 3 rfl dL_law_1368 ?_
        refine x_iconst (pc := 1369) (v := (1 : Int32)) g (by decide) dL_law_1369 ?_
        refine x_iadd (pc := 1370) g dL_law_1370 ?_
        refine x_sld (pc := 1371) g hX hbl hbA hL dL_law_1371 (fun v209 => ?_)
        refine x_aload_n (pc := 1372) g rfl 0 rfl dL_law_1372 ?_
        refine x_iload_n (pc := 1373) g rfl 3 rfl dL_law_1373 ?_
        refine x_iconst (pc := 1374) (v := (2 : Int32)) g (by decide) dL_law_1374 ?_
        refine x_iadd (pc := 1375) g dL_law_1375 ?_
        refine x_sld (pc := 1376) g hX hbl hbA hL dL_law_1376 (fun v210 => ?_)
        refine x_callVL (pc := 1377) (hkc := hkc) (As := [.int v209, .int v210]) g sh_0 (mc_X9_element v209 v210) cw_X9_element lk_L_164 rfl ⟨Nat.le_of_ble_eq_true rfl, Nat.le_of_ble_eq_true rfl⟩ rfl (Nat.le_of_ble_eq_true rfl) dL_law_1377 (fun z1 σ75 => ?_)
        refine x_aload_n (pc := 1380) g rfl 2 rfl dL_law_1380 ?_
        refine x_aload_n (pc := 1381) g rfl 0 rfl dL_law_1381 ?_
        refine x_iload_n (pc := 1382) g rfl 3 rfl dL_law_1382 ?_
        refine x_iconst (pc := 1383) (v := (1 : Int32)) g (by decide) dL_law_1383 ?_
        refine x_iadd (pc := 1384) g dL_law_1384 ?_
        refine x_sld (pc := 1385) g hX hbl hbA hL dL_law_1385 (fun v211 => ?_)
        refine x_aload_n (pc := 1386) g rfl 0 rfl dL_law_1386 ?_
        refine x_iload_n (pc := 1387) g rfl 3 rfl dL_law_1387 ?_
        refine x_iconst (pc := 1388) (v := (2 : Int32)) g (by decide) dL_law_1388 ?_
        refine x_iadd (pc := 1389) g dL_law_1389 ?_
        refine x_sld (pc := 1390) g hX hbl hbA hL dL_law_1390 (fun v212 => ?_)
        refine x_callVL (pc := 1391) (hkc := hkc) (As := [.int v211, .int v212]) g sh_103 (mc_X10_element v211 v212) cw_X10_element lk_L_168 rfl ⟨Nat.le_of_ble_eq_true rfl, Nat.le_of_ble_eq_true rfl⟩ rfl (Nat.le_of_ble_eq_true rfl) dL_law_1391 (fun z2 σ76 => ?_)
        refine x_lcmp (pc := 1394) g dL_law_1394 ?_
        refine x_if_eq (pc := 1395) (tgt := 1519) g (by decide) dL_law_1395 ?_ ?_
        · exact hj1519 σ76
        · refine x_iconst (pc := 1398) (v := (0 : Int32)) g (by decide) dL_law_1398 ?_
          exact x_lwret (pc := 1399) hbA2 g hrt hcl dL_law_1399
      refine x_eqs ?_ (fun hs38 => ?_)
      · refine x_tabIn (pc := 33) (tgt := 1400) (off := 1367) g (by decide) (by decide) dL_law_33 ?_
        refine x_aload_n (pc := 1400) g rfl 1 rfl dL_law_1400 ?_
        refine x_aload_n (pc := 1401) g rfl 0 rfl dL_law_1401 ?_
        refine x_iload_n (pc := 1402) g rfl 3 rfl dL_law_1402 ?_
        refine x_iconst (pc := 1403) (v := (1 : Int32)) g (by decide) dL_law_1403 ?_
        refine x_iadd (pc := 1404) g dL_law_1404 ?_
        refine x_sld (pc := 1405) g hX hbl hbA hL dL_law_1405 (fun v213 => ?_)
        refine x_aload_n (pc := 1406) g rfl 0 rfl dL_law_1406 ?_
        refine x_iload_n (pc := 1407) g rfl 3 rfl dL_law_1407 ?_
        refine x_iconst (pc := 1408) (v := (2 : Int32)) g (by decide) dL_law_1408 ?_
        refine x_iadd (pc := 1409) g dL_law_1409 ?_
        refine x_sld (pc := 1410) g hX hbl hbA hL dL_law_1410 (fun v214 => ?_)
        refine x_aload_n (pc := 1411) g rfl 0 rfl dL_law_1411 ?_
        refine x_iload_n (pc := 1412) g rfl 3 rfl dL_law_1412 ?_
        refine x_iconst (pc := 1413) (v := (3 : Int32)) g (by decide) dL_law_1413 ?_
        refine x_iadd (pc := 1414) g dL_law_1414 ?_
        refine x_sld (pc := 1415) g hX hbl hbA hL dL_law_1415 (fun v215 => ?_)
        refine x_aload_n (pc := 1416) g rfl 0 rfl dL_law_1416 ?_
        refine x_iload_n (pc := 1417) g rfl 3 rfl dL_law_1417 ?_
        refine x_iconst (pc := 1418) (v := (4 : Int32)) g (by decide) dL_law_1418 ?_
        refine x_iadd (pc := 1419) g dL_law_1419 ?_
        refine x_sld (pc := 1420) g hX hbl hbA hL dL_law_1420 (fun v216 => ?_)
        refine x_aload_n (pc := 1421) g rfl 0 rfl dL_law_1421 ?_
        refine x_iload_n (pc := 1422) g rfl 3 rfl dL_law_1422 ?_
        refine x_iconst (pc := 1423) (v := (5 : Int32)) g (by decide) dL_law_1423 ?_
        refine x_iadd (pc := 1424) g dL_law_1424 ?_
        refine x_sld (pc := 1425) g hX hbl hbA hL dL_law_1425 (fun v217 => ?_)
        refine x_callVI (pc := 1426) (hkc := hkc) (As := [.int v213, .int v214, .int v215, .int v216, .int v217]) g sh_0 (mc_X9_shift v213 v214 v215 v216 v217) cw_X9_shift lk_L_169 rfl ⟨Nat.le_of_ble_eq_true rfl, Nat.le_of_ble_eq_true rfl⟩ rfl (Nat.le_of_ble_eq_true rfl) dL_law_1426 (fun v218 σ77 => ?_)
        refine x_aload_n (pc := 1429) g rfl 2 rfl dL_law_1429 ?_
        refine x_aload_n (pc := 1430) g rfl 0 rfl dL_law_1430 ?_
        refine x_iload_n (pc := 1431) g rfl 3 rfl dL_law_1431 ?_
        refine x_iconst (pc := 1432) (v := (1 : Int32)) g (by decide) dL_law_1432 ?_
        refine x_iadd (pc := 1433) g dL_law_1433 ?_
        refine x_sld (pc := 1434) g hX hbl hbA hL dL_law_1434 (fun v219 => ?_)
        refine x_aload_n (pc := 1435) g rfl 0 rfl dL_law_1435 ?_
        refine x_iload_n (pc := 1436) g rfl 3 rfl dL_law_1436 ?_
        refine x_iconst (pc := 1437) (v := (2 : Int32)) g (by decide) dL_law_1437 ?_
        refine x_iadd (pc := 1438) g dL_law_1438 ?_
        refine x_sld (pc := 1439) g hX hbl hbA hL dL_law_1439 (fun v220 => ?_)
        refine x_aload_n (pc := 1440) g rfl 0 rfl dL_law_1440 ?_
        refine x_iload_n (pc := 1441) g rfl 3 rfl dL_law_1441 ?_
        refine x_iconst (pc := 1442) (v := (3 : Int32)) g (by decide) dL_law_1442 ?_
        refine x_iadd (pc := 1443) g dL_law_1443 ?_
        refine x_sld (pc := 1444) g hX hbl hbA hL dL_law_1444 (fun v221 => ?_)
        refine x_aload_n (pc := 1445) g rfl 0 rfl dL_law_1445 ?_
        refine x_iload_n (pc := 1446) g rfl 3 rfl dL_law_1446 ?_
        refine x_iconst (pc := 1447) (v := (4 : Int32)) g (by decide) dL_law_1447 ?_
        refine x_iadd (pc := 1448) g dL_law_1448 ?_
        refine x_sld (pc := 1449) g hX hbl hbA hL dL_law_1449 (fun v222 => ?_)
        refine x_aload_n (pc := 1450) g rfl 0 rfl dL_law_1450 ?_
        refine x_iload_n (pc := 1451) g rfl 3 rfl dL_law_1451 ?_
        refine x_iconst (pc := 1452) (v := (5 : Int32)) g (by decide) dL_law_1452 ?_
        refine x_iadd (pc := 1453) g dL_law_1453 ?_
        refine x_sld (pc := 1454) g hX hbl hbA hL dL_law_1454 (fun v223 => ?_)
        refine x_callVI (pc := 1455) (hkc := hkc) (As := [.int v219, .int v220, .int v221, .int v222, .int v223]) g sh_103 (mc_X10_shift N v219 v220 v221 v222 v223) cw_X10_shift lk_L_173 rfl ⟨Nat.le_of_ble_eq_true rfl, Nat.le_of_ble_eq_true rfl⟩ rfl (Nat.le_of_ble_eq_true rfl) dL_law_1455 (fun v224 σ78 => ?_)
        refine x_icmp_eq (pc := 1458) (tgt := 1519) g (by decide) dL_law_1458 ?_ ?_
        · exact hj1519 σ78
        · refine x_iconst (pc := 1461) (v := (0 : Int32)) g (by decide) dL_law_1461 ?_
          exact x_lwret (pc := 1462) hbA2 g hrt hcl dL_law_1462
      refine x_eqs ?_ (fun hs39 => ?_)
      · refine x_tabIn (pc := 33) (tgt := 1463) (off := 1430) g (by decide) (by decide) dL_law_33 ?_
        refine x_aload_n (pc := 1463) g rfl 1 rfl dL_law_1463 ?_
        refine x_aload_n (pc := 1464) g rfl 0 rfl dL_law_1464 ?_
        refine x_iload_n (pc := 1465) g rfl 3 rfl dL_law_1465 ?_
        refine x_iconst (pc := 1466) (v := (1 : Int32)) g (by decide) dL_law_1466 ?_
        refine x_iadd (pc := 1467) g dL_law_1467 ?_
        refine x_sld (pc := 1468) g hX hbl hbA hL dL_law_1468 (fun v225 => ?_)
        refine x_aload_n (pc := 1469) g rfl 0 rfl dL_law_1469 ?_
        refine x_iload_n (pc := 1470) g rfl 3 rfl dL_law_1470 ?_
        refine x_iconst (pc := 1471) (v := (2 : Int32)) g (by decide) dL_law_1471 ?_
        refine x_iadd (pc := 1472) g dL_law_1472 ?_
        refine x_sld (pc := 1473) g hX hbl hbA hL dL_law_1473 (fun v226 => ?_)
        refine x_callVI (pc := 1474) (hkc := hkc) (As := [.int v225, .int v226]) g sh_0 (mc_X9_taken N v225 v226) cw_X9_taken lk_L_174 rfl ⟨Nat.le_of_ble_eq_true rfl, Nat.le_of_ble_eq_true rfl⟩ rfl (Nat.le_of_ble_eq_true rfl) dL_law_1474 (fun v227 σ79 => ?_)
        refine x_aload_n (pc := 1477) g rfl 2 rfl dL_law_1477 ?_
        refine x_aload_n (pc := 1478) g rfl 0 rfl dL_law_1478 ?_
        refine x_iload_n (pc := 1479) g rfl 3 rfl dL_law_1479 ?_
        refine x_iconst (pc := 1480) (v := (1 : Int32)) g (by decide) dL_law_1480 ?_
        refine x_iadd (pc := 1481) g dL_law_1481 ?_
        refine x_sld (pc := 1482) g hX hbl hbA hL dL_law_1482 (fun v228 => ?_)
        refine x_aload_n (pc := 1483) g rfl 0 rfl dL_law_1483 ?_
        refine x_iload_n (pc := 1484) g rfl 3 rfl dL_law_1484 ?_
        refine x_iconst (pc := 1485) (v := (2 : Int32)) g (by decide) dL_law_1485 ?_
        refine x_iadd (pc := 1486) g dL_law_1486 ?_
        refine x_sld (pc := 1487) g hX hbl hbA hL dL_law_1487 (fun v229 => ?_)
        refine x_callVI (pc := 1488) (hkc := hkc) (As := [.int v228, .int v229]) g sh_103 (mc_X10_taken v228 v229) cw_X10_taken lk_L_177 rfl ⟨Nat.le_of_ble_eq_true rfl, Nat.le_of_ble_eq_true rfl⟩ rfl (Nat.le_of_ble_eq_true rfl) dL_law_1488 (fun v230 σ80 => ?_)
        refine x_icmp_eq (pc := 1491) (tgt := 1519) g (by decide) dL_law_1491 ?_ ?_
        · exact hj1519 σ80
        · refine x_iconst (pc := 1494) (v := (0 : Int32)) g (by decide) dL_law_1494 ?_
          exact x_lwret (pc := 1495) hbA2 g hrt hcl dL_law_1495
      refine x_eqs ?_ (fun hs40 => ?_)
      · refine x_tabIn (pc := 33) (tgt := 1496) (off := 1463) g (by decide) (by decide) dL_law_33 ?_
        refine x_aload_n (pc := 1496) g rfl 1 rfl dL_law_1496 ?_
        refine x_aload_n (pc := 1497) g rfl 0 rfl dL_law_1497 ?_
        refine x_iload_n (pc := 1498) g rfl 3 rfl dL_law_1498 ?_
        refine x_iconst (pc := 1499) (v := (1 : Int32)) g (by decide) dL_law_1499 ?_
        refine x_iadd (pc := 1500) g dL_law_1500 ?_
        refine x_sld (pc := 1501) g hX hbl hbA hL dL_law_1501 (fun v231 => ?_)
        refine x_callVI (pc := 1502) (hkc := hkc) (As := [.int v231]) g sh_0 (mc_X9_count N v231) cw_X9_count lk_L_178 rfl ⟨Nat.le_of_ble_eq_true rfl, Nat.le_of_ble_eq_true rfl⟩ rfl (Nat.le_of_ble_eq_true rfl) dL_law_1502 (fun v232 σ81 => ?_)
        refine x_aload_n (pc := 1505) g rfl 2 rfl dL_law_1505 ?_
        refine x_aload_n (pc := 1506) g rfl 0 rfl dL_law_1506 ?_
        refine x_iload_n (pc := 1507) g rfl 3 rfl dL_law_1507 ?_
        refine x_iconst (pc := 1508) (v := (1 : Int32)) g (by decide) dL_law_1508 ?_
        refine x_iadd (pc := 1509) g dL_law_1509 ?_
        refine x_sld (pc := 1510) g hX hbl hbA hL dL_law_1510 (fun v233 => ?_)
        refine x_callVI (pc := 1511) (hkc := hkc) (As := [.int v233]) g sh_103 (mc_X10_count N v233) cw_X10_count lk_L_181 rfl ⟨Nat.le_of_ble_eq_true rfl, Nat.le_of_ble_eq_true rfl⟩ rfl (Nat.le_of_ble_eq_true rfl) dL_law_1511 (fun v234 σ82 => ?_)
        refine x_icmp_eq (pc := 1514) (tgt := 1519) g (by decide) dL_law_1514 ?_ ?_
        · exact hj1519 σ82
        · refine x_iconst (pc := 1517) (v := (0 : Int32)) g (by decide) dL_law_1517 ?_
          exact x_lwret (pc := 1518) hbA2 g hrt hcl dL_law_1518
      refine x_tabOut (pc := 33) (tgt := 1519) g (fun i h1 h2 => ?_) (by decide) dL_law_33 ?_
      · rcases (show i = 0 ∨ i = 1 ∨ i = 2 ∨ i = 3 ∨ i = 4 ∨ i = 5 ∨ i = 6 ∨ i = 7 ∨ i = 8 ∨ i = 9 ∨ i = 10 ∨ i = 11 ∨ i = 12 ∨ i = 13 ∨ i = 14 ∨ i = 15 ∨ i = 16 ∨ i = 17 ∨ i = 18 ∨ i = 19 ∨ i = 20 ∨ i = 21 ∨ i = 22 ∨ i = 23 ∨ i = 24 ∨ i = 25 ∨ i = 26 ∨ i = 27 ∨ i = 28 ∨ i = 29 ∨ i = 30 ∨ i = 31 ∨ i = 32 ∨ i = 33 ∨ i = 34 ∨ i = 35 ∨ i = 36 ∨ i = 37 ∨ i = 38 ∨ i = 39 by omega) with rfl | rfl | rfl | rfl | rfl | rfl | rfl | rfl | rfl | rfl | rfl | rfl | rfl | rfl | rfl | rfl | rfl | rfl | rfl | rfl | rfl | rfl | rfl | rfl | rfl | rfl | rfl | rfl | rfl | rfl | rfl | rfl | rfl | rfl | rfl | rfl | rfl | rfl | rfl | rfl
        · exact hs1
        · exact hs2
        · exact hs3
        · exact hs4
        · exact hs5
        · exact hs6
        · exact hs7
        · exact hs8
        · exact hs9
        · exact hs10
        · exact hs11
        · exact hs12
        · exact hs13
        · exact hs14
        · exact hs15
        · exact hs16
        · exact hs17
        · exact hs18
        · exact hs19
        · exact hs20
        · exact hs21
        · exact hs22
        · exact hs23
        · exact hs24
        · exact hs25
        · exact hs26
        · exact hs27
        · exact hs28
        · exact hs29
        · exact hs30
        · exact hs31
        · exact hs32
        · exact hs33
        · exact hs34
        · exact hs35
        · exact hs36
        · exact hs37
        · exact hs38
        · exact hs39
        · exact hs40
      · exact hj1519 σ1
