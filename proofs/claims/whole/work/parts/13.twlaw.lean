def bq_sc (xs : Nat → Int32) (Ln : Nat) (i : Int32) : Option Int32 := if i < 0 ∨ Ln ≤ i.toNatClampNeg then none else some (xs i.toNatClampNeg)
theorem bq_scE {xs : Nat → Int32} {Ln : Nat} {i v : Int32} (h : bq_sc xs Ln i = some v) : vp_in i Ln ∧ v = xs i.toNatClampNeg := by
  unfold bq_sc at h
  split at h
  · cases h
  · rename_i hc; cases h; exact ⟨hc, rfl⟩
def tl_law (xs : Nat → Int32) (Ln a1 a2 a3 : Nat) : Nat → Int32 → bq_E → Option Unit
  | 0, _, _ => none
  | t + 1, y4, E =>
      if ((Int32.ofNat Ln) - (5 : Int32)) < y4 then
        (some ())
      else
        ((bq_sc xs Ln y4).bind fun v1 =>
        if (v1 &&& (31 : Int32)) = 0 then
          ((bq_sc xs Ln (y4 + (1 : Int32))).bind fun v2 =>
          (bq_sc xs Ln (y4 + (2 : Int32))).bind fun v3 =>
          (tw_L_addNode E a1 v2 v3 a3).bind fun v4 =>
          (bq_sc xs Ln (y4 + (1 : Int32))).bind fun v5 =>
          (bq_sc xs Ln (y4 + (2 : Int32))).bind fun v6 =>
          (tw_X7_addNode v4.2 a2 v5 v6).bind fun v7 =>
          (tw_X7_thrown v7.2 a2).bind fun v8 =>
          if v8 = v4.1 then
            (if v4.1 = 0 then
              ((bq_al v7.2 a3 (0 : Int32)).bind fun v10 =>
              if (lg_cmp v10 (Int32.toInt64 v7.1)) = 0 then
                (bq_let (y4 + 5) fun v11 =>
                tl_law xs Ln a1 a2 a3 t v11 v7.2)
              else
                (none))
            else
              (bq_let (y4 + 5) fun v9 =>
              tl_law xs Ln a1 a2 a3 t v9 v7.2))
          else
            (none))
        else
        if (v1 &&& (31 : Int32)) = 1 then
          ((bq_sc xs Ln (y4 + (1 : Int32))).bind fun v12 =>
          (bq_sc xs Ln (y4 + (2 : Int32))).bind fun v13 =>
          (tw_L_add E a1 v12 v13 a3).bind fun v14 =>
          (bq_sc xs Ln (y4 + (1 : Int32))).bind fun v15 =>
          (bq_sc xs Ln (y4 + (2 : Int32))).bind fun v16 =>
          (tw_X7_add v14.2 a2 v15 v16).bind fun v17 =>
          bq_let (bq_b v17.1) fun v18 =>
          (tw_X7_thrown v17.2 a2).bind fun v19 =>
          if v19 = v14.1 then
            (if v14.1 = 0 then
              ((bq_al v17.2 a3 (0 : Int32)).bind fun v21 =>
              if v18 = 0 then
                (if (lg_cmp v21 (0 : Int64)) = 0 then
                  (bq_let (y4 + 5) fun v22 =>
                  tl_law xs Ln a1 a2 a3 t v22 v17.2)
                else
                  (none))
              else
                (if (lg_cmp v21 (1 : Int64)) = 0 then
                  (bq_let (y4 + 5) fun v23 =>
                  tl_law xs Ln a1 a2 a3 t v23 v17.2)
                else
                  (none)))
            else
              (bq_let (y4 + 5) fun v20 =>
              tl_law xs Ln a1 a2 a3 t v20 v17.2))
          else
            (none))
        else
        if (v1 &&& (31 : Int32)) = 2 then
          ((bq_sc xs Ln (y4 + (1 : Int32))).bind fun v24 =>
          (bq_sc xs Ln (y4 + (2 : Int32))).bind fun v25 =>
          (tw_L_remove E a1 v24 v25 a3).bind fun v26 =>
          (bq_sc xs Ln (y4 + (1 : Int32))).bind fun v27 =>
          (bq_sc xs Ln (y4 + (2 : Int32))).bind fun v28 =>
          (tw_X7_remove v26.2 a2 v27 v28).bind fun v29 =>
          bq_let (bq_b v29.1) fun v30 =>
          (tw_X7_thrown v29.2 a2).bind fun v31 =>
          if v31 = v26.1 then
            (if v26.1 = 0 then
              ((bq_al v29.2 a3 (0 : Int32)).bind fun v33 =>
              if v30 = 0 then
                (if (lg_cmp v33 (0 : Int64)) = 0 then
                  (bq_let (y4 + 5) fun v34 =>
                  tl_law xs Ln a1 a2 a3 t v34 v29.2)
                else
                  (none))
              else
                (if (lg_cmp v33 (1 : Int64)) = 0 then
                  (bq_let (y4 + 5) fun v35 =>
                  tl_law xs Ln a1 a2 a3 t v35 v29.2)
                else
                  (none)))
            else
              (bq_let (y4 + 5) fun v32 =>
              tl_law xs Ln a1 a2 a3 t v32 v29.2))
          else
            (none))
        else
        if (v1 &&& (31 : Int32)) = 3 then
          ((bq_sc xs Ln (y4 + (1 : Int32))).bind fun v36 =>
          (bq_sc xs Ln (y4 + (2 : Int32))).bind fun v37 =>
          (bq_sc xs Ln (y4 + (3 : Int32))).bind fun v38 =>
          (bq_sc xs Ln (y4 + (4 : Int32))).bind fun v39 =>
          (tw_L_addSeries E a1 v36 v37 v38 v39 a3).bind fun v40 =>
          (bq_sc xs Ln (y4 + (1 : Int32))).bind fun v41 =>
          (bq_sc xs Ln (y4 + (2 : Int32))).bind fun v42 =>
          (bq_sc xs Ln (y4 + (3 : Int32))).bind fun v43 =>
          (bq_sc xs Ln (y4 + (4 : Int32))).bind fun v44 =>
          (tw_X7_addSeries v40.2 a2 v41 v42 v43 v44).bind fun v45 =>
          (tw_X7_thrown v45.2 a2).bind fun v46 =>
          if v46 = v40.1 then
            (if v40.1 = 0 then
              ((bq_al v45.2 a3 (0 : Int32)).bind fun v48 =>
              if (lg_cmp v48 (Int32.toInt64 v45.1)) = 0 then
                (bq_let (y4 + 5) fun v49 =>
                tl_law xs Ln a1 a2 a3 t v49 v45.2)
              else
                (none))
            else
              (bq_let (y4 + 5) fun v47 =>
              tl_law xs Ln a1 a2 a3 t v47 v45.2))
          else
            (none))
        else
        if (v1 &&& (31 : Int32)) = 4 then
          ((bq_sc xs Ln (y4 + (1 : Int32))).bind fun v50 =>
          (bq_sc xs Ln (y4 + (2 : Int32))).bind fun v51 =>
          (tw_L_setSizes E a1 v50 v51 a3).bind fun v52 =>
          (bq_sc xs Ln (y4 + (1 : Int32))).bind fun v53 =>
          (bq_sc xs Ln (y4 + (2 : Int32))).bind fun v54 =>
          (tw_X7_setSizes v52.2 a2 v53 v54).bind fun v55 =>
          (tw_X7_thrown v55.2 a2).bind fun v56 =>
          if v56 = v52.1 then
            (if v52.1 = 0 then
              ((bq_al v55.2 a3 (0 : Int32)).bind fun v58 =>
              if (lg_cmp v58 (Int32.toInt64 v55.1)) = 0 then
                (bq_let (y4 + 5) fun v59 =>
                tl_law xs Ln a1 a2 a3 t v59 v55.2)
              else
                (none))
            else
              (bq_let (y4 + 5) fun v57 =>
              tl_law xs Ln a1 a2 a3 t v57 v55.2))
          else
            (none))
        else
        if (v1 &&& (31 : Int32)) = 5 then
          ((bq_sc xs Ln (y4 + (1 : Int32))).bind fun v60 =>
          (tw_L_rebuild E a1 v60 a3).bind fun v61 =>
          (bq_sc xs Ln (y4 + (1 : Int32))).bind fun v62 =>
          (tw_X7_rebuild v61.2 a2 v62).bind fun v63 =>
          (tw_X7_thrown v63.2 a2).bind fun v64 =>
          if v64 = v61.1 then
            (if v61.1 = 0 then
              ((bq_al v63.2 a3 (0 : Int32)).bind fun v66 =>
              if (lg_cmp v66 (Int32.toInt64 v63.1)) = 0 then
                (bq_let (y4 + 5) fun v67 =>
                tl_law xs Ln a1 a2 a3 t v67 v63.2)
              else
                (none))
            else
              (bq_let (y4 + 5) fun v65 =>
              tl_law xs Ln a1 a2 a3 t v65 v63.2))
          else
            (none))
        else
        if (v1 &&& (31 : Int32)) = 6 then
          ((tw_X6_rebuildAll E a1).bind fun v68 =>
          (tw_X7_rebuildAll v68.2 a2).bind fun v69 =>
          if v68.1 = v69.1 then
            (bq_let (y4 + 5) fun v70 =>
            tl_law xs Ln a1 a2 a3 t v70 v69.2)
          else
            (none))
        else
        if (v1 &&& (31 : Int32)) = 7 then
          ((bq_sc xs Ln (y4 + (1 : Int32))).bind fun v71 =>
          (bq_sc xs Ln (y4 + (2 : Int32))).bind fun v72 =>
          (tw_L_search E a1 v71 v72 a3).bind fun v73 =>
          (bq_sc xs Ln (y4 + (1 : Int32))).bind fun v74 =>
          (bq_sc xs Ln (y4 + (2 : Int32))).bind fun v75 =>
          (tw_X7_search v73.2 a2 v74 v75).bind fun v76 =>
          (tw_X7_thrown v76.2 a2).bind fun v77 =>
          if v77 = v73.1 then
            (if v73.1 = 0 then
              ((bq_al v76.2 a3 (0 : Int32)).bind fun v79 =>
              if (lg_cmp v79 (Int32.toInt64 v76.1)) = 0 then
                (bq_let (y4 + 5) fun v80 =>
                tl_law xs Ln a1 a2 a3 t v80 v76.2)
              else
                (none))
            else
              (bq_let (y4 + 5) fun v78 =>
              tl_law xs Ln a1 a2 a3 t v78 v76.2))
          else
            (none))
        else
        if (v1 &&& (31 : Int32)) = 8 then
          ((bq_sc xs Ln (y4 + (1 : Int32))).bind fun v81 =>
          (bq_sc xs Ln (y4 + (2 : Int32))).bind fun v82 =>
          (tw_L_probes E a1 v81 v82 a3).bind fun v83 =>
          (bq_sc xs Ln (y4 + (1 : Int32))).bind fun v84 =>
          (bq_sc xs Ln (y4 + (2 : Int32))).bind fun v85 =>
          (tw_X7_probes v83.2 a2 v84 v85).bind fun v86 =>
          (tw_X7_thrown v86.2 a2).bind fun v87 =>
          if v87 = v83.1 then
            (if v83.1 = 0 then
              ((bq_al v86.2 a3 (0 : Int32)).bind fun v89 =>
              if (lg_cmp v89 (Int32.toInt64 v86.1)) = 0 then
                (bq_let (y4 + 5) fun v90 =>
                tl_law xs Ln a1 a2 a3 t v90 v86.2)
              else
                (none))
            else
              (bq_let (y4 + 5) fun v88 =>
              tl_law xs Ln a1 a2 a3 t v88 v86.2))
          else
            (none))
        else
        if (v1 &&& (31 : Int32)) = 9 then
          ((bq_sc xs Ln (y4 + (1 : Int32))).bind fun v91 =>
          (bq_sc xs Ln (y4 + (2 : Int32))).bind fun v92 =>
          (tw_L_plainProbes E a1 v91 v92 a3).bind fun v93 =>
          (bq_sc xs Ln (y4 + (1 : Int32))).bind fun v94 =>
          (bq_sc xs Ln (y4 + (2 : Int32))).bind fun v95 =>
          (tw_X7_plainProbes v93.2 a2 v94 v95).bind fun v96 =>
          (tw_X7_thrown v96.2 a2).bind fun v97 =>
          if v97 = v93.1 then
            (if v93.1 = 0 then
              ((bq_al v96.2 a3 (0 : Int32)).bind fun v99 =>
              if (lg_cmp v99 (Int32.toInt64 v96.1)) = 0 then
                (bq_let (y4 + 5) fun v100 =>
                tl_law xs Ln a1 a2 a3 t v100 v96.2)
              else
                (none))
            else
              (bq_let (y4 + 5) fun v98 =>
              tl_law xs Ln a1 a2 a3 t v98 v96.2))
          else
            (none))
        else
        if (v1 &&& (31 : Int32)) = 10 then
          ((bq_sc xs Ln (y4 + (1 : Int32))).bind fun v101 =>
          (bq_sc xs Ln (y4 + (2 : Int32))).bind fun v102 =>
          (tw_L_place E a1 v101 v102 a3).bind fun v103 =>
          (bq_sc xs Ln (y4 + (1 : Int32))).bind fun v104 =>
          (bq_sc xs Ln (y4 + (2 : Int32))).bind fun v105 =>
          (tw_X7_place v103.2 a2 v104 v105).bind fun v106 =>
          (tw_X7_thrown v106.2 a2).bind fun v107 =>
          if v107 = v103.1 then
            (if v103.1 = 0 then
              ((bq_al v106.2 a3 (0 : Int32)).bind fun v109 =>
              if (lg_cmp v109 (Int32.toInt64 v106.1)) = 0 then
                (bq_let (y4 + 5) fun v110 =>
                tl_law xs Ln a1 a2 a3 t v110 v106.2)
              else
                (none))
            else
              (bq_let (y4 + 5) fun v108 =>
              tl_law xs Ln a1 a2 a3 t v108 v106.2))
          else
            (none))
        else
        if (v1 &&& (31 : Int32)) = 11 then
          ((bq_sc xs Ln (y4 + (1 : Int32))).bind fun v111 =>
          (bq_sc xs Ln (y4 + (2 : Int32))).bind fun v112 =>
          (tw_L_leastOnPath E a1 v111 v112 a3).bind fun v113 =>
          (bq_sc xs Ln (y4 + (1 : Int32))).bind fun v114 =>
          (bq_sc xs Ln (y4 + (2 : Int32))).bind fun v115 =>
          (tw_X7_leastOnPath v113.2 a2 v114 v115).bind fun v116 =>
          (tw_X7_thrown v116.2 a2).bind fun v117 =>
          if v117 = v113.1 then
            (if v113.1 = 0 then
              ((bq_al v116.2 a3 (0 : Int32)).bind fun v119 =>
              if (lg_cmp v119 (Int32.toInt64 v116.1)) = 0 then
                (bq_let (y4 + 5) fun v120 =>
                tl_law xs Ln a1 a2 a3 t v120 v116.2)
              else
                (none))
            else
              (bq_let (y4 + 5) fun v118 =>
              tl_law xs Ln a1 a2 a3 t v118 v116.2))
          else
            (none))
        else
        if (v1 &&& (31 : Int32)) = 12 then
          ((bq_sc xs Ln (y4 + (1 : Int32))).bind fun v121 =>
          (bq_sc xs Ln (y4 + (2 : Int32))).bind fun v122 =>
          (tw_L_nearestOnPath E a1 v121 v122 a3).bind fun v123 =>
          (bq_sc xs Ln (y4 + (1 : Int32))).bind fun v124 =>
          (bq_sc xs Ln (y4 + (2 : Int32))).bind fun v125 =>
          (tw_X7_nearestOnPath v123.2 a2 v124 v125).bind fun v126 =>
          (tw_X7_thrown v126.2 a2).bind fun v127 =>
          if v127 = v123.1 then
            (if v123.1 = 0 then
              ((bq_al v126.2 a3 (0 : Int32)).bind fun v129 =>
              if (lg_cmp v129 (Int32.toInt64 v126.1)) = 0 then
                (bq_let (y4 + 5) fun v130 =>
                tl_law xs Ln a1 a2 a3 t v130 v126.2)
              else
                (none))
            else
              (bq_let (y4 + 5) fun v128 =>
              tl_law xs Ln a1 a2 a3 t v128 v126.2))
          else
            (none))
        else
        if (v1 &&& (31 : Int32)) = 13 then
          ((bq_sc xs Ln (y4 + (1 : Int32))).bind fun v131 =>
          (tw_L_worst E a1 v131 a3).bind fun v132 =>
          (bq_sc xs Ln (y4 + (1 : Int32))).bind fun v133 =>
          (tw_X7_worst v132.2 a2 v133).bind fun v134 =>
          (tw_X7_thrown v134.2 a2).bind fun v135 =>
          if v135 = v132.1 then
            (if v132.1 = 0 then
              ((bq_al v134.2 a3 (0 : Int32)).bind fun v137 =>
              if (lg_cmp v137 (Int32.toInt64 v134.1)) = 0 then
                (bq_let (y4 + 5) fun v138 =>
                tl_law xs Ln a1 a2 a3 t v138 v134.2)
              else
                (none))
            else
              (bq_let (y4 + 5) fun v136 =>
              tl_law xs Ln a1 a2 a3 t v136 v134.2))
          else
            (none))
        else
        if (v1 &&& (31 : Int32)) = 14 then
          ((tw_X6_nodes E a1).bind fun v139 =>
          (tw_X7_nodes E a2).bind fun v140 =>
          if v139 = v140.1 then
            (bq_let (y4 + 5) fun v141 =>
            tl_law xs Ln a1 a2 a3 t v141 v140.2)
          else
            (none))
        else
        if (v1 &&& (31 : Int32)) = 15 then
          ((bq_sc xs Ln (y4 + (1 : Int32))).bind fun v142 =>
          (bq_sc xs Ln (y4 + (2 : Int32))).bind fun v143 =>
          (tw_L_node E a1 v142 v143 a3).bind fun v144 =>
          (bq_sc xs Ln (y4 + (1 : Int32))).bind fun v145 =>
          (bq_sc xs Ln (y4 + (2 : Int32))).bind fun v146 =>
          (tw_X7_node v144.2 a2 v145 v146).bind fun v147 =>
          (tw_X7_thrown v147.2 a2).bind fun v148 =>
          if v148 = v144.1 then
            (if v144.1 = 0 then
              ((bq_al v147.2 a3 (0 : Int32)).bind fun v150 =>
              if (lg_cmp v150 (Int32.toInt64 v147.1)) = 0 then
                (bq_let (y4 + 5) fun v151 =>
                tl_law xs Ln a1 a2 a3 t v151 v147.2)
              else
                (none))
            else
              (bq_let (y4 + 5) fun v149 =>
              tl_law xs Ln a1 a2 a3 t v149 v147.2))
          else
            (none))
        else
        if (v1 &&& (31 : Int32)) = 16 then
          ((bq_sc xs Ln (y4 + (1 : Int32))).bind fun v152 =>
          (bq_sc xs Ln (y4 + (2 : Int32))).bind fun v153 =>
          (tw_L_key E a1 v152 v153 a3).bind fun v154 =>
          (bq_sc xs Ln (y4 + (1 : Int32))).bind fun v155 =>
          (bq_sc xs Ln (y4 + (2 : Int32))).bind fun v156 =>
          (tw_X7_key v154.2 a2 v155 v156).bind fun v157 =>
          (tw_X7_thrown v157.2 a2).bind fun v158 =>
          if v158 = v154.1 then
            (if v154.1 = 0 then
              ((bq_al v157.2 a3 (0 : Int32)).bind fun v160 =>
              if (lg_cmp v160 (Int32.toInt64 v157.1)) = 0 then
                (bq_let (y4 + 5) fun v161 =>
                tl_law xs Ln a1 a2 a3 t v161 v157.2)
              else
                (none))
            else
              (bq_let (y4 + 5) fun v159 =>
              tl_law xs Ln a1 a2 a3 t v159 v157.2))
          else
            (none))
        else
        if (v1 &&& (31 : Int32)) = 17 then
          ((bq_sc xs Ln (y4 + (1 : Int32))).bind fun v162 =>
          (bq_sc xs Ln (y4 + (2 : Int32))).bind fun v163 =>
          (tw_L_baseKey E a1 v162 v163 a3).bind fun v164 =>
          (bq_sc xs Ln (y4 + (1 : Int32))).bind fun v165 =>
          (bq_sc xs Ln (y4 + (2 : Int32))).bind fun v166 =>
          (tw_X7_baseKey v164.2 a2 v165 v166).bind fun v167 =>
          (tw_X7_thrown v167.2 a2).bind fun v168 =>
          if v168 = v164.1 then
            (if v164.1 = 0 then
              ((bq_al v167.2 a3 (0 : Int32)).bind fun v170 =>
              if (lg_cmp v170 (Int32.toInt64 v167.1)) = 0 then
                (bq_let (y4 + 5) fun v171 =>
                tl_law xs Ln a1 a2 a3 t v171 v167.2)
              else
                (none))
            else
              (bq_let (y4 + 5) fun v169 =>
              tl_law xs Ln a1 a2 a3 t v169 v167.2))
          else
            (none))
        else
        if (v1 &&& (31 : Int32)) = 18 then
          ((bq_sc xs Ln (y4 + (1 : Int32))).bind fun v172 =>
          (bq_sc xs Ln (y4 + (2 : Int32))).bind fun v173 =>
          (tw_L_bufferKey E a1 v172 v173 a3).bind fun v174 =>
          (bq_sc xs Ln (y4 + (1 : Int32))).bind fun v175 =>
          (bq_sc xs Ln (y4 + (2 : Int32))).bind fun v176 =>
          (tw_X7_bufferKey v174.2 a2 v175 v176).bind fun v177 =>
          (tw_X7_thrown v177.2 a2).bind fun v178 =>
          if v178 = v174.1 then
            (if v174.1 = 0 then
              ((bq_al v177.2 a3 (0 : Int32)).bind fun v180 =>
              if (lg_cmp v180 (Int32.toInt64 v177.1)) = 0 then
                (bq_let (y4 + 5) fun v181 =>
                tl_law xs Ln a1 a2 a3 t v181 v177.2)
              else
                (none))
            else
              (bq_let (y4 + 5) fun v179 =>
              tl_law xs Ln a1 a2 a3 t v179 v177.2))
          else
            (none))
        else
        if (v1 &&& (31 : Int32)) = 19 then
          ((bq_sc xs Ln (y4 + (1 : Int32))).bind fun v182 =>
          (bq_sc xs Ln (y4 + (2 : Int32))).bind fun v183 =>
          (bq_sc xs Ln (y4 + (3 : Int32))).bind fun v184 =>
          (tw_L_entry E a1 v182 v183 v184 a3).bind fun v185 =>
          (bq_sc xs Ln (y4 + (1 : Int32))).bind fun v186 =>
          (bq_sc xs Ln (y4 + (2 : Int32))).bind fun v187 =>
          (bq_sc xs Ln (y4 + (3 : Int32))).bind fun v188 =>
          (tw_X7_entry v185.2 a2 v186 v187 v188).bind fun v189 =>
          (tw_X7_thrown v189.2 a2).bind fun v190 =>
          if v190 = v185.1 then
            (if v185.1 = 0 then
              ((bq_al v189.2 a3 (0 : Int32)).bind fun v192 =>
              if (lg_cmp v192 (Int32.toInt64 v189.1)) = 0 then
                (bq_let (y4 + 5) fun v193 =>
                tl_law xs Ln a1 a2 a3 t v193 v189.2)
              else
                (none))
            else
              (bq_let (y4 + 5) fun v191 =>
              tl_law xs Ln a1 a2 a3 t v191 v189.2))
          else
            (none))
        else
        if (v1 &&& (31 : Int32)) = 20 then
          ((bq_sc xs Ln (y4 + (1 : Int32))).bind fun v194 =>
          (bq_sc xs Ln (y4 + (2 : Int32))).bind fun v195 =>
          (bq_sc xs Ln (y4 + (3 : Int32))).bind fun v196 =>
          (tw_L_bridge E a1 v194 v195 v196 a3).bind fun v197 =>
          (bq_sc xs Ln (y4 + (1 : Int32))).bind fun v198 =>
          (bq_sc xs Ln (y4 + (2 : Int32))).bind fun v199 =>
          (bq_sc xs Ln (y4 + (3 : Int32))).bind fun v200 =>
          (tw_X7_bridge v197.2 a2 v198 v199 v200).bind fun v201 =>
          (tw_X7_thrown v201.2 a2).bind fun v202 =>
          if v202 = v197.1 then
            (if v197.1 = 0 then
              ((bq_al v201.2 a3 (0 : Int32)).bind fun v204 =>
              if (lg_cmp v204 (Int32.toInt64 v201.1)) = 0 then
                (bq_let (y4 + 5) fun v205 =>
                tl_law xs Ln a1 a2 a3 t v205 v201.2)
              else
                (none))
            else
              (bq_let (y4 + 5) fun v203 =>
              tl_law xs Ln a1 a2 a3 t v203 v201.2))
          else
            (none))
        else
        if (v1 &&& (31 : Int32)) = 21 then
          ((bq_sc xs Ln (y4 + (1 : Int32))).bind fun v206 =>
          (tw_L_count E a1 v206 a3).bind fun v207 =>
          (bq_sc xs Ln (y4 + (1 : Int32))).bind fun v208 =>
          (tw_X7_count v207.2 a2 v208).bind fun v209 =>
          (tw_X7_thrown v209.2 a2).bind fun v210 =>
          if v210 = v207.1 then
            (if v207.1 = 0 then
              ((bq_al v209.2 a3 (0 : Int32)).bind fun v212 =>
              if (lg_cmp v212 (Int32.toInt64 v209.1)) = 0 then
                (bq_let (y4 + 5) fun v213 =>
                tl_law xs Ln a1 a2 a3 t v213 v209.2)
              else
                (none))
            else
              (bq_let (y4 + 5) fun v211 =>
              tl_law xs Ln a1 a2 a3 t v211 v209.2))
          else
            (none))
        else
        if (v1 &&& (31 : Int32)) = 22 then
          ((tw_L_undo E a1 a3).bind fun v214 =>
          (tw_X7_undo v214.2 a2).bind fun v215 =>
          (tw_X7_thrown v215.2 a2).bind fun v216 =>
          if v216 = v214.1 then
            (if v214.1 = 0 then
              ((bq_al v215.2 a3 (0 : Int32)).bind fun v218 =>
              if (lg_cmp v218 (Int32.toInt64 v215.1)) = 0 then
                (bq_let (y4 + 5) fun v219 =>
                tl_law xs Ln a1 a2 a3 t v219 v215.2)
              else
                (none))
            else
              (bq_let (y4 + 5) fun v217 =>
              tl_law xs Ln a1 a2 a3 t v217 v215.2))
          else
            (none))
        else
        if (v1 &&& (31 : Int32)) = 23 then
          ((tw_X6_digest E a1).bind fun v220 =>
          bq_elim v220.1 (fun v221 =>
          (tw_X7_digest v220.2 a2).bind fun v223 =>
          if (lg_cmp v221 v223.1) = 0 then
            (bq_let (y4 + 5) fun v224 =>
            tl_law xs Ln a1 a2 a3 t v224 v223.2)
          else
            (none)) fun X222 => none)
        else
        bq_let (y4 + 5) fun v225 =>
        tl_law xs Ln a1 a2 a3 t v225 E)
