/-! ===== printed by wip/p58/tools/gen_sim.py: the law's own methods in two worlds ===== -/
/-- calls that throw, the number of updates told -/
def f_G_refuses (a0 : Nat) (x11 : Int32) (a2 : Int32) (h : tq_H) : Option (Int32 × tq_H) :=
  tq_let (if (a2 - a2 / (2 : Int32) * (2 : Int32)) = 0 then (1 : Int32) else (0 : Int32)) fun p1 =>
  (if p1 = 0 then
    (tq_is h a0 10).bind fun _ =>
    (f_X10_made a0 h).bind fun v2 =>
    some (v2 + (a2 - a2 / (50 : Int32) * (50 : Int32)))
  else
    some ((-1 : Int32) - (a2 - a2 / (50 : Int32) * (50 : Int32)))).bind fun p4 =>
  (if p1 = 0 then
    (tq_is h a0 10).bind fun _ =>
    (f_X10_paths a0 h).bind fun v5 =>
    some (v5 + (a2 - a2 / (50 : Int32) * (50 : Int32)))
  else
    some ((-1 : Int32) - (a2 - a2 / (50 : Int32) * (50 : Int32)))).bind fun p7 =>
  tq_let (if p1 = 0 then ((8 : Int32) + a2) else ((-1 : Int32) - a2)) fun p8 =>
  tq_let (if p1 = 0 then ((6 : Int32) + a2) else ((-1 : Int32) - a2)) fun p9 =>
  tq_let (if p1 = 0 then ((6 : Int32) + a2) else ((-1 : Int32) - a2)) fun p10 =>
  tq_let (if x11 = (20 : Int32) then (1 : Int32) else (0 : Int32)) fun p12 =>
  (f_L_element a0 p4 (0 : Int32) (0 : Int32) h).bind fun v13 =>
  (if v13.1 = (-2000000001 : Int32) then
    tq_let (if p1 = 0 then ((60 : Int32) + a2) else ((-1 : Int32) - a2)) fun p14 =>
    (f_L_element a0 (0 : Int32) p14 (0 : Int32) v13.2).bind fun v15 =>
    if v15.1 = (-2000000001 : Int32) then
      (f_L_element a0 (0 : Int32) (0 : Int32) p8 v15.2).bind fun v16 =>
      if v16.1 = (-2000000002 : Int32) then
        tq_let (if p1 = 0 then ((1000 : Int32) + a2) else ((-1 : Int32) - a2)) fun p17 =>
        (f_L_text a0 (0 : Int32) (0 : Int32) p17 v16.2).bind fun v18 =>
        if v18.1 = (-2000000002 : Int32) then
          (f_L_attribute a0 (0 : Int32) p8 (0 : Int32) v18.2).bind fun v19 =>
          if v19.1 = (-2000000002 : Int32) then
            (f_L_attribute a0 p4 (0 : Int32) (0 : Int32) v19.2).bind fun v20 =>
            if v20.1 = (-2000000001 : Int32) then
              if p12 = 0 then
                (f_L_remove a0 p4 v20.2).bind fun v21 =>
                if v21.1 = (-2000000001 : Int32) then
                  (f_L_remove a0 (0 : Int32) v21.2).bind fun v22 =>
                  if v22.1 = (-2000000003 : Int32) then
                    (f_L_rename a0 p4 (0 : Int32) v22.2).bind fun v23 =>
                    if v23.1 = (-2000000001 : Int32) then
                      (f_L_rename a0 (0 : Int32) p8 v23.2).bind fun v24 =>
                      if v24.1 = (-2000000002 : Int32) then
                        (f_L_revalue a0 p4 (0 : Int32) v24.2).bind fun v25 =>
                        if v25.1 = (-2000000001 : Int32) then
                          tq_let (if p1 = 0 then ((1000 : Int32) + a2) else ((-1 : Int32) - a2)) fun p26 =>
                          (f_L_revalue a0 (0 : Int32) p26 v25.2).bind fun v27 =>
                          if v27.1 = (-2000000002 : Int32) then
                            (f_L_revalue a0 (0 : Int32) (a2 - a2 / (1000 : Int32) * (1000 : Int32)) v27.2).bind fun v28 =>
                            if v28.1 = (-2000000003 : Int32) then
                              (f_L_move a0 p4 (0 : Int32) (0 : Int32) v28.2).bind fun v29 =>
                              if v29.1 = (-2000000001 : Int32) then
                                (f_L_move a0 (0 : Int32) p4 (0 : Int32) v29.2).bind fun v30 =>
                                if v30.1 = (-2000000001 : Int32) then
                                  (f_L_move a0 (0 : Int32) (0 : Int32) (0 : Int32) v30.2).bind fun v31 =>
                                  if v31.1 = (-2000000003 : Int32) then
                                    (f_L_declare a0 p4 (0 : Int32) v31.2).bind fun v32 =>
                                    if v32.1 = (-2000000001 : Int32) then
                                      tq_let (if p1 = 0 then ((4 : Int32) + a2) else ((-2 : Int32) - a2)) fun p33 =>
                                      (f_L_declare a0 (0 : Int32) p33 v32.2).bind fun v34 =>
                                      if v34.1 = (-2000000002 : Int32) then
                                        some ((1 : Int32), v34.2)
                                      else
                                        some ((0 : Int32), v34.2)
                                    else
                                      some ((0 : Int32), v32.2)
                                  else
                                    some ((0 : Int32), v31.2)
                                else
                                  some ((0 : Int32), v30.2)
                              else
                                some ((0 : Int32), v29.2)
                            else
                              some ((0 : Int32), v28.2)
                          else
                            some ((0 : Int32), v27.2)
                        else
                          some ((0 : Int32), v25.2)
                      else
                        some ((0 : Int32), v24.2)
                    else
                      some ((0 : Int32), v23.2)
                  else
                    some ((0 : Int32), v22.2)
                else
                  some ((0 : Int32), v21.2)
              else
                (f_L_attribute a0 (0 : Int32) (0 : Int32) (0 : Int32) v20.2).bind fun v35 =>
                if v35.1 = (-2000000003 : Int32) then
                  (f_L_rename a0 (0 : Int32) (0 : Int32) v35.2).bind fun v36 =>
                  if v36.1 = (-2000000003 : Int32) then
                    (f_L_declare a0 (0 : Int32) (0 : Int32) v36.2).bind fun v37 =>
                    if v37.1 = (-2000000003 : Int32) then
                      (f_L_remove a0 p4 v37.2).bind fun v38 =>
                      if v38.1 = (-2000000001 : Int32) then
                        (f_L_remove a0 (0 : Int32) v38.2).bind fun v39 =>
                        if v39.1 = (-2000000003 : Int32) then
                          (f_L_rename a0 p4 (0 : Int32) v39.2).bind fun v40 =>
                          if v40.1 = (-2000000001 : Int32) then
                            (f_L_rename a0 (0 : Int32) p8 v40.2).bind fun v41 =>
                            if v41.1 = (-2000000002 : Int32) then
                              (f_L_revalue a0 p4 (0 : Int32) v41.2).bind fun v42 =>
                              if v42.1 = (-2000000001 : Int32) then
                                tq_let (if p1 = 0 then ((1000 : Int32) + a2) else ((-1 : Int32) - a2)) fun p43 =>
                                (f_L_revalue a0 (0 : Int32) p43 v42.2).bind fun v44 =>
                                if v44.1 = (-2000000002 : Int32) then
                                  (f_L_revalue a0 (0 : Int32) (a2 - a2 / (1000 : Int32) * (1000 : Int32)) v44.2).bind fun v45 =>
                                  if v45.1 = (-2000000003 : Int32) then
                                    (f_L_move a0 p4 (0 : Int32) (0 : Int32) v45.2).bind fun v46 =>
                                    if v46.1 = (-2000000001 : Int32) then
                                      (f_L_move a0 (0 : Int32) p4 (0 : Int32) v46.2).bind fun v47 =>
                                      if v47.1 = (-2000000001 : Int32) then
                                        (f_L_move a0 (0 : Int32) (0 : Int32) (0 : Int32) v47.2).bind fun v48 =>
                                        if v48.1 = (-2000000003 : Int32) then
                                          (f_L_declare a0 p4 (0 : Int32) v48.2).bind fun v49 =>
                                          if v49.1 = (-2000000001 : Int32) then
                                            tq_let (if p1 = 0 then ((4 : Int32) + a2) else ((-2 : Int32) - a2)) fun p50 =>
                                            (f_L_declare a0 (0 : Int32) p50 v49.2).bind fun v51 =>
                                            if v51.1 = (-2000000002 : Int32) then
                                              some ((1 : Int32), v51.2)
                                            else
                                              some ((0 : Int32), v51.2)
                                          else
                                            some ((0 : Int32), v49.2)
                                        else
                                          some ((0 : Int32), v48.2)
                                      else
                                        some ((0 : Int32), v47.2)
                                    else
                                      some ((0 : Int32), v46.2)
                                  else
                                    some ((0 : Int32), v45.2)
                                else
                                  some ((0 : Int32), v44.2)
                              else
                                some ((0 : Int32), v42.2)
                            else
                              some ((0 : Int32), v41.2)
                          else
                            some ((0 : Int32), v40.2)
                        else
                          some ((0 : Int32), v39.2)
                      else
                        some ((0 : Int32), v38.2)
                    else
                      some ((0 : Int32), v37.2)
                  else
                    some ((0 : Int32), v36.2)
                else
                  some ((0 : Int32), v35.2)
            else
              some ((0 : Int32), v20.2)
          else
            some ((0 : Int32), v19.2)
        else
          some ((0 : Int32), v18.2)
      else
        some ((0 : Int32), v16.2)
    else
      some ((0 : Int32), v15.2)
  else
    some ((0 : Int32), v13.2)).bind fun p52 =>
  (if p52.1 = 0 then
    some ((0 : Int32), p52.2)
  else
    (f_L_kind a0 p4 p52.2).bind fun v53 =>
    if v53.1 = (-2000000001 : Int32) then
      (f_L_name a0 p4 v53.2).bind fun v54 =>
      if v54.1 = (-2000000001 : Int32) then
        (f_L_value a0 p4 v54.2).bind fun v55 =>
        if v55.1 = (-2000000001 : Int32) then
          (f_L_parent a0 p4 v55.2).bind fun v56 =>
          if v56.1 = (-2000000001 : Int32) then
            (f_L_child a0 p4 (0 : Int32) v56.2).bind fun v57 =>
            if v57.1 = (-2000000001 : Int32) then
              (f_L_child a0 (0 : Int32) ((-1 : Int32) - a2) v57.2).bind fun v58 =>
              if v58.1 = (-2000000001 : Int32) then
                (f_L_space a0 p4 v58.2).bind fun v59 =>
                if v59.1 = (-2000000001 : Int32) then
                  (f_L_number a0 p4 v59.2).bind fun v60 =>
                  if v60.1 = (-2000000001 : Int32) then
                    (f_L_seen a0 p4 v60.2).bind fun v61 =>
                    if v61.1 = (-2000000001 : Int32) then
                      (f_L_types a0 p4 v61.2).bind fun v62 =>
                      if v62.1 = (-2000000001 : Int32) then
                        (f_L_step a0 p7 (0 : Int32) (8 : Int32) (-1 : Int32) v62.2).bind fun v63 =>
                        if v63.1 = (-2000000001 : Int32) then
                          (f_L_place a0 p7 (0 : Int32) (1 : Int32) v63.2).bind fun v64 =>
                          if v64.1 = (-2000000001 : Int32) then
                            (f_L_last a0 p7 v64.2).bind fun v65 =>
                            if v65.1 = (-2000000001 : Int32) then
                              (f_L_has a0 p7 (0 : Int32) (1 : Int32) v65.2).bind fun v66 =>
                              if v66.1 = (-2000000001 : Int32) then
                                (f_L_worth a0 p7 (0 : Int32) (0 : Int32) (0 : Int32) v66.2).bind fun v67 =>
                                if v67.1 = (-2000000001 : Int32) then
                                  (f_L_found a0 p7 (0 : Int32) v67.2).bind fun v68 =>
                                  if v68.1 = (-2000000001 : Int32) then
                                    (f_L_foundAnew a0 p7 (0 : Int32) v68.2).bind fun v69 =>
                                    if v69.1 = (-2000000001 : Int32) then
                                      (f_L_foundAt a0 p7 (0 : Int32) v69.2).bind fun v70 =>
                                      if v70.1 = (-2000000001 : Int32) then
                                        (f_L_ordered a0 p7 (0 : Int32) v70.2).bind fun v71 =>
                                        if v71.1 = (-2000000001 : Int32) then
                                          (f_L_groups a0 p7 v71.2).bind fun v72 =>
                                          if v72.1 = (-2000000001 : Int32) then
                                            (f_L_infer a0 p7 v72.2).bind fun v73 =>
                                            if v73.1 = (-2000000001 : Int32) then
                                              (f_L_plan a0 p7 v73.2).bind fun v74 =>
                                              if v74.1 = (-2000000001 : Int32) then
                                                (f_L_view a0 p7 v74.2).bind fun v75 =>
                                                if v75.1 = (-2000000001 : Int32) then
                                                  (f_L_hide a0 p7 v75.2).bind fun v76 =>
                                                  if v76.1 = (-2000000001 : Int32) then
                                                    tq_let (if p1 = 0 then ((5 : Int32) + a2) else ((-1 : Int32) - a2)) fun p77 =>
                                                    (f_L_viewed a0 p77 (0 : Int32) v76.2).bind fun v78 =>
                                                    if v78.1 = (-2000000001 : Int32) then
                                                      tq_let (if p1 = 0 then ((5 : Int32) + a2) else ((-1 : Int32) - a2)) fun p79 =>
                                                      (f_L_changed a0 p79 v78.2).bind fun v80 =>
                                                      if v80.1 = (-2000000001 : Int32) then
                                                        some ((1 : Int32), v80.2)
                                                      else
                                                        some ((0 : Int32), v80.2)
                                                    else
                                                      some ((0 : Int32), v78.2)
                                                  else
                                                    some ((0 : Int32), v76.2)
                                                else
                                                  some ((0 : Int32), v75.2)
                                              else
                                                some ((0 : Int32), v74.2)
                                            else
                                              some ((0 : Int32), v73.2)
                                          else
                                            some ((0 : Int32), v72.2)
                                        else
                                          some ((0 : Int32), v71.2)
                                      else
                                        some ((0 : Int32), v70.2)
                                    else
                                      some ((0 : Int32), v69.2)
                                  else
                                    some ((0 : Int32), v68.2)
                                else
                                  some ((0 : Int32), v67.2)
                              else
                                some ((0 : Int32), v66.2)
                            else
                              some ((0 : Int32), v65.2)
                          else
                            some ((0 : Int32), v64.2)
                        else
                          some ((0 : Int32), v63.2)
                      else
                        some ((0 : Int32), v62.2)
                    else
                      some ((0 : Int32), v61.2)
                  else
                    some ((0 : Int32), v60.2)
                else
                  some ((0 : Int32), v59.2)
              else
                some ((0 : Int32), v58.2)
            else
              some ((0 : Int32), v57.2)
          else
            some ((0 : Int32), v56.2)
        else
          some ((0 : Int32), v55.2)
      else
        some ((0 : Int32), v54.2)
    else
      some ((0 : Int32), v53.2)).bind fun p81 =>
  (if p81.1 = 0 then
    some ((0 : Int32), p81.2)
  else
    (f_L_nameType a0 p9 (0 : Int32) p81.2).bind fun v82 =>
    if v82.1 = (-2000000001 : Int32) then
      tq_let (if p1 = 0 then ((8 : Int32) + a2) else ((-2 : Int32) - a2)) fun p83 =>
      (f_L_nameType a0 (a2 - a2 / (6 : Int32) * (6 : Int32)) p83 v82.2).bind fun v84 =>
      if v84.1 = (-2000000002 : Int32) then
        (f_L_arc a0 p9 (0 : Int32) (0 : Int32) (0 : Int32) v84.2).bind fun v85 =>
        if v85.1 = (-2000000001 : Int32) then
          tq_let (if p1 = 0 then ((4 : Int32) + a2) else ((-1 : Int32) - a2)) fun p86 =>
          (f_L_arc a0 (0 : Int32) p86 (0 : Int32) (0 : Int32) v85.2).bind fun v87 =>
          if v87.1 = (-2000000001 : Int32) then
            (f_L_fin a0 p9 (0 : Int32) (1 : Int32) v87.2).bind fun v88 =>
            if v88.1 = (-2000000001 : Int32) then
              (f_L_texts a0 p9 (1 : Int32) v88.2).bind fun v89 =>
              if v89.1 = (-2000000001 : Int32) then
                (f_L_says a0 p9 (0 : Int32) (0 : Int32) v89.2).bind fun v90 =>
                if v90.1 = (-2000000001 : Int32) then
                  (f_L_says a0 (a2 - a2 / (6 : Int32) * (6 : Int32)) p8 (0 : Int32) v90.2).bind fun v91 =>
                  if v91.1 = (-2000000002 : Int32) then
                    tq_let (if p1 = 0 then ((3 : Int32) + a2) else ((-1 : Int32) - a2)) fun p92 =>
                    (f_L_says a0 (a2 - a2 / (6 : Int32) * (6 : Int32)) (0 : Int32) p92 v91.2).bind fun v93 =>
                    if v93.1 = (-2000000002 : Int32) then
                      (f_L_index a0 p8 v93.2).bind fun v94 =>
                      if v94.1 = (-2000000002 : Int32) then
                        (f_L_ranked a0 (a2 - a2 / (1000 : Int32) * (1000 : Int32)) ((-1 : Int32) - a2) v94.2).bind fun v95 =>
                        if v95.1 = (-2000000001 : Int32) then
                          tq_let (if p1 = 0 then ((1000 : Int32) + a2) else ((-1 : Int32) - a2)) fun p96 =>
                          (f_L_ranked a0 p96 (0 : Int32) v95.2).bind fun v97 =>
                          if v97.1 = (-2000000002 : Int32) then
                            (f_L_take a0 p10 v97.2).bind fun v98 =>
                            if v98.1 = (-2000000001 : Int32) then
                              (f_L_distance a0 p10 p10 v98.2).bind fun v99 =>
                              if v99.1 = (-2000000001 : Int32) then
                                (f_L_odds a0 p10 (0 : Int32) (0 : Int32) v99.2).bind fun v100 =>
                                if v100.1 = (-2000000001 : Int32) then
                                  some ((1 : Int32), v100.2)
                                else
                                  some ((0 : Int32), v100.2)
                              else
                                some ((0 : Int32), v99.2)
                            else
                              some ((0 : Int32), v98.2)
                          else
                            some ((0 : Int32), v97.2)
                        else
                          some ((0 : Int32), v95.2)
                      else
                        some ((0 : Int32), v94.2)
                    else
                      some ((0 : Int32), v93.2)
                  else
                    some ((0 : Int32), v91.2)
                else
                  some ((0 : Int32), v90.2)
              else
                some ((0 : Int32), v89.2)
            else
              some ((0 : Int32), v88.2)
          else
            some ((0 : Int32), v87.2)
        else
          some ((0 : Int32), v85.2)
      else
        some ((0 : Int32), v84.2)
    else
      some ((0 : Int32), v82.2)).bind fun p101 =>
  (if p101.1 = 0 then
    some (p101.1, p101.2)
  else
    (tq_is p101.2 a0 10).bind fun _ =>
    (f_X10_paths a0 p101.2).bind fun v102 =>
    if v102 ≤ 0 then
      some (p101.1, p101.2)
    else
      (tq_is p101.2 a0 10).bind fun _ =>
      (f_X10_paths a0 p101.2).bind fun v104 =>
      (tq_nz v104).bind fun _ =>
      tq_let (((a2 / (50 : Int32)) - (a2 / (50 : Int32)) / v104 * v104)) fun x106 =>
      (f_L_step a0 x106 (12 : Int32) (8 : Int32) x106 p101.2).bind fun v107 =>
      (if v107.1 = (-2000000001 : Int32) then
        tq_let (if p1 = 0 then ((13 : Int32) + a2) else ((-1 : Int32) - a2)) fun p108 =>
        (f_L_step a0 x106 p108 (8 : Int32) (-1 : Int32) v107.2).bind fun v109 =>
        if v109.1 = (-2000000002 : Int32) then
          tq_let (if p1 = 0 then ((14 : Int32) + a2) else ((-1 : Int32) - a2)) fun p110 =>
          (f_L_step a0 x106 (0 : Int32) p110 (-1 : Int32) v109.2).bind fun v111 =>
          if v111.1 = (-2000000002 : Int32) then
            (f_L_step a0 x106 (0 : Int32) (8 : Int32) (0 : Int32) v111.2).bind fun v112 =>
            if v112.1 = (-2000000002 : Int32) then
              tq_let (if p1 = 0 then ((3 : Int32) + a2) else ((-1 : Int32) - a2)) fun p113 =>
              (f_L_place a0 x106 p113 (1 : Int32) v112.2).bind fun v114 =>
              if v114.1 = (-2000000002 : Int32) then
                tq_let (if p1 = 0 then ((100 : Int32) + a2) else ((-1 : Int32) - a2)) fun p115 =>
                (f_L_place a0 x106 (0 : Int32) p115 v114.2).bind fun v116 =>
                if v116.1 = (-2000000002 : Int32) then
                  (f_L_has a0 x106 x106 (1 : Int32) v116.2).bind fun v117 =>
                  if v117.1 = (-2000000001 : Int32) then
                    (f_L_worth a0 x106 x106 (0 : Int32) (0 : Int32) v117.2).bind fun v118 =>
                    if v118.1 = (-2000000001 : Int32) then
                      (f_L_found a0 x106 p4 v118.2).bind fun v119 =>
                      if v119.1 = (-2000000001 : Int32) then
                        (f_L_foundAt a0 x106 ((-1 : Int32) - a2) v119.2).bind fun v120 =>
                        if v120.1 = (-2000000001 : Int32) then
                          (f_L_ordered a0 x106 ((60 : Int32) + a2) v120.2).bind fun v121 =>
                          if v121.1 = (-2000000001 : Int32) then
                            (tq_is v121.2 a0 10).bind fun _ =>
                            (f_X10_paths a0 v121.2).bind fun v122 =>
                            if x106 = (v122 - (1 : Int32)) then
                              some ((1 : Int32), v121.2)
                            else
                              (f_L_step a0 x106 (0 : Int32) (8 : Int32) (-1 : Int32) v121.2).bind fun v124 =>
                              if v124.1 = (-2000000003 : Int32) then
                                (f_L_last a0 x106 v124.2).bind fun v125 =>
                                if v125.1 = (-2000000003 : Int32) then
                                  some ((1 : Int32), v125.2)
                                else
                                  some ((0 : Int32), v125.2)
                              else
                                some ((0 : Int32), v124.2)
                          else
                            some ((0 : Int32), v121.2)
                        else
                          some ((0 : Int32), v120.2)
                      else
                        some ((0 : Int32), v119.2)
                    else
                      some ((0 : Int32), v118.2)
                  else
                    some ((0 : Int32), v117.2)
                else
                  some ((0 : Int32), v116.2)
              else
                some ((0 : Int32), v114.2)
            else
              some ((0 : Int32), v112.2)
          else
            some ((0 : Int32), v111.2)
        else
          some ((0 : Int32), v109.2)
      else
        some ((0 : Int32), v107.2)).bind fun p126 =>
      some (p126.1, p126.2)).bind fun p128 =>
  (tq_bz p128.1).bind fun z129 =>
  some (z129, p128.2)
section SX
variable {α α' β β' γ δ : Type} {r : Nat → Nat} {d : Nat → Prop} {W0 H0 : tq_H} {al : Prop}
theorem Sm.x {A : α → α' → Prop} {Q : γ → δ → Prop} {x : Option ((String ⊕ α) × tq_H)} {y : Option ((String ⊕ α') × tq_H)} {f : (String ⊕ α) × tq_H → Option γ} {g : (String ⊕ α') × tq_H → Option δ} (h : Sm (Rt r d W0 H0 al A) x y) (k1 : ∀ E w w', Em r d W0 H0 al w w' → Sm Q (f (.inl E, w)) (g (.inl E, w'))) (k2 : ∀ a a', A a a' → ∀ w w', Em r d W0 H0 al w w' → Sm Q (f (.inr a, w)) (g (.inr a', w'))) : Sm Q (x.bind f) (y.bind g) := by
  refine h.b fun a b hab => ?_
  obtain ⟨a1, a2⟩ := a
  obtain ⟨b1, b2⟩ := b
  obtain ⟨h1, h2⟩ := hab
  rcases a1 with a1 | a1 <;> rcases b1 with b1 | b1
  · cases (show a1 = b1 from h1)
    exact k1 a1 a2 b2 h2
  · exact (show False from h1).elim
  · exact (show False from h1).elim
  · exact k2 a1 b1 h1 a2 b2 h2
end SX
section SY
variable {r : Nat → Nat} {d : Nat → Prop} {W0 H0 : tq_H} {al : Prop}
set_option maxHeartbeats 2000000 in
theorem y_L_element {a0 a0' : Nat} {a1 : Int32} {a2 : Int32} {a3 : Int32} {h h' : tq_H} (ga0 : (Rr r d) a0 a0') (gh : (Em r d W0 H0 al) h h') : Sm (Rp Eq (Em r d W0 H0 al)) (f_L_element a0 a1 a2 a3 h) (f_L_element a0' a1 a2 a3 h') := by
  unfold f_L_element
  refine Sm.b (Sm.is gh ga0) ?_
  intro _ _ _
  refine Sm.x (y_X10_insertElement ga0 gh) ?_ ?_
  · intro E1 w3 w3' gw3
    dsimp only
    refine Sm.i ?_ ?_
    · exact Sm.s (Rp.i rfl gw3)
    · refine Sm.i ?_ ?_
      · exact Sm.s (Rp.i rfl gw3)
      · refine Sm.i ?_ ?_
        · exact Sm.s (Rp.i rfl gw3)
        · exact Sm.no
  · rintro v4 _ rfl w3 w3' gw3
    dsimp only
    exact Sm.s (Rp.i rfl gw3)
set_option maxHeartbeats 2000000 in
theorem y_L_text {a0 a0' : Nat} {a1 : Int32} {a2 : Int32} {a3 : Int32} {h h' : tq_H} (ga0 : (Rr r d) a0 a0') (gh : (Em r d W0 H0 al) h h') : Sm (Rp Eq (Em r d W0 H0 al)) (f_L_text a0 a1 a2 a3 h) (f_L_text a0' a1 a2 a3 h') := by
  unfold f_L_text
  refine Sm.b (Sm.is gh ga0) ?_
  intro _ _ _
  refine Sm.x (y_X10_insertText ga0 gh) ?_ ?_
  · intro E1 w3 w3' gw3
    dsimp only
    refine Sm.i ?_ ?_
    · exact Sm.s (Rp.i rfl gw3)
    · refine Sm.i ?_ ?_
      · exact Sm.s (Rp.i rfl gw3)
      · refine Sm.i ?_ ?_
        · exact Sm.s (Rp.i rfl gw3)
        · exact Sm.no
  · rintro v4 _ rfl w3 w3' gw3
    dsimp only
    exact Sm.s (Rp.i rfl gw3)
set_option maxHeartbeats 2000000 in
theorem y_L_attribute {a0 a0' : Nat} {a1 : Int32} {a2 : Int32} {a3 : Int32} {h h' : tq_H} (ga0 : (Rr r d) a0 a0') (gh : (Em r d W0 H0 al) h h') : Sm (Rp Eq (Em r d W0 H0 al)) (f_L_attribute a0 a1 a2 a3 h) (f_L_attribute a0' a1 a2 a3 h') := by
  unfold f_L_attribute
  refine Sm.b (Sm.is gh ga0) ?_
  intro _ _ _
  refine Sm.x (y_X10_insertAttribute ga0 gh) ?_ ?_
  · intro E1 w3 w3' gw3
    dsimp only
    refine Sm.i ?_ ?_
    · exact Sm.s (Rp.i rfl gw3)
    · refine Sm.i ?_ ?_
      · exact Sm.s (Rp.i rfl gw3)
      · refine Sm.i ?_ ?_
        · exact Sm.s (Rp.i rfl gw3)
        · exact Sm.no
  · rintro v4 _ rfl w3 w3' gw3
    dsimp only
    exact Sm.s (Rp.i rfl gw3)
set_option maxHeartbeats 2000000 in
theorem y_L_remove {a0 a0' : Nat} {a1 : Int32} {h h' : tq_H} (ga0 : (Rr r d) a0 a0') (gh : (Em r d W0 H0 al) h h') : Sm (Rp Eq (Em r d W0 H0 al)) (f_L_remove a0 a1 h) (f_L_remove a0' a1 h') := by
  unfold f_L_remove
  refine Sm.b (Sm.is gh ga0) ?_
  intro _ _ _
  refine Sm.x (y_X10_remove ga0 gh) ?_ ?_
  · intro E1 w3 w3' gw3
    dsimp only
    refine Sm.i ?_ ?_
    · exact Sm.s (Rp.i rfl gw3)
    · refine Sm.i ?_ ?_
      · exact Sm.s (Rp.i rfl gw3)
      · exact Sm.no
  · rintro v4 _ rfl w3 w3' gw3
    dsimp only
    exact Sm.s (Rp.i rfl gw3)
set_option maxHeartbeats 2000000 in
theorem y_L_rename {a0 a0' : Nat} {a1 : Int32} {a2 : Int32} {h h' : tq_H} (ga0 : (Rr r d) a0 a0') (gh : (Em r d W0 H0 al) h h') : Sm (Rp Eq (Em r d W0 H0 al)) (f_L_rename a0 a1 a2 h) (f_L_rename a0' a1 a2 h') := by
  unfold f_L_rename
  refine Sm.b (Sm.is gh ga0) ?_
  intro _ _ _
  refine Sm.x (y_X10_rename ga0 gh) ?_ ?_
  · intro E1 w3 w3' gw3
    dsimp only
    refine Sm.i ?_ ?_
    · exact Sm.s (Rp.i rfl gw3)
    · refine Sm.i ?_ ?_
      · exact Sm.s (Rp.i rfl gw3)
      · refine Sm.i ?_ ?_
        · exact Sm.s (Rp.i rfl gw3)
        · exact Sm.no
  · rintro v4 _ rfl w3 w3' gw3
    dsimp only
    exact Sm.s (Rp.i rfl gw3)
set_option maxHeartbeats 2000000 in
theorem y_L_revalue {a0 a0' : Nat} {a1 : Int32} {a2 : Int32} {h h' : tq_H} (ga0 : (Rr r d) a0 a0') (gh : (Em r d W0 H0 al) h h') : Sm (Rp Eq (Em r d W0 H0 al)) (f_L_revalue a0 a1 a2 h) (f_L_revalue a0' a1 a2 h') := by
  unfold f_L_revalue
  refine Sm.b (Sm.is gh ga0) ?_
  intro _ _ _
  refine Sm.x (y_X10_setValue ga0 gh) ?_ ?_
  · intro E1 w3 w3' gw3
    dsimp only
    refine Sm.i ?_ ?_
    · exact Sm.s (Rp.i rfl gw3)
    · refine Sm.i ?_ ?_
      · exact Sm.s (Rp.i rfl gw3)
      · refine Sm.i ?_ ?_
        · exact Sm.s (Rp.i rfl gw3)
        · exact Sm.no
  · rintro v4 _ rfl w3 w3' gw3
    dsimp only
    exact Sm.s (Rp.i rfl gw3)
set_option maxHeartbeats 2000000 in
theorem y_L_move {a0 a0' : Nat} {a1 : Int32} {a2 : Int32} {a3 : Int32} {h h' : tq_H} (ga0 : (Rr r d) a0 a0') (gh : (Em r d W0 H0 al) h h') : Sm (Rp Eq (Em r d W0 H0 al)) (f_L_move a0 a1 a2 a3 h) (f_L_move a0' a1 a2 a3 h') := by
  unfold f_L_move
  refine Sm.b (Sm.is gh ga0) ?_
  intro _ _ _
  refine Sm.x (y_X10_move ga0 gh) ?_ ?_
  · intro E1 w3 w3' gw3
    dsimp only
    refine Sm.i ?_ ?_
    · exact Sm.s (Rp.i rfl gw3)
    · refine Sm.i ?_ ?_
      · exact Sm.s (Rp.i rfl gw3)
      · exact Sm.no
  · rintro v4 _ rfl w3 w3' gw3
    dsimp only
    exact Sm.s (Rp.i rfl gw3)
set_option maxHeartbeats 2000000 in
theorem y_L_declare {a0 a0' : Nat} {a1 : Int32} {a2 : Int32} {h h' : tq_H} (ga0 : (Rr r d) a0 a0') (gh : (Em r d W0 H0 al) h h') : Sm (Rp Eq (Em r d W0 H0 al)) (f_L_declare a0 a1 a2 h) (f_L_declare a0' a1 a2 h') := by
  unfold f_L_declare
  refine Sm.b (Sm.is gh ga0) ?_
  intro _ _ _
  refine Sm.x (y_X10_declare ga0 gh) ?_ ?_
  · intro E1 w3 w3' gw3
    dsimp only
    refine Sm.i ?_ ?_
    · exact Sm.s (Rp.i rfl gw3)
    · refine Sm.i ?_ ?_
      · exact Sm.s (Rp.i rfl gw3)
      · refine Sm.i ?_ ?_
        · exact Sm.s (Rp.i rfl gw3)
        · exact Sm.no
  · rintro v4 _ rfl w3 w3' gw3
    dsimp only
    exact Sm.s (Rp.i rfl gw3)
set_option maxHeartbeats 2000000 in
theorem y_L_apply {a0 a0' : Nat} {h h' : tq_H} (ga0 : (Rr r d) a0 a0') (gh : (Em r d W0 H0 al) h h') : Sm (Rp Eq (Em r d W0 H0 al)) (f_L_apply a0 h) (f_L_apply a0' h') := by
  unfold f_L_apply
  refine Sm.b (Sm.is gh ga0) ?_
  intro _ _ _
  refine Sm.x (y_X10_apply ga0 gh) ?_ ?_
  · intro E1 w3 w3' gw3
    dsimp only
    refine Sm.i ?_ ?_
    · exact Sm.s (Rp.i rfl gw3)
    · exact Sm.no
  · rintro v4 _ rfl w3 w3' gw3
    dsimp only
    exact Sm.s (Rp.i rfl gw3)
set_option maxHeartbeats 2000000 in
theorem y_L_kind {a0 a0' : Nat} {a1 : Int32} {h h' : tq_H} (ga0 : (Rr r d) a0 a0') (gh : (Em r d W0 H0 al) h h') : Sm (Rp Eq (Em r d W0 H0 al)) (f_L_kind a0 a1 h) (f_L_kind a0' a1 h') := by
  unfold f_L_kind
  refine Sm.b (Sm.is gh ga0) ?_
  intro _ _ _
  refine Sm.x (y_X10_kind ga0 gh) ?_ ?_
  · intro E1 w3 w3' gw3
    dsimp only
    refine Sm.i ?_ ?_
    · exact Sm.s (Rp.i rfl gw3)
    · exact Sm.no
  · rintro v4 _ rfl w3 w3' gw3
    dsimp only
    exact Sm.s (Rp.i rfl gw3)
set_option maxHeartbeats 2000000 in
theorem y_N_kind {a0 a0' : Nat} {a1 : Int32} {h h' : tq_H} (ga0 : (Rr r d) a0 a0') (gh : (Em r d W0 H0 al) h h') : Sm (Rp Eq (Em r d W0 H0 al)) (f_N_kind a0 a1 h) (f_N_kind a0' a1 h') := by
  unfold f_N_kind
  refine Sm.b (Sm.is gh ga0) ?_
  intro _ _ _
  refine Sm.x (y_X10_kind ga0 gh) ?_ ?_
  · intro _ w_ w_' gw_
    dsimp only
    exact Sm.no
  · rintro v4 _ rfl w3 w3' gw3
    dsimp only
    exact Sm.s (Rp.i rfl gw3)
set_option maxHeartbeats 2000000 in
theorem y_L_name {a0 a0' : Nat} {a1 : Int32} {h h' : tq_H} (ga0 : (Rr r d) a0 a0') (gh : (Em r d W0 H0 al) h h') : Sm (Rp Eq (Em r d W0 H0 al)) (f_L_name a0 a1 h) (f_L_name a0' a1 h') := by
  unfold f_L_name
  refine Sm.b (Sm.is gh ga0) ?_
  intro _ _ _
  refine Sm.x (y_X10_name ga0 gh) ?_ ?_
  · intro E1 w3 w3' gw3
    dsimp only
    refine Sm.i ?_ ?_
    · exact Sm.s (Rp.i rfl gw3)
    · exact Sm.no
  · rintro v4 _ rfl w3 w3' gw3
    dsimp only
    exact Sm.s (Rp.i rfl gw3)
set_option maxHeartbeats 2000000 in
theorem y_N_name {a0 a0' : Nat} {a1 : Int32} {h h' : tq_H} (ga0 : (Rr r d) a0 a0') (gh : (Em r d W0 H0 al) h h') : Sm (Rp Eq (Em r d W0 H0 al)) (f_N_name a0 a1 h) (f_N_name a0' a1 h') := by
  unfold f_N_name
  refine Sm.b (Sm.is gh ga0) ?_
  intro _ _ _
  refine Sm.x (y_X10_name ga0 gh) ?_ ?_
  · intro _ w_ w_' gw_
    dsimp only
    exact Sm.no
  · rintro v4 _ rfl w3 w3' gw3
    dsimp only
    exact Sm.s (Rp.i rfl gw3)
set_option maxHeartbeats 2000000 in
theorem y_L_value {a0 a0' : Nat} {a1 : Int32} {h h' : tq_H} (ga0 : (Rr r d) a0 a0') (gh : (Em r d W0 H0 al) h h') : Sm (Rp Eq (Em r d W0 H0 al)) (f_L_value a0 a1 h) (f_L_value a0' a1 h') := by
  unfold f_L_value
  refine Sm.b (Sm.is gh ga0) ?_
  intro _ _ _
  refine Sm.x (y_X10_value ga0 gh) ?_ ?_
  · intro E1 w3 w3' gw3
    dsimp only
    refine Sm.i ?_ ?_
    · exact Sm.s (Rp.i rfl gw3)
    · exact Sm.no
  · rintro v4 _ rfl w3 w3' gw3
    dsimp only
    exact Sm.s (Rp.i rfl gw3)
set_option maxHeartbeats 2000000 in
theorem y_N_value {a0 a0' : Nat} {a1 : Int32} {h h' : tq_H} (ga0 : (Rr r d) a0 a0') (gh : (Em r d W0 H0 al) h h') : Sm (Rp Eq (Em r d W0 H0 al)) (f_N_value a0 a1 h) (f_N_value a0' a1 h') := by
  unfold f_N_value
  refine Sm.b (Sm.is gh ga0) ?_
  intro _ _ _
  refine Sm.x (y_X10_value ga0 gh) ?_ ?_
  · intro _ w_ w_' gw_
    dsimp only
    exact Sm.no
  · rintro v4 _ rfl w3 w3' gw3
    dsimp only
    exact Sm.s (Rp.i rfl gw3)
set_option maxHeartbeats 2000000 in
theorem y_L_parent {a0 a0' : Nat} {a1 : Int32} {h h' : tq_H} (ga0 : (Rr r d) a0 a0') (gh : (Em r d W0 H0 al) h h') : Sm (Rp Eq (Em r d W0 H0 al)) (f_L_parent a0 a1 h) (f_L_parent a0' a1 h') := by
  unfold f_L_parent
  refine Sm.b (Sm.is gh ga0) ?_
  intro _ _ _
  refine Sm.x (y_X10_parent ga0 gh) ?_ ?_
  · intro E1 w3 w3' gw3
    dsimp only
    refine Sm.i ?_ ?_
    · exact Sm.s (Rp.i rfl gw3)
    · exact Sm.no
  · rintro v4 _ rfl w3 w3' gw3
    dsimp only
    exact Sm.s (Rp.i rfl gw3)
set_option maxHeartbeats 2000000 in
theorem y_N_parent {a0 a0' : Nat} {a1 : Int32} {h h' : tq_H} (ga0 : (Rr r d) a0 a0') (gh : (Em r d W0 H0 al) h h') : Sm (Rp Eq (Em r d W0 H0 al)) (f_N_parent a0 a1 h) (f_N_parent a0' a1 h') := by
  unfold f_N_parent
  refine Sm.b (Sm.is gh ga0) ?_
  intro _ _ _
  refine Sm.x (y_X10_parent ga0 gh) ?_ ?_
  · intro _ w_ w_' gw_
    dsimp only
    exact Sm.no
  · rintro v4 _ rfl w3 w3' gw3
    dsimp only
    exact Sm.s (Rp.i rfl gw3)
set_option maxHeartbeats 2000000 in
theorem y_L_child {a0 a0' : Nat} {a1 : Int32} {a2 : Int32} {h h' : tq_H} (ga0 : (Rr r d) a0 a0') (gh : (Em r d W0 H0 al) h h') : Sm (Rp Eq (Em r d W0 H0 al)) (f_L_child a0 a1 a2 h) (f_L_child a0' a1 a2 h') := by
  unfold f_L_child
  refine Sm.b (Sm.is gh ga0) ?_
  intro _ _ _
  refine Sm.x (y_X10_child ga0 gh) ?_ ?_
  · intro E1 w3 w3' gw3
    dsimp only
    refine Sm.i ?_ ?_
    · exact Sm.s (Rp.i rfl gw3)
    · exact Sm.no
  · rintro v4 _ rfl w3 w3' gw3
    dsimp only
    exact Sm.s (Rp.i rfl gw3)
set_option maxHeartbeats 2000000 in
theorem y_N_child {a0 a0' : Nat} {a1 : Int32} {a2 : Int32} {h h' : tq_H} (ga0 : (Rr r d) a0 a0') (gh : (Em r d W0 H0 al) h h') : Sm (Rp Eq (Em r d W0 H0 al)) (f_N_child a0 a1 a2 h) (f_N_child a0' a1 a2 h') := by
  unfold f_N_child
  refine Sm.b (Sm.is gh ga0) ?_
  intro _ _ _
  refine Sm.x (y_X10_child ga0 gh) ?_ ?_
  · intro _ w_ w_' gw_
    dsimp only
    exact Sm.no
  · rintro v4 _ rfl w3 w3' gw3
    dsimp only
    exact Sm.s (Rp.i rfl gw3)
set_option maxHeartbeats 2000000 in
theorem y_L_space {a0 a0' : Nat} {a1 : Int32} {h h' : tq_H} (ga0 : (Rr r d) a0 a0') (gh : (Em r d W0 H0 al) h h') : Sm (Rp Eq (Em r d W0 H0 al)) (f_L_space a0 a1 h) (f_L_space a0' a1 h') := by
  unfold f_L_space
  refine Sm.b (Sm.is gh ga0) ?_
  intro _ _ _
  refine Sm.x (y_X10_space ga0 gh) ?_ ?_
  · intro E1 w3 w3' gw3
    dsimp only
    refine Sm.i ?_ ?_
    · exact Sm.s (Rp.i rfl gw3)
    · exact Sm.no
  · rintro v4 _ rfl w3 w3' gw3
    dsimp only
    exact Sm.s (Rp.i rfl gw3)
set_option maxHeartbeats 2000000 in
theorem y_N_space {a0 a0' : Nat} {a1 : Int32} {h h' : tq_H} (ga0 : (Rr r d) a0 a0') (gh : (Em r d W0 H0 al) h h') : Sm (Rp Eq (Em r d W0 H0 al)) (f_N_space a0 a1 h) (f_N_space a0' a1 h') := by
  unfold f_N_space
  refine Sm.b (Sm.is gh ga0) ?_
  intro _ _ _
  refine Sm.x (y_X10_space ga0 gh) ?_ ?_
  · intro _ w_ w_' gw_
    dsimp only
    exact Sm.no
  · rintro v4 _ rfl w3 w3' gw3
    dsimp only
    exact Sm.s (Rp.i rfl gw3)
set_option maxHeartbeats 2000000 in
theorem y_L_number {a0 a0' : Nat} {a1 : Int32} {h h' : tq_H} (ga0 : (Rr r d) a0 a0') (gh : (Em r d W0 H0 al) h h') : Sm (Rp Eq (Em r d W0 H0 al)) (f_L_number a0 a1 h) (f_L_number a0' a1 h') := by
  unfold f_L_number
  refine Sm.b (Sm.is gh ga0) ?_
  intro _ _ _
  refine Sm.x (y_X10_number ga0 gh) ?_ ?_
  · intro E1 w3 w3' gw3
    dsimp only
    refine Sm.i ?_ ?_
    · exact Sm.s (Rp.i rfl gw3)
    · exact Sm.no
  · rintro v4 _ rfl w3 w3' gw3
    dsimp only
    exact Sm.s (Rp.i rfl gw3)
set_option maxHeartbeats 2000000 in
theorem y_N_number {a0 a0' : Nat} {a1 : Int32} {h h' : tq_H} (ga0 : (Rr r d) a0 a0') (gh : (Em r d W0 H0 al) h h') : Sm (Rp Eq (Em r d W0 H0 al)) (f_N_number a0 a1 h) (f_N_number a0' a1 h') := by
  unfold f_N_number
  refine Sm.b (Sm.is gh ga0) ?_
  intro _ _ _
  refine Sm.x (y_X10_number ga0 gh) ?_ ?_
  · intro _ w_ w_' gw_
    dsimp only
    exact Sm.no
  · rintro v4 _ rfl w3 w3' gw3
    dsimp only
    exact Sm.s (Rp.i rfl gw3)
set_option maxHeartbeats 2000000 in
theorem y_L_path {a0 a0' : Nat} {h h' : tq_H} (ga0 : (Rr r d) a0 a0') (gh : (Em r d W0 H0 al) h h') : Sm (Rp Eq (Em r d W0 H0 al)) (f_L_path a0 h) (f_L_path a0' h') := by
  unfold f_L_path
  refine Sm.b (Sm.is gh ga0) ?_
  intro _ _ _
  refine Sm.x (y_X10_path ga0 gh) ?_ ?_
  · intro E1 w3 w3' gw3
    dsimp only
    refine Sm.i ?_ ?_
    · exact Sm.s (Rp.i rfl gw3)
    · exact Sm.no
  · rintro v4 _ rfl w3 w3' gw3
    dsimp only
    exact Sm.s (Rp.i rfl gw3)
set_option maxHeartbeats 2000000 in
theorem y_L_step {a0 a0' : Nat} {a1 : Int32} {a2 : Int32} {a3 : Int32} {a4 : Int32} {h h' : tq_H} (ga0 : (Rr r d) a0 a0') (gh : (Em r d W0 H0 al) h h') : Sm (Rp Eq (Em r d W0 H0 al)) (f_L_step a0 a1 a2 a3 a4 h) (f_L_step a0' a1 a2 a3 a4 h') := by
  unfold f_L_step
  refine Sm.b (Sm.is gh ga0) ?_
  intro _ _ _
  refine Sm.x (y_X10_step ga0 gh) ?_ ?_
  · intro E1 w3 w3' gw3
    dsimp only
    refine Sm.i ?_ ?_
    · exact Sm.s (Rp.i rfl gw3)
    · refine Sm.i ?_ ?_
      · exact Sm.s (Rp.i rfl gw3)
      · refine Sm.i ?_ ?_
        · exact Sm.s (Rp.i rfl gw3)
        · exact Sm.no
  · rintro v4 _ rfl w3 w3' gw3
    dsimp only
    exact Sm.s (Rp.i rfl gw3)
set_option maxHeartbeats 2000000 in
theorem y_L_place {a0 a0' : Nat} {a1 : Int32} {a2 : Int32} {a3 : Int32} {h h' : tq_H} (ga0 : (Rr r d) a0 a0') (gh : (Em r d W0 H0 al) h h') : Sm (Rp Eq (Em r d W0 H0 al)) (f_L_place a0 a1 a2 a3 h) (f_L_place a0' a1 a2 a3 h') := by
  unfold f_L_place
  refine Sm.b (Sm.is gh ga0) ?_
  intro _ _ _
  refine Sm.x (y_X10_place ga0 gh) ?_ ?_
  · intro E1 w3 w3' gw3
    dsimp only
    refine Sm.i ?_ ?_
    · exact Sm.s (Rp.i rfl gw3)
    · refine Sm.i ?_ ?_
      · exact Sm.s (Rp.i rfl gw3)
      · refine Sm.i ?_ ?_
        · exact Sm.s (Rp.i rfl gw3)
        · exact Sm.no
  · rintro v4 _ rfl w3 w3' gw3
    dsimp only
    exact Sm.s (Rp.i rfl gw3)
set_option maxHeartbeats 2000000 in
theorem y_L_last {a0 a0' : Nat} {a1 : Int32} {h h' : tq_H} (ga0 : (Rr r d) a0 a0') (gh : (Em r d W0 H0 al) h h') : Sm (Rp Eq (Em r d W0 H0 al)) (f_L_last a0 a1 h) (f_L_last a0' a1 h') := by
  unfold f_L_last
  refine Sm.b (Sm.is gh ga0) ?_
  intro _ _ _
  refine Sm.x (y_X10_last ga0 gh) ?_ ?_
  · intro E1 w3 w3' gw3
    dsimp only
    refine Sm.i ?_ ?_
    · exact Sm.s (Rp.i rfl gw3)
    · refine Sm.i ?_ ?_
      · exact Sm.s (Rp.i rfl gw3)
      · exact Sm.no
  · rintro v4 _ rfl w3 w3' gw3
    dsimp only
    exact Sm.s (Rp.i rfl gw3)
set_option maxHeartbeats 2000000 in
theorem y_L_has {a0 a0' : Nat} {a1 : Int32} {a2 : Int32} {a3 : Int32} {h h' : tq_H} (ga0 : (Rr r d) a0 a0') (gh : (Em r d W0 H0 al) h h') : Sm (Rp Eq (Em r d W0 H0 al)) (f_L_has a0 a1 a2 a3 h) (f_L_has a0' a1 a2 a3 h') := by
  unfold f_L_has
  refine Sm.b (Sm.is gh ga0) ?_
  intro _ _ _
  refine Sm.x (y_X10_has ga0 gh) ?_ ?_
  · intro E1 w3 w3' gw3
    dsimp only
    refine Sm.i ?_ ?_
    · exact Sm.s (Rp.i rfl gw3)
    · refine Sm.i ?_ ?_
      · exact Sm.s (Rp.i rfl gw3)
      · exact Sm.no
  · rintro v4 _ rfl w3 w3' gw3
    dsimp only
    exact Sm.s (Rp.i rfl gw3)
set_option maxHeartbeats 2000000 in
theorem y_L_worth {a0 a0' : Nat} {a1 : Int32} {a2 : Int32} {a3 : Int32} {a4 : Int32} {h h' : tq_H} (ga0 : (Rr r d) a0 a0') (gh : (Em r d W0 H0 al) h h') : Sm (Rp Eq (Em r d W0 H0 al)) (f_L_worth a0 a1 a2 a3 a4 h) (f_L_worth a0' a1 a2 a3 a4 h') := by
  unfold f_L_worth
  refine Sm.b (Sm.is gh ga0) ?_
  intro _ _ _
  refine Sm.x (y_X10_worth ga0 gh) ?_ ?_
  · intro E1 w3 w3' gw3
    dsimp only
    refine Sm.i ?_ ?_
    · exact Sm.s (Rp.i rfl gw3)
    · refine Sm.i ?_ ?_
      · exact Sm.s (Rp.i rfl gw3)
      · refine Sm.i ?_ ?_
        · exact Sm.s (Rp.i rfl gw3)
        · exact Sm.no
  · rintro v4 _ rfl w3 w3' gw3
    dsimp only
    exact Sm.s (Rp.i rfl gw3)
set_option maxHeartbeats 2000000 in
theorem y_L_found {a0 a0' : Nat} {a1 : Int32} {a2 : Int32} {h h' : tq_H} (ga0 : (Rr r d) a0 a0') (gh : (Em r d W0 H0 al) h h') : Sm (Rp Eq (Em r d W0 H0 al)) (f_L_found a0 a1 a2 h) (f_L_found a0' a1 a2 h') := by
  unfold f_L_found
  refine Sm.b (Sm.is gh ga0) ?_
  intro _ _ _
  refine Sm.x (y_X10_found ga0 gh) ?_ ?_
  · intro E1 w3 w3' gw3
    dsimp only
    refine Sm.i ?_ ?_
    · exact Sm.s (Rp.i rfl gw3)
    · exact Sm.no
  · rintro v4 _ rfl w3 w3' gw3
    dsimp only
    exact Sm.s (Rp.i rfl gw3)
set_option maxHeartbeats 2000000 in
theorem y_N_found {a0 a0' : Nat} {a1 : Int32} {a2 : Int32} {h h' : tq_H} (ga0 : (Rr r d) a0 a0') (gh : (Em r d W0 H0 al) h h') : Sm (Rp Eq (Em r d W0 H0 al)) (f_N_found a0 a1 a2 h) (f_N_found a0' a1 a2 h') := by
  unfold f_N_found
  refine Sm.b (Sm.is gh ga0) ?_
  intro _ _ _
  refine Sm.x (y_X10_found ga0 gh) ?_ ?_
  · intro _ w_ w_' gw_
    dsimp only
    exact Sm.no
  · rintro v4 _ rfl w3 w3' gw3
    dsimp only
    exact Sm.s (Rp.i rfl gw3)
set_option maxHeartbeats 2000000 in
theorem y_L_foundAnew {a0 a0' : Nat} {a1 : Int32} {a2 : Int32} {h h' : tq_H} (ga0 : (Rr r d) a0 a0') (gh : (Em r d W0 H0 al) h h') : Sm (Rp Eq (Em r d W0 H0 al)) (f_L_foundAnew a0 a1 a2 h) (f_L_foundAnew a0' a1 a2 h') := by
  unfold f_L_foundAnew
  refine Sm.b (Sm.is gh ga0) ?_
  intro _ _ _
  refine Sm.x (y_X10_foundAnew ga0 gh) ?_ ?_
  · intro E1 w3 w3' gw3
    dsimp only
    refine Sm.i ?_ ?_
    · exact Sm.s (Rp.i rfl gw3)
    · exact Sm.no
  · rintro v4 _ rfl w3 w3' gw3
    dsimp only
    exact Sm.s (Rp.i rfl gw3)
set_option maxHeartbeats 2000000 in
theorem y_N_foundAnew {a0 a0' : Nat} {a1 : Int32} {a2 : Int32} {h h' : tq_H} (ga0 : (Rr r d) a0 a0') (gh : (Em r d W0 H0 al) h h') : Sm (Rp Eq (Em r d W0 H0 al)) (f_N_foundAnew a0 a1 a2 h) (f_N_foundAnew a0' a1 a2 h') := by
  unfold f_N_foundAnew
  refine Sm.b (Sm.is gh ga0) ?_
  intro _ _ _
  refine Sm.x (y_X10_foundAnew ga0 gh) ?_ ?_
  · intro _ w_ w_' gw_
    dsimp only
    exact Sm.no
  · rintro v4 _ rfl w3 w3' gw3
    dsimp only
    exact Sm.s (Rp.i rfl gw3)
set_option maxHeartbeats 2000000 in
theorem y_L_foundAt {a0 a0' : Nat} {a1 : Int32} {a2 : Int32} {h h' : tq_H} (ga0 : (Rr r d) a0 a0') (gh : (Em r d W0 H0 al) h h') : Sm (Rp Eq (Em r d W0 H0 al)) (f_L_foundAt a0 a1 a2 h) (f_L_foundAt a0' a1 a2 h') := by
  unfold f_L_foundAt
  refine Sm.b (Sm.is gh ga0) ?_
  intro _ _ _
  refine Sm.x (y_X10_foundAt ga0 gh) ?_ ?_
  · intro E1 w3 w3' gw3
    dsimp only
    refine Sm.i ?_ ?_
    · exact Sm.s (Rp.i rfl gw3)
    · exact Sm.no
  · rintro v4 _ rfl w3 w3' gw3
    dsimp only
    exact Sm.s (Rp.i rfl gw3)
set_option maxHeartbeats 2000000 in
theorem y_N_foundAt {a0 a0' : Nat} {a1 : Int32} {a2 : Int32} {h h' : tq_H} (ga0 : (Rr r d) a0 a0') (gh : (Em r d W0 H0 al) h h') : Sm (Rp Eq (Em r d W0 H0 al)) (f_N_foundAt a0 a1 a2 h) (f_N_foundAt a0' a1 a2 h') := by
  unfold f_N_foundAt
  refine Sm.b (Sm.is gh ga0) ?_
  intro _ _ _
  refine Sm.x (y_X10_foundAt ga0 gh) ?_ ?_
  · intro _ w_ w_' gw_
    dsimp only
    exact Sm.no
  · rintro v4 _ rfl w3 w3' gw3
    dsimp only
    exact Sm.s (Rp.i rfl gw3)
set_option maxHeartbeats 2000000 in
theorem y_L_ordered {a0 a0' : Nat} {a1 : Int32} {a2 : Int32} {h h' : tq_H} (ga0 : (Rr r d) a0 a0') (gh : (Em r d W0 H0 al) h h') : Sm (Rp Eq (Em r d W0 H0 al)) (f_L_ordered a0 a1 a2 h) (f_L_ordered a0' a1 a2 h') := by
  unfold f_L_ordered
  refine Sm.b (Sm.is gh ga0) ?_
  intro _ _ _
  refine Sm.x (y_X10_ordered ga0 gh) ?_ ?_
  · intro E1 w3 w3' gw3
    dsimp only
    refine Sm.i ?_ ?_
    · exact Sm.s (Rp.i rfl gw3)
    · exact Sm.no
  · rintro v4 _ rfl w3 w3' gw3
    dsimp only
    exact Sm.s (Rp.i rfl gw3)
set_option maxHeartbeats 2000000 in
theorem y_L_groups {a0 a0' : Nat} {a1 : Int32} {h h' : tq_H} (ga0 : (Rr r d) a0 a0') (gh : (Em r d W0 H0 al) h h') : Sm (Rp Eq (Em r d W0 H0 al)) (f_L_groups a0 a1 h) (f_L_groups a0' a1 h') := by
  unfold f_L_groups
  refine Sm.b (Sm.is gh ga0) ?_
  intro _ _ _
  refine Sm.x (y_X10_groups ga0 gh) ?_ ?_
  · intro E1 w3 w3' gw3
    dsimp only
    refine Sm.i ?_ ?_
    · exact Sm.s (Rp.i rfl gw3)
    · exact Sm.no
  · rintro v4 _ rfl w3 w3' gw3
    dsimp only
    exact Sm.s (Rp.i rfl gw3)
set_option maxHeartbeats 2000000 in
theorem y_N_groups {a0 a0' : Nat} {a1 : Int32} {h h' : tq_H} (ga0 : (Rr r d) a0 a0') (gh : (Em r d W0 H0 al) h h') : Sm (Rp Eq (Em r d W0 H0 al)) (f_N_groups a0 a1 h) (f_N_groups a0' a1 h') := by
  unfold f_N_groups
  refine Sm.b (Sm.is gh ga0) ?_
  intro _ _ _
  refine Sm.x (y_X10_groups ga0 gh) ?_ ?_
  · intro _ w_ w_' gw_
    dsimp only
    exact Sm.no
  · rintro v4 _ rfl w3 w3' gw3
    dsimp only
    exact Sm.s (Rp.i rfl gw3)
set_option maxHeartbeats 2000000 in
theorem y_L_nameType {a0 a0' : Nat} {a1 : Int32} {a2 : Int32} {h h' : tq_H} (ga0 : (Rr r d) a0 a0') (gh : (Em r d W0 H0 al) h h') : Sm (Rp Eq (Em r d W0 H0 al)) (f_L_nameType a0 a1 a2 h) (f_L_nameType a0' a1 a2 h') := by
  unfold f_L_nameType
  refine Sm.b (Sm.is gh ga0) ?_
  intro _ _ _
  refine Sm.x (y_X10_nameType ga0 gh) ?_ ?_
  · intro E1 w3 w3' gw3
    dsimp only
    refine Sm.i ?_ ?_
    · exact Sm.s (Rp.i rfl gw3)
    · refine Sm.i ?_ ?_
      · exact Sm.s (Rp.i rfl gw3)
      · refine Sm.i ?_ ?_
        · exact Sm.s (Rp.i rfl gw3)
        · exact Sm.no
  · rintro v4 _ rfl w3 w3' gw3
    dsimp only
    exact Sm.s (Rp.i rfl gw3)
set_option maxHeartbeats 2000000 in
theorem y_L_arc {a0 a0' : Nat} {a1 : Int32} {a2 : Int32} {a3 : Int32} {a4 : Int32} {h h' : tq_H} (ga0 : (Rr r d) a0 a0') (gh : (Em r d W0 H0 al) h h') : Sm (Rp Eq (Em r d W0 H0 al)) (f_L_arc a0 a1 a2 a3 a4 h) (f_L_arc a0' a1 a2 a3 a4 h') := by
  unfold f_L_arc
  refine Sm.b (Sm.is gh ga0) ?_
  intro _ _ _
  refine Sm.x (y_X10_arc ga0 gh) ?_ ?_
  · intro E1 w3 w3' gw3
    dsimp only
    refine Sm.i ?_ ?_
    · exact Sm.s (Rp.i rfl gw3)
    · refine Sm.i ?_ ?_
      · exact Sm.s (Rp.i rfl gw3)
      · exact Sm.no
  · rintro v4 _ rfl w3 w3' gw3
    dsimp only
    refine Sm.l ?_
    exact Sm.s (Rp.i rfl gw3)
set_option maxHeartbeats 2000000 in
theorem y_L_fin {a0 a0' : Nat} {a1 : Int32} {a2 : Int32} {a3 : Int32} {h h' : tq_H} (ga0 : (Rr r d) a0 a0') (gh : (Em r d W0 H0 al) h h') : Sm (Rp Eq (Em r d W0 H0 al)) (f_L_fin a0 a1 a2 a3 h) (f_L_fin a0' a1 a2 a3 h') := by
  unfold f_L_fin
  refine Sm.b (Sm.is gh ga0) ?_
  intro _ _ _
  refine Sm.x (y_X10_setFinal ga0 gh) ?_ ?_
  · intro E1 w3 w3' gw3
    dsimp only
    refine Sm.i ?_ ?_
    · exact Sm.s (Rp.i rfl gw3)
    · refine Sm.i ?_ ?_
      · exact Sm.s (Rp.i rfl gw3)
      · exact Sm.no
  · rintro v4 _ rfl w3 w3' gw3
    dsimp only
    refine Sm.l ?_
    exact Sm.s (Rp.i rfl gw3)
set_option maxHeartbeats 2000000 in
theorem y_L_texts {a0 a0' : Nat} {a1 : Int32} {a2 : Int32} {h h' : tq_H} (ga0 : (Rr r d) a0 a0') (gh : (Em r d W0 H0 al) h h') : Sm (Rp Eq (Em r d W0 H0 al)) (f_L_texts a0 a1 a2 h) (f_L_texts a0' a1 a2 h') := by
  unfold f_L_texts
  refine Sm.b (Sm.is gh ga0) ?_
  intro _ _ _
  refine Sm.x (y_X10_allowTexts ga0 gh) ?_ ?_
  · intro E1 w3 w3' gw3
    dsimp only
    refine Sm.i ?_ ?_
    · exact Sm.s (Rp.i rfl gw3)
    · refine Sm.i ?_ ?_
      · exact Sm.s (Rp.i rfl gw3)
      · exact Sm.no
  · rintro v4 _ rfl w3 w3' gw3
    dsimp only
    refine Sm.l ?_
    exact Sm.s (Rp.i rfl gw3)
set_option maxHeartbeats 2000000 in
theorem y_L_says {a0 a0' : Nat} {a1 : Int32} {a2 : Int32} {a3 : Int32} {h h' : tq_H} (ga0 : (Rr r d) a0 a0') (gh : (Em r d W0 H0 al) h h') : Sm (Rp Eq (Em r d W0 H0 al)) (f_L_says a0 a1 a2 a3 h) (f_L_says a0' a1 a2 a3 h') := by
  unfold f_L_says
  refine Sm.b (Sm.is gh ga0) ?_
  intro _ _ _
  refine Sm.x (y_X10_attribute ga0 gh) ?_ ?_
  · intro E1 w3 w3' gw3
    dsimp only
    refine Sm.i ?_ ?_
    · exact Sm.s (Rp.i rfl gw3)
    · refine Sm.i ?_ ?_
      · exact Sm.s (Rp.i rfl gw3)
      · refine Sm.i ?_ ?_
        · exact Sm.s (Rp.i rfl gw3)
        · exact Sm.no
  · rintro v4 _ rfl w3 w3' gw3
    dsimp only
    exact Sm.s (Rp.i rfl gw3)
set_option maxHeartbeats 2000000 in
theorem y_L_strict {a0 a0' : Nat} {a1 : Int32} {h h' : tq_H} (ga0 : (Rr r d) a0 a0') (gh : (Em r d W0 H0 al) h h') : Sm (Rp Eq (Em r d W0 H0 al)) (f_L_strict a0 a1 h) (f_L_strict a0' a1 h') := by
  unfold f_L_strict
  refine Sm.b (Sm.is gh ga0) ?_
  intro _ _ _
  refine Sm.x (y_X10_setStrict ga0 gh) ?_ ?_
  · intro E1 w3 w3' gw3
    dsimp only
    refine Sm.i ?_ ?_
    · exact Sm.s (Rp.i rfl gw3)
    · exact Sm.no
  · rintro v4 _ rfl w3 w3' gw3
    dsimp only
    refine Sm.l ?_
    exact Sm.s (Rp.i rfl gw3)
set_option maxHeartbeats 2000000 in
theorem y_L_types {a0 a0' : Nat} {a1 : Int32} {h h' : tq_H} (ga0 : (Rr r d) a0 a0') (gh : (Em r d W0 H0 al) h h') : Sm (Rp Eq (Em r d W0 H0 al)) (f_L_types a0 a1 h) (f_L_types a0' a1 h') := by
  unfold f_L_types
  refine Sm.b (Sm.is gh ga0) ?_
  intro _ _ _
  refine Sm.x (y_X10_types ga0 gh) ?_ ?_
  · intro E1 w3 w3' gw3
    dsimp only
    refine Sm.i ?_ ?_
    · exact Sm.s (Rp.i rfl gw3)
    · exact Sm.no
  · rintro v4 _ rfl w3 w3' gw3
    dsimp only
    exact Sm.s (Rp.i rfl gw3)
set_option maxHeartbeats 2000000 in
theorem y_L_infer {a0 a0' : Nat} {a1 : Int32} {h h' : tq_H} (ga0 : (Rr r d) a0 a0') (gh : (Em r d W0 H0 al) h h') : Sm (Rp Eq (Em r d W0 H0 al)) (f_L_infer a0 a1 h) (f_L_infer a0' a1 h') := by
  unfold f_L_infer
  refine Sm.b (Sm.is gh ga0) ?_
  intro _ _ _
  refine Sm.x (y_X10_infer ga0 gh) ?_ ?_
  · intro E1 w3 w3' gw3
    dsimp only
    refine Sm.i ?_ ?_
    · exact Sm.s (Rp.i rfl gw3)
    · exact Sm.no
  · rintro v4 _ rfl w3 w3' gw3
    dsimp only
    exact Sm.s (Rp.i rfl gw3)
set_option maxHeartbeats 2000000 in
theorem y_L_index {a0 a0' : Nat} {a1 : Int32} {h h' : tq_H} (ga0 : (Rr r d) a0 a0') (gh : (Em r d W0 H0 al) h h') : Sm (Rp Eq (Em r d W0 H0 al)) (f_L_index a0 a1 h) (f_L_index a0' a1 h') := by
  unfold f_L_index
  refine Sm.b (Sm.is gh ga0) ?_
  intro _ _ _
  refine Sm.x (y_X10_index ga0 gh) ?_ ?_
  · intro E1 w3 w3' gw3
    dsimp only
    refine Sm.i ?_ ?_
    · exact Sm.s (Rp.i rfl gw3)
    · exact Sm.no
  · rintro v4 _ rfl w3 w3' gw3
    dsimp only
    refine Sm.l ?_
    exact Sm.s (Rp.i rfl gw3)
set_option maxHeartbeats 2000000 in
theorem y_L_plan {a0 a0' : Nat} {a1 : Int32} {h h' : tq_H} (ga0 : (Rr r d) a0 a0') (gh : (Em r d W0 H0 al) h h') : Sm (Rp Eq (Em r d W0 H0 al)) (f_L_plan a0 a1 h) (f_L_plan a0' a1 h') := by
  unfold f_L_plan
  refine Sm.b (Sm.is gh ga0) ?_
  intro _ _ _
  refine Sm.x (y_X10_plan ga0 gh) ?_ ?_
  · intro E1 w3 w3' gw3
    dsimp only
    refine Sm.i ?_ ?_
    · exact Sm.s (Rp.i rfl gw3)
    · exact Sm.no
  · rintro v4 _ rfl w3 w3' gw3
    dsimp only
    exact Sm.s (Rp.i rfl gw3)
set_option maxHeartbeats 2000000 in
theorem y_L_view {a0 a0' : Nat} {a1 : Int32} {h h' : tq_H} (ga0 : (Rr r d) a0 a0') (gh : (Em r d W0 H0 al) h h') : Sm (Rp Eq (Em r d W0 H0 al)) (f_L_view a0 a1 h) (f_L_view a0' a1 h') := by
  unfold f_L_view
  refine Sm.b (Sm.is gh ga0) ?_
  intro _ _ _
  refine Sm.x (y_X10_view ga0 gh) ?_ ?_
  · intro E1 w3 w3' gw3
    dsimp only
    refine Sm.i ?_ ?_
    · exact Sm.s (Rp.i rfl gw3)
    · refine Sm.i ?_ ?_
      · exact Sm.s (Rp.i rfl gw3)
      · exact Sm.no
  · rintro v4 _ rfl w3 w3' gw3
    dsimp only
    exact Sm.s (Rp.i rfl gw3)
set_option maxHeartbeats 2000000 in
theorem y_L_viewed {a0 a0' : Nat} {a1 : Int32} {a2 : Int32} {h h' : tq_H} (ga0 : (Rr r d) a0 a0') (gh : (Em r d W0 H0 al) h h') : Sm (Rp Eq (Em r d W0 H0 al)) (f_L_viewed a0 a1 a2 h) (f_L_viewed a0' a1 a2 h') := by
  unfold f_L_viewed
  refine Sm.b (Sm.is gh ga0) ?_
  intro _ _ _
  refine Sm.x (y_X10_viewed ga0 gh) ?_ ?_
  · intro E1 w3 w3' gw3
    dsimp only
    refine Sm.i ?_ ?_
    · exact Sm.s (Rp.i rfl gw3)
    · exact Sm.no
  · rintro v4 _ rfl w3 w3' gw3
    dsimp only
    exact Sm.s (Rp.i rfl gw3)
set_option maxHeartbeats 2000000 in
theorem y_L_changed {a0 a0' : Nat} {a1 : Int32} {h h' : tq_H} (ga0 : (Rr r d) a0 a0') (gh : (Em r d W0 H0 al) h h') : Sm (Rp Eq (Em r d W0 H0 al)) (f_L_changed a0 a1 h) (f_L_changed a0' a1 h') := by
  unfold f_L_changed
  refine Sm.b (Sm.is gh ga0) ?_
  intro _ _ _
  refine Sm.x (y_X10_changed ga0 gh) ?_ ?_
  · intro E1 w3 w3' gw3
    dsimp only
    refine Sm.i ?_ ?_
    · exact Sm.s (Rp.i rfl gw3)
    · exact Sm.no
  · rintro v4 _ rfl w3 w3' gw3
    dsimp only
    exact Sm.s (Rp.i rfl gw3)
set_option maxHeartbeats 2000000 in
theorem y_L_ranked {a0 a0' : Nat} {a1 : Int32} {a2 : Int32} {h h' : tq_H} (ga0 : (Rr r d) a0 a0') (gh : (Em r d W0 H0 al) h h') : Sm (Rp Eq (Em r d W0 H0 al)) (f_L_ranked a0 a1 a2 h) (f_L_ranked a0' a1 a2 h') := by
  unfold f_L_ranked
  refine Sm.b (Sm.is gh ga0) ?_
  intro _ _ _
  refine Sm.x (y_X10_ranked ga0 gh) ?_ ?_
  · intro E1 w3 w3' gw3
    dsimp only
    refine Sm.i ?_ ?_
    · exact Sm.s (Rp.i rfl gw3)
    · refine Sm.i ?_ ?_
      · exact Sm.s (Rp.i rfl gw3)
      · exact Sm.no
  · rintro v4 _ rfl w3 w3' gw3
    dsimp only
    exact Sm.s (Rp.i rfl gw3)
set_option maxHeartbeats 2000000 in
theorem y_L_keep {a0 a0' : Nat} {h h' : tq_H} (ha : al) (ga0 : (Rr r d) a0 a0') (gh : (Em r d W0 H0 al) h h') : Sm (Rp Eq (Em r d W0 H0 al)) (f_L_keep a0 h) (f_L_keep a0' h') := by
  unfold f_L_keep
  refine Sm.b (Sm.is gh ga0) ?_
  intro _ _ _
  refine Sm.x (y_X10_keep ha ga0 gh) ?_ ?_
  · intro E1 w3 w3' gw3
    dsimp only
    refine Sm.i ?_ ?_
    · exact Sm.s (Rp.i rfl gw3)
    · exact Sm.no
  · rintro v4 _ rfl w3 w3' gw3
    dsimp only
    exact Sm.s (Rp.i rfl gw3)
set_option maxHeartbeats 2000000 in
theorem y_L_take {a0 a0' : Nat} {a1 : Int32} {h h' : tq_H} (ga0 : (Rr r d) a0 a0') (gh : (Em r d W0 H0 al) h h') : Sm (Rp Eq (Em r d W0 H0 al)) (f_L_take a0 a1 h) (f_L_take a0' a1 h') := by
  unfold f_L_take
  refine Sm.b (Sm.is gh ga0) ?_
  intro _ _ _
  refine Sm.x (y_X10_take ga0 gh) ?_ ?_
  · intro E1 w3 w3' gw3
    dsimp only
    refine Sm.i ?_ ?_
    · exact Sm.s (Rp.i rfl gw3)
    · refine Sm.i ?_ ?_
      · exact Sm.s (Rp.i rfl gw3)
      · exact Sm.no
  · rintro v4 _ rfl w3 w3' gw3
    dsimp only
    exact Sm.s (Rp.i rfl gw3)
set_option maxHeartbeats 2000000 in
theorem y_L_distance {a0 a0' : Nat} {a1 : Int32} {a2 : Int32} {h h' : tq_H} (ha : al) (ga0 : (Rr r d) a0 a0') (gh : (Em r d W0 H0 al) h h') : Sm (Rp Eq (Em r d W0 H0 al)) (f_L_distance a0 a1 a2 h) (f_L_distance a0' a1 a2 h') := by
  unfold f_L_distance
  refine Sm.b (Sm.is gh ga0) ?_
  intro _ _ _
  refine Sm.x (y_X10_distance ha ga0 gh) ?_ ?_
  · intro E1 w3 w3' gw3
    dsimp only
    refine Sm.i ?_ ?_
    · exact Sm.s (Rp.i rfl gw3)
    · exact Sm.no
  · rintro v4 _ rfl w3 w3' gw3
    dsimp only
    exact Sm.s (Rp.i rfl gw3)
set_option maxHeartbeats 2000000 in
theorem y_L_odds {a0 a0' : Nat} {a1 : Int32} {a2 : Int32} {a3 : Int32} {h h' : tq_H} (ga0 : (Rr r d) a0 a0') (gh : (Em r d W0 H0 al) h h') : Sm (Rp Eq (Em r d W0 H0 al)) (f_L_odds a0 a1 a2 a3 h) (f_L_odds a0' a1 a2 a3 h') := by
  unfold f_L_odds
  refine Sm.b (Sm.is gh ga0) ?_
  intro _ _ _
  refine Sm.x (y_X10_odds ga0 gh) ?_ ?_
  · intro E1 w3 w3' gw3
    dsimp only
    refine Sm.i ?_ ?_
    · exact Sm.s (Rp.i rfl gw3)
    · exact Sm.no
  · rintro v4 _ rfl w3 w3' gw3
    dsimp only
    exact Sm.s (Rp.i rfl gw3)
set_option maxHeartbeats 2000000 in
theorem y_L_hide {a0 a0' : Nat} {a1 : Int32} {h h' : tq_H} (ga0 : (Rr r d) a0 a0') (gh : (Em r d W0 H0 al) h h') : Sm (Rp Eq (Em r d W0 H0 al)) (f_L_hide a0 a1 h) (f_L_hide a0' a1 h') := by
  unfold f_L_hide
  refine Sm.b (Sm.is gh ga0) ?_
  intro _ _ _
  refine Sm.x (y_X10_hide ga0 gh) ?_ ?_
  · intro E1 w3 w3' gw3
    dsimp only
    refine Sm.i ?_ ?_
    · exact Sm.s (Rp.i rfl gw3)
    · refine Sm.i ?_ ?_
      · exact Sm.s (Rp.i rfl gw3)
      · exact Sm.no
  · rintro v4 _ rfl w3 w3' gw3
    dsimp only
    refine Sm.l ?_
    exact Sm.s (Rp.i rfl gw3)
set_option maxHeartbeats 2000000 in
theorem y_L_seen {a0 a0' : Nat} {a1 : Int32} {h h' : tq_H} (ga0 : (Rr r d) a0 a0') (gh : (Em r d W0 H0 al) h h') : Sm (Rp Eq (Em r d W0 H0 al)) (f_L_seen a0 a1 h) (f_L_seen a0' a1 h') := by
  unfold f_L_seen
  refine Sm.b (Sm.is gh ga0) ?_
  intro _ _ _
  refine Sm.x (y_X10_isSeen ga0 gh) ?_ ?_
  · intro E1 w3 w3' gw3
    dsimp only
    refine Sm.i ?_ ?_
    · exact Sm.s (Rp.i rfl gw3)
    · exact Sm.no
  · rintro v4 _ rfl w3 w3' gw3
    dsimp only
    refine Sm.l ?_
    exact Sm.s (Rp.i rfl gw3)
set_option maxHeartbeats 2000000 in
theorem y_L_isTree_b70 {i0 i0' : Nat} {i2 : Int32} {i3 : Int32} {i4 : Int32} (gi0 : (Rr r d) i0 i0') : ∀ s s', (Rp Eq (Rp Eq (Em r d W0 H0 al))) s s' → Sm (Ru (Rp Eq (Rp Eq (Em r d W0 H0 al))) (Rp Eq (Rp Eq (Em r d W0 H0 al)))) (f_L_isTree_b70 i0 i2 i3 i4 s) (f_L_isTree_b70 i0' i2 i3 i4 s') := by
  rintro ⟨y1, ⟨y5, hh⟩⟩ ⟨_, ⟨_, hh'⟩⟩ ⟨rfl, ⟨rfl, ghh⟩⟩
  dsimp only [f_L_isTree_b70]
  refine Sm.b (y_N_child gi0 ghh) ?_
  rintro ⟨v12a, v12b⟩ ⟨_, v12b'⟩ ⟨rfl, gv12b⟩
  refine Sm.i ?_ ?_
  · exact Sm.s (Ru.r (Rp.i rfl (Rp.i rfl gv12b)))
  · refine Sm.i ?_ ?_
    · exact Sm.s (Ru.r (Rp.i rfl (Rp.i rfl gv12b)))
    · refine Sm.b (y_N_child gi0 gv12b) ?_
      rintro ⟨v13a, v13b⟩ ⟨_, v13b'⟩ ⟨rfl, gv13b⟩
      refine Sm.b (y_N_child gi0 gv13b) ?_
      rintro ⟨v14a, v14b⟩ ⟨_, v14b'⟩ ⟨rfl, gv14b⟩
      refine Sm.b (y_N_parent gi0 gv14b) ?_
      rintro ⟨v15a, v15b⟩ ⟨_, v15b'⟩ ⟨rfl, gv15b⟩
      refine Sm.b (R := (Rp Eq (Em r d W0 H0 al))) ?_ ?_
      · refine Sm.i ?_ ?_
        · refine Sm.b (y_N_number gi0 gv15b) ?_
          rintro ⟨v16a, v16b⟩ ⟨_, v16b'⟩ ⟨rfl, gv16b⟩
          refine Sm.b (y_N_number gi0 gv16b) ?_
          rintro ⟨v17a, v17b⟩ ⟨_, v17b'⟩ ⟨rfl, gv17b⟩
          refine Sm.i ?_ ?_
          · exact Sm.s (Rp.i rfl gv17b)
          · refine Sm.i ?_ ?_
            · exact Sm.s (Rp.i rfl gv17b)
            · refine Sm.b (y_N_number gi0 gv17b) ?_
              rintro ⟨v18a, v18b⟩ ⟨_, v18b'⟩ ⟨rfl, gv18b⟩
              refine Sm.b (y_N_number gi0 gv18b) ?_
              rintro ⟨v19a, v19b⟩ ⟨_, v19b'⟩ ⟨rfl, gv19b⟩
              refine Sm.i ?_ ?_
              · exact Sm.s (Rp.i rfl gv19b)
              · exact Sm.s (Rp.i rfl gv19b)
        · exact Sm.s (Rp.i rfl gv15b)
      · rintro ⟨p20a, p20b⟩ ⟨_, p20b'⟩ ⟨rfl, gp20b⟩
        refine Sm.l ?_
        exact Sm.s (Ru.l (Rp.i rfl (Rp.i rfl gp20b)))
set_option maxHeartbeats 2000000 in
theorem y_L_isTree_b37 {i0 i0' : Nat} (gi0 : (Rr r d) i0 i0') : ∀ s s', (Rp Eq (Rp Eq (Rp Eq (Em r d W0 H0 al)))) s s' → Sm (Ru (Rp Eq (Rp Eq (Rp Eq (Em r d W0 H0 al)))) (Rp Eq (Rp Eq (Em r d W0 H0 al)))) (f_L_isTree_b37 i0 s) (f_L_isTree_b37 i0' s') := by
  rintro ⟨y1, ⟨y2, ⟨y3, hh⟩⟩⟩ ⟨_, ⟨_, ⟨_, hh'⟩⟩⟩ ⟨rfl, ⟨rfl, ⟨rfl, ghh⟩⟩⟩
  dsimp only [f_L_isTree_b37]
  refine Sm.b (Sm.is ghh gi0) ?_
  intro _ _ _
  refine Sm.b (y_X10_made gi0 ghh) ?_
  rintro v6 _ rfl
  refine Sm.i ?_ ?_
  · exact Sm.s (Ru.r (Rp.i rfl (Rp.i rfl ghh)))
  · refine Sm.i ?_ ?_
    · exact Sm.s (Ru.r (Rp.i rfl (Rp.i rfl ghh)))
    · refine Sm.b (Sm.is ghh gi0) ?_
      intro _ _ _
      refine Sm.b (y_X10_isThere gi0 ghh) ?_
      rintro v8 _ rfl
      refine Sm.b (R := (Rp Eq (Rp Eq (Em r d W0 H0 al)))) ?_ ?_
      · refine Sm.i ?_ ?_
        · exact Sm.s (Rp.i rfl (Rp.i rfl ghh))
        · refine Sm.l ?_
          refine Sm.b (y_N_parent gi0 ghh) ?_
          rintro ⟨v11a, v11b⟩ ⟨_, v11b'⟩ ⟨rfl, gv11b⟩
          refine Sm.b (Sm.w (y_L_isTree_b70 gi0) tq_N (Rp.i rfl (Rp.i rfl gv11b))) ?_
          rintro ⟨o22a, ⟨o22ba, o22bb⟩⟩ ⟨_, ⟨_, o22bb'⟩⟩ ⟨rfl, ⟨rfl, go22bb⟩⟩
          refine Sm.b (R := (Rp Eq (Em r d W0 H0 al))) ?_ ?_
          · refine Sm.i ?_ ?_
            · exact Sm.s (Rp.i rfl go22bb)
            · refine Sm.i ?_ ?_
              · refine Sm.b (y_N_kind gi0 go22bb) ?_
                rintro ⟨v23a, v23b⟩ ⟨_, v23b'⟩ ⟨rfl, gv23b⟩
                refine Sm.l ?_
                refine Sm.b (y_N_space gi0 gv23b) ?_
                rintro ⟨v25a, v25b⟩ ⟨_, v25b'⟩ ⟨rfl, gv25b⟩
                refine Sm.l ?_
                refine Sm.i ?_ ?_
                · refine Sm.b (y_N_kind gi0 gv25b) ?_
                  rintro ⟨v27a, v27b⟩ ⟨_, v27b'⟩ ⟨rfl, gv27b⟩
                  refine Sm.l ?_
                  refine Sm.b (y_N_name gi0 gv27b) ?_
                  rintro ⟨v29a, v29b⟩ ⟨_, v29b'⟩ ⟨rfl, gv29b⟩
                  refine Sm.l ?_
                  refine Sm.i ?_ ?_
                  · refine Sm.b (y_N_kind gi0 gv29b) ?_
                    rintro ⟨v31a, v31b⟩ ⟨_, v31b'⟩ ⟨rfl, gv31b⟩
                    refine Sm.l ?_
                    refine Sm.b (y_N_number gi0 gv31b) ?_
                    rintro ⟨v33a, v33b⟩ ⟨_, v33b'⟩ ⟨rfl, gv33b⟩
                    refine Sm.l ?_
                    refine Sm.i ?_ ?_
                    · refine Sm.b (y_N_kind gi0 gv33b) ?_
                      rintro ⟨v35a, v35b⟩ ⟨_, v35b'⟩ ⟨rfl, gv35b⟩
                      refine Sm.i ?_ ?_
                      · exact Sm.s (Rp.i rfl gv35b)
                      · refine Sm.i ?_ ?_
                        · exact Sm.s (Rp.i rfl gv35b)
                        · exact Sm.s (Rp.i rfl gv35b)
                    · exact Sm.s (Rp.i rfl gv33b)
                  · exact Sm.s (Rp.i rfl gv29b)
                · exact Sm.s (Rp.i rfl gv25b)
              · refine Sm.b (Sm.is go22bb gi0) ?_
                intro _ _ _
                refine Sm.b (y_X10_isThere gi0 go22bb) ?_
                rintro v36 _ rfl
                refine Sm.i ?_ ?_
                · exact Sm.s (Rp.i rfl go22bb)
                · refine Sm.b (y_N_kind gi0 go22bb) ?_
                  rintro ⟨v38a, v38b⟩ ⟨_, v38b'⟩ ⟨rfl, gv38b⟩
                  refine Sm.i ?_ ?_
                  · refine Sm.b (y_N_kind gi0 gv38b) ?_
                    rintro ⟨v39a, v39b⟩ ⟨_, v39b'⟩ ⟨rfl, gv39b⟩
                    refine Sm.l ?_
                    refine Sm.b (y_N_space gi0 gv39b) ?_
                    rintro ⟨v41a, v41b⟩ ⟨_, v41b'⟩ ⟨rfl, gv41b⟩
                    refine Sm.l ?_
                    refine Sm.i ?_ ?_
                    · refine Sm.b (y_N_kind gi0 gv41b) ?_
                      rintro ⟨v43a, v43b⟩ ⟨_, v43b'⟩ ⟨rfl, gv43b⟩
                      refine Sm.l ?_
                      refine Sm.b (y_N_name gi0 gv43b) ?_
                      rintro ⟨v45a, v45b⟩ ⟨_, v45b'⟩ ⟨rfl, gv45b⟩
                      refine Sm.l ?_
                      refine Sm.i ?_ ?_
                      · refine Sm.b (y_N_kind gi0 gv45b) ?_
                        rintro ⟨v47a, v47b⟩ ⟨_, v47b'⟩ ⟨rfl, gv47b⟩
                        refine Sm.l ?_
                        refine Sm.b (y_N_number gi0 gv47b) ?_
                        rintro ⟨v49a, v49b⟩ ⟨_, v49b'⟩ ⟨rfl, gv49b⟩
                        refine Sm.l ?_
                        refine Sm.i ?_ ?_
                        · refine Sm.b (y_N_kind gi0 gv49b) ?_
                          rintro ⟨v51a, v51b⟩ ⟨_, v51b'⟩ ⟨rfl, gv51b⟩
                          refine Sm.i ?_ ?_
                          · exact Sm.s (Rp.i rfl gv51b)
                          · refine Sm.i ?_ ?_
                            · exact Sm.s (Rp.i rfl gv51b)
                            · exact Sm.s (Rp.i rfl gv51b)
                        · exact Sm.s (Rp.i rfl gv49b)
                      · exact Sm.s (Rp.i rfl gv45b)
                    · exact Sm.s (Rp.i rfl gv41b)
                  · exact Sm.s (Rp.i rfl gv38b)
          · rintro ⟨p52a, p52b⟩ ⟨_, p52b'⟩ ⟨rfl, gp52b⟩
            exact Sm.s (Rp.i rfl (Rp.i rfl gp52b))
      · rintro ⟨p53a, ⟨p53ba, p53bb⟩⟩ ⟨_, ⟨_, p53bb'⟩⟩ ⟨rfl, ⟨rfl, gp53bb⟩⟩
        refine Sm.l ?_
        exact Sm.s (Ru.l (Rp.i rfl (Rp.i rfl (Rp.i rfl gp53bb))))
set_option maxHeartbeats 2000000 in
theorem y_L_isTree {a0 a0' : Nat} {h h' : tq_H} (ga0 : (Rr r d) a0 a0') (gh : (Em r d W0 H0 al) h h') : Sm (Rp Eq (Em r d W0 H0 al)) (f_L_isTree a0 h) (f_L_isTree a0' h') := by
  unfold f_L_isTree
  refine Sm.b (Sm.is gh ga0) ?_
  intro _ _ _
  refine Sm.b (y_X10_isThere ga0 gh) ?_
  rintro v1 _ rfl
  refine Sm.b (R := (Rp Eq (Em r d W0 H0 al))) ?_ ?_
  · refine Sm.i ?_ ?_
    · exact Sm.s (Rp.i rfl gh)
    · refine Sm.b (y_N_parent ga0 gh) ?_
      rintro ⟨v3a, v3b⟩ ⟨_, v3b'⟩ ⟨rfl, gv3b⟩
      refine Sm.i ?_ ?_
      · refine Sm.b (y_N_number ga0 gv3b) ?_
        rintro ⟨v4a, v4b⟩ ⟨_, v4b'⟩ ⟨rfl, gv4b⟩
        refine Sm.i ?_ ?_
        · exact Sm.s (Rp.i rfl gv4b)
        · exact Sm.s (Rp.i rfl gv4b)
      · exact Sm.s (Rp.i rfl gv3b)
  · rintro ⟨p5a, p5b⟩ ⟨_, p5b'⟩ ⟨rfl, gp5b⟩
    refine Sm.b (Sm.w (y_L_isTree_b37 ga0) tq_N (Rp.i rfl (Rp.i rfl (Rp.i rfl gp5b)))) ?_
    rintro ⟨o55a, ⟨o55ba, o55bb⟩⟩ ⟨_, ⟨_, o55bb'⟩⟩ ⟨rfl, ⟨rfl, go55bb⟩⟩
    refine Sm.b (R := Eq) ?_ ?_
    · refine Sm.i ?_ ?_
      · exact Sm.s rfl
      · refine Sm.b (Sm.is go55bb ga0) ?_
        intro _ _ _
        refine Sm.b (y_X10_nodes ga0 go55bb) ?_
        rintro v56 _ rfl
        refine Sm.i ?_ ?_
        · exact Sm.s rfl
        · exact Sm.s rfl
    · rintro p58 _ rfl
      refine Sm.b (Sm.r) ?_
      rintro z59 _ rfl
      exact Sm.s (Rp.i rfl go55bb)
set_option maxHeartbeats 2000000 in
theorem y_L_finds_b102 {i0 i0' : Nat} {i2 : Int32} {i3 : Int32} (gi0 : (Rr r d) i0 i0') : ∀ s s', (Rp Eq (Rp Eq (Em r d W0 H0 al))) s s' → Sm (Ru (Rp Eq (Rp Eq (Em r d W0 H0 al))) (Rp Eq (Em r d W0 H0 al))) (f_L_finds_b102 i0 i2 i3 s) (f_L_finds_b102 i0' i2 i3 s') := by
  rintro ⟨y1, ⟨y4, hh⟩⟩ ⟨_, ⟨_, hh'⟩⟩ ⟨rfl, ⟨rfl, ghh⟩⟩
  dsimp only [f_L_finds_b102]
  refine Sm.i ?_ ?_
  · exact Sm.s (Ru.r (Rp.i rfl ghh))
  · refine Sm.i ?_ ?_
    · exact Sm.s (Ru.r (Rp.i rfl ghh))
    · refine Sm.b (y_N_foundAt gi0 ghh) ?_
      rintro ⟨v12a, v12b⟩ ⟨_, v12b'⟩ ⟨rfl, gv12b⟩
      refine Sm.b (R := (Rp Eq (Em r d W0 H0 al))) ?_ ?_
      · refine Sm.i ?_ ?_
        · exact Sm.s (Rp.i rfl gv12b)
        · refine Sm.b (y_N_foundAt gi0 gv12b) ?_
          rintro ⟨v13a, v13b⟩ ⟨_, v13b'⟩ ⟨rfl, gv13b⟩
          exact Sm.s (Rp.i rfl gv13b)
      · rintro ⟨p14a, p14b⟩ ⟨_, p14b'⟩ ⟨rfl, gp14b⟩
        refine Sm.b (R := (Rp Eq (Em r d W0 H0 al))) ?_ ?_
        · refine Sm.i ?_ ?_
          · exact Sm.s (Rp.i rfl gp14b)
          · refine Sm.b (y_N_number gi0 gp14b) ?_
            rintro ⟨v15a, v15b⟩ ⟨_, v15b'⟩ ⟨rfl, gv15b⟩
            refine Sm.i ?_ ?_
            · exact Sm.s (Rp.i rfl gv15b)
            · refine Sm.b (y_N_number gi0 gv15b) ?_
              rintro ⟨v16a, v16b⟩ ⟨_, v16b'⟩ ⟨rfl, gv16b⟩
              refine Sm.i ?_ ?_
              · exact Sm.s (Rp.i rfl gv16b)
              · exact Sm.s (Rp.i rfl gv16b)
        · rintro ⟨p17a, p17b⟩ ⟨_, p17b'⟩ ⟨rfl, gp17b⟩
          refine Sm.b (Sm.is gp17b gi0) ?_
          intro _ _ _
          refine Sm.b (y_X10_isThere gi0 gp17b) ?_
          rintro v18 _ rfl
          refine Sm.b (R := (Rp Eq (Em r d W0 H0 al))) ?_ ?_
          · refine Sm.i ?_ ?_
            · exact Sm.s (Rp.i rfl gp17b)
            · refine Sm.i ?_ ?_
              · refine Sm.i ?_ ?_
                · exact Sm.s (Rp.i rfl gp17b)
                · refine Sm.b (y_N_value gi0 gp17b) ?_
                  rintro ⟨v20a, v20b⟩ ⟨_, v20b'⟩ ⟨rfl, gv20b⟩
                  refine Sm.i ?_ ?_
                  · exact Sm.s (Rp.i rfl gv20b)
                  · exact Sm.s (Rp.i rfl gv20b)
              · refine Sm.b (y_N_number gi0 gp17b) ?_
                rintro ⟨v21a, v21b⟩ ⟨_, v21b'⟩ ⟨rfl, gv21b⟩
                refine Sm.b (y_N_number gi0 gv21b) ?_
                rintro ⟨v22a, v22b⟩ ⟨_, v22b'⟩ ⟨rfl, gv22b⟩
                refine Sm.i ?_ ?_
                · exact Sm.s (Rp.i rfl gv22b)
                · refine Sm.i ?_ ?_
                  · exact Sm.s (Rp.i rfl gv22b)
                  · refine Sm.b (y_N_value gi0 gv22b) ?_
                    rintro ⟨v23a, v23b⟩ ⟨_, v23b'⟩ ⟨rfl, gv23b⟩
                    refine Sm.i ?_ ?_
                    · exact Sm.s (Rp.i rfl gv23b)
                    · exact Sm.s (Rp.i rfl gv23b)
          · rintro ⟨p24a, p24b⟩ ⟨_, p24b'⟩ ⟨rfl, gp24b⟩
            refine Sm.l ?_
            exact Sm.s (Ru.l (Rp.i rfl (Rp.i rfl gp24b)))
set_option maxHeartbeats 2000000 in
theorem y_L_finds_b4 {i0 i0' : Nat} (gi0 : (Rr r d) i0 i0') : ∀ s s', (Rp Eq (Rp Eq (Em r d W0 H0 al))) s s' → Sm (Ru (Rp Eq (Rp Eq (Em r d W0 H0 al))) (Rp Eq (Em r d W0 H0 al))) (f_L_finds_b4 i0 s) (f_L_finds_b4 i0' s') := by
  rintro ⟨y1, ⟨y2, hh⟩⟩ ⟨_, ⟨_, hh'⟩⟩ ⟨rfl, ⟨rfl, ghh⟩⟩
  dsimp only [f_L_finds_b4]
  refine Sm.b (Sm.is ghh gi0) ?_
  intro _ _ _
  refine Sm.b (y_X10_paths gi0 ghh) ?_
  rintro v1 _ rfl
  refine Sm.i ?_ ?_
  · exact Sm.s (Ru.r (Rp.i rfl ghh))
  · refine Sm.i ?_ ?_
    · exact Sm.s (Ru.r (Rp.i rfl ghh))
    · refine Sm.b (y_N_found gi0 ghh) ?_
      rintro ⟨v3a, v3b⟩ ⟨_, v3b'⟩ ⟨rfl, gv3b⟩
      refine Sm.b (R := (Rp Eq (Em r d W0 H0 al))) ?_ ?_
      · refine Sm.i ?_ ?_
        · exact Sm.s (Rp.i rfl gv3b)
        · refine Sm.b (y_N_foundAnew gi0 gv3b) ?_
          rintro ⟨v4a, v4b⟩ ⟨_, v4b'⟩ ⟨rfl, gv4b⟩
          refine Sm.i ?_ ?_
          · refine Sm.b (y_L_foundAt gi0 gv4b) ?_
            rintro ⟨v5a, v5b⟩ ⟨_, v5b'⟩ ⟨rfl, gv5b⟩
            refine Sm.i ?_ ?_
            · refine Sm.b (y_L_ordered gi0 gv5b) ?_
              rintro ⟨v6a, v6b⟩ ⟨_, v6b'⟩ ⟨rfl, gv6b⟩
              refine Sm.i ?_ ?_
              · refine Sm.b (y_N_groups gi0 gv6b) ?_
                rintro ⟨v7a, v7b⟩ ⟨_, v7b'⟩ ⟨rfl, gv7b⟩
                refine Sm.i ?_ ?_
                · exact Sm.s (Rp.i rfl gv7b)
                · refine Sm.l ?_
                  refine Sm.b (y_N_groups gi0 gv7b) ?_
                  rintro ⟨v9a, v9b⟩ ⟨_, v9b'⟩ ⟨rfl, gv9b⟩
                  refine Sm.l ?_
                  refine Sm.i ?_ ?_
                  · exact Sm.s (Rp.i rfl gv9b)
                  · exact Sm.s (Rp.i rfl gv9b)
              · exact Sm.s (Rp.i rfl gv6b)
            · exact Sm.s (Rp.i rfl gv5b)
          · exact Sm.s (Rp.i rfl gv4b)
      · rintro ⟨p11a, p11b⟩ ⟨_, p11b'⟩ ⟨rfl, gp11b⟩
        refine Sm.b (Sm.w (y_L_finds_b102 gi0) tq_N (Rp.i rfl (Rp.i rfl gp11b))) ?_
        rintro ⟨o26a, o26b⟩ ⟨_, o26b'⟩ ⟨rfl, go26b⟩
        refine Sm.l ?_
        exact Sm.s (Ru.l (Rp.i rfl (Rp.i rfl go26b)))
set_option maxHeartbeats 2000000 in
theorem y_L_finds {a0 a0' : Nat} {h h' : tq_H} (ga0 : (Rr r d) a0 a0') (gh : (Em r d W0 H0 al) h h') : Sm (Rp Eq (Em r d W0 H0 al)) (f_L_finds a0 h) (f_L_finds a0' h') := by
  unfold f_L_finds
  refine Sm.b (Sm.w (y_L_finds_b4 ga0) 21 (Rp.i rfl (Rp.i rfl gh))) ?_
  rintro ⟨o28a, o28b⟩ ⟨_, o28b'⟩ ⟨rfl, go28b⟩
  refine Sm.b (Sm.r) ?_
  rintro z29 _ rfl
  exact Sm.s (Rp.i rfl go28b)
set_option maxHeartbeats 2000000 in
theorem y_G_refuses {a0 a0' : Nat} {x11 : Int32} {a2 : Int32} {h h' : tq_H} (ha : al) (ga0 : (Rr r d) a0 a0') (gh : (Em r d W0 H0 al) h h') : Sm (Rp Eq (Em r d W0 H0 al)) (f_G_refuses a0 x11 a2 h) (f_G_refuses a0' x11 a2 h') := by
  unfold f_G_refuses
  refine Sm.l ?_
  refine Sm.b (R := Eq) ?_ ?_
  · refine Sm.i ?_ ?_
    · refine Sm.b (Sm.is gh ga0) ?_
      intro _ _ _
      refine Sm.b (y_X10_made ga0 gh) ?_
      rintro v2 _ rfl
      exact Sm.s rfl
    · exact Sm.s rfl
  · rintro p4 _ rfl
    refine Sm.b (R := Eq) ?_ ?_
    · refine Sm.i ?_ ?_
      · refine Sm.b (Sm.is gh ga0) ?_
        intro _ _ _
        refine Sm.b (y_X10_paths ga0 gh) ?_
        rintro v5 _ rfl
        exact Sm.s rfl
      · exact Sm.s rfl
    · rintro p7 _ rfl
      refine Sm.l ?_
      refine Sm.l ?_
      refine Sm.l ?_
      refine Sm.l ?_
      refine Sm.b (y_L_element ga0 gh) ?_
      rintro ⟨v13a, v13b⟩ ⟨_, v13b'⟩ ⟨rfl, gv13b⟩
      refine Sm.b (R := (Rp Eq (Em r d W0 H0 al))) ?_ ?_
      · refine Sm.i ?_ ?_
        · refine Sm.l ?_
          refine Sm.b (y_L_element ga0 gv13b) ?_
          rintro ⟨v15a, v15b⟩ ⟨_, v15b'⟩ ⟨rfl, gv15b⟩
          refine Sm.i ?_ ?_
          · refine Sm.b (y_L_element ga0 gv15b) ?_
            rintro ⟨v16a, v16b⟩ ⟨_, v16b'⟩ ⟨rfl, gv16b⟩
            refine Sm.i ?_ ?_
            · refine Sm.l ?_
              refine Sm.b (y_L_text ga0 gv16b) ?_
              rintro ⟨v18a, v18b⟩ ⟨_, v18b'⟩ ⟨rfl, gv18b⟩
              refine Sm.i ?_ ?_
              · refine Sm.b (y_L_attribute ga0 gv18b) ?_
                rintro ⟨v19a, v19b⟩ ⟨_, v19b'⟩ ⟨rfl, gv19b⟩
                refine Sm.i ?_ ?_
                · refine Sm.b (y_L_attribute ga0 gv19b) ?_
                  rintro ⟨v20a, v20b⟩ ⟨_, v20b'⟩ ⟨rfl, gv20b⟩
                  refine Sm.i ?_ ?_
                  · refine Sm.i ?_ ?_
                    · refine Sm.b (y_L_remove ga0 gv20b) ?_
                      rintro ⟨v21a, v21b⟩ ⟨_, v21b'⟩ ⟨rfl, gv21b⟩
                      refine Sm.i ?_ ?_
                      · refine Sm.b (y_L_remove ga0 gv21b) ?_
                        rintro ⟨v22a, v22b⟩ ⟨_, v22b'⟩ ⟨rfl, gv22b⟩
                        refine Sm.i ?_ ?_
                        · refine Sm.b (y_L_rename ga0 gv22b) ?_
                          rintro ⟨v23a, v23b⟩ ⟨_, v23b'⟩ ⟨rfl, gv23b⟩
                          refine Sm.i ?_ ?_
                          · refine Sm.b (y_L_rename ga0 gv23b) ?_
                            rintro ⟨v24a, v24b⟩ ⟨_, v24b'⟩ ⟨rfl, gv24b⟩
                            refine Sm.i ?_ ?_
                            · refine Sm.b (y_L_revalue ga0 gv24b) ?_
                              rintro ⟨v25a, v25b⟩ ⟨_, v25b'⟩ ⟨rfl, gv25b⟩
                              refine Sm.i ?_ ?_
                              · refine Sm.l ?_
                                refine Sm.b (y_L_revalue ga0 gv25b) ?_
                                rintro ⟨v27a, v27b⟩ ⟨_, v27b'⟩ ⟨rfl, gv27b⟩
                                refine Sm.i ?_ ?_
                                · refine Sm.b (y_L_revalue ga0 gv27b) ?_
                                  rintro ⟨v28a, v28b⟩ ⟨_, v28b'⟩ ⟨rfl, gv28b⟩
                                  refine Sm.i ?_ ?_
                                  · refine Sm.b (y_L_move ga0 gv28b) ?_
                                    rintro ⟨v29a, v29b⟩ ⟨_, v29b'⟩ ⟨rfl, gv29b⟩
                                    refine Sm.i ?_ ?_
                                    · refine Sm.b (y_L_move ga0 gv29b) ?_
                                      rintro ⟨v30a, v30b⟩ ⟨_, v30b'⟩ ⟨rfl, gv30b⟩
                                      refine Sm.i ?_ ?_
                                      · refine Sm.b (y_L_move ga0 gv30b) ?_
                                        rintro ⟨v31a, v31b⟩ ⟨_, v31b'⟩ ⟨rfl, gv31b⟩
                                        refine Sm.i ?_ ?_
                                        · refine Sm.b (y_L_declare ga0 gv31b) ?_
                                          rintro ⟨v32a, v32b⟩ ⟨_, v32b'⟩ ⟨rfl, gv32b⟩
                                          refine Sm.i ?_ ?_
                                          · refine Sm.l ?_
                                            refine Sm.b (y_L_declare ga0 gv32b) ?_
                                            rintro ⟨v34a, v34b⟩ ⟨_, v34b'⟩ ⟨rfl, gv34b⟩
                                            refine Sm.i ?_ ?_
                                            · exact Sm.s (Rp.i rfl gv34b)
                                            · exact Sm.s (Rp.i rfl gv34b)
                                          · exact Sm.s (Rp.i rfl gv32b)
                                        · exact Sm.s (Rp.i rfl gv31b)
                                      · exact Sm.s (Rp.i rfl gv30b)
                                    · exact Sm.s (Rp.i rfl gv29b)
                                  · exact Sm.s (Rp.i rfl gv28b)
                                · exact Sm.s (Rp.i rfl gv27b)
                              · exact Sm.s (Rp.i rfl gv25b)
                            · exact Sm.s (Rp.i rfl gv24b)
                          · exact Sm.s (Rp.i rfl gv23b)
                        · exact Sm.s (Rp.i rfl gv22b)
                      · exact Sm.s (Rp.i rfl gv21b)
                    · refine Sm.b (y_L_attribute ga0 gv20b) ?_
                      rintro ⟨v35a, v35b⟩ ⟨_, v35b'⟩ ⟨rfl, gv35b⟩
                      refine Sm.i ?_ ?_
                      · refine Sm.b (y_L_rename ga0 gv35b) ?_
                        rintro ⟨v36a, v36b⟩ ⟨_, v36b'⟩ ⟨rfl, gv36b⟩
                        refine Sm.i ?_ ?_
                        · refine Sm.b (y_L_declare ga0 gv36b) ?_
                          rintro ⟨v37a, v37b⟩ ⟨_, v37b'⟩ ⟨rfl, gv37b⟩
                          refine Sm.i ?_ ?_
                          · refine Sm.b (y_L_remove ga0 gv37b) ?_
                            rintro ⟨v38a, v38b⟩ ⟨_, v38b'⟩ ⟨rfl, gv38b⟩
                            refine Sm.i ?_ ?_
                            · refine Sm.b (y_L_remove ga0 gv38b) ?_
                              rintro ⟨v39a, v39b⟩ ⟨_, v39b'⟩ ⟨rfl, gv39b⟩
                              refine Sm.i ?_ ?_
                              · refine Sm.b (y_L_rename ga0 gv39b) ?_
                                rintro ⟨v40a, v40b⟩ ⟨_, v40b'⟩ ⟨rfl, gv40b⟩
                                refine Sm.i ?_ ?_
                                · refine Sm.b (y_L_rename ga0 gv40b) ?_
                                  rintro ⟨v41a, v41b⟩ ⟨_, v41b'⟩ ⟨rfl, gv41b⟩
                                  refine Sm.i ?_ ?_
                                  · refine Sm.b (y_L_revalue ga0 gv41b) ?_
                                    rintro ⟨v42a, v42b⟩ ⟨_, v42b'⟩ ⟨rfl, gv42b⟩
                                    refine Sm.i ?_ ?_
                                    · refine Sm.l ?_
                                      refine Sm.b (y_L_revalue ga0 gv42b) ?_
                                      rintro ⟨v44a, v44b⟩ ⟨_, v44b'⟩ ⟨rfl, gv44b⟩
                                      refine Sm.i ?_ ?_
                                      · refine Sm.b (y_L_revalue ga0 gv44b) ?_
                                        rintro ⟨v45a, v45b⟩ ⟨_, v45b'⟩ ⟨rfl, gv45b⟩
                                        refine Sm.i ?_ ?_
                                        · refine Sm.b (y_L_move ga0 gv45b) ?_
                                          rintro ⟨v46a, v46b⟩ ⟨_, v46b'⟩ ⟨rfl, gv46b⟩
                                          refine Sm.i ?_ ?_
                                          · refine Sm.b (y_L_move ga0 gv46b) ?_
                                            rintro ⟨v47a, v47b⟩ ⟨_, v47b'⟩ ⟨rfl, gv47b⟩
                                            refine Sm.i ?_ ?_
                                            · refine Sm.b (y_L_move ga0 gv47b) ?_
                                              rintro ⟨v48a, v48b⟩ ⟨_, v48b'⟩ ⟨rfl, gv48b⟩
                                              refine Sm.i ?_ ?_
                                              · refine Sm.b (y_L_declare ga0 gv48b) ?_
                                                rintro ⟨v49a, v49b⟩ ⟨_, v49b'⟩ ⟨rfl, gv49b⟩
                                                refine Sm.i ?_ ?_
                                                · refine Sm.l ?_
                                                  refine Sm.b (y_L_declare ga0 gv49b) ?_
                                                  rintro ⟨v51a, v51b⟩ ⟨_, v51b'⟩ ⟨rfl, gv51b⟩
                                                  refine Sm.i ?_ ?_
                                                  · exact Sm.s (Rp.i rfl gv51b)
                                                  · exact Sm.s (Rp.i rfl gv51b)
                                                · exact Sm.s (Rp.i rfl gv49b)
                                              · exact Sm.s (Rp.i rfl gv48b)
                                            · exact Sm.s (Rp.i rfl gv47b)
                                          · exact Sm.s (Rp.i rfl gv46b)
                                        · exact Sm.s (Rp.i rfl gv45b)
                                      · exact Sm.s (Rp.i rfl gv44b)
                                    · exact Sm.s (Rp.i rfl gv42b)
                                  · exact Sm.s (Rp.i rfl gv41b)
                                · exact Sm.s (Rp.i rfl gv40b)
                              · exact Sm.s (Rp.i rfl gv39b)
                            · exact Sm.s (Rp.i rfl gv38b)
                          · exact Sm.s (Rp.i rfl gv37b)
                        · exact Sm.s (Rp.i rfl gv36b)
                      · exact Sm.s (Rp.i rfl gv35b)
                  · exact Sm.s (Rp.i rfl gv20b)
                · exact Sm.s (Rp.i rfl gv19b)
              · exact Sm.s (Rp.i rfl gv18b)
            · exact Sm.s (Rp.i rfl gv16b)
          · exact Sm.s (Rp.i rfl gv15b)
        · exact Sm.s (Rp.i rfl gv13b)
      · rintro ⟨p52a, p52b⟩ ⟨_, p52b'⟩ ⟨rfl, gp52b⟩
        refine Sm.b (R := (Rp Eq (Em r d W0 H0 al))) ?_ ?_
        · refine Sm.i ?_ ?_
          · exact Sm.s (Rp.i rfl gp52b)
          · refine Sm.b (y_L_kind ga0 gp52b) ?_
            rintro ⟨v53a, v53b⟩ ⟨_, v53b'⟩ ⟨rfl, gv53b⟩
            refine Sm.i ?_ ?_
            · refine Sm.b (y_L_name ga0 gv53b) ?_
              rintro ⟨v54a, v54b⟩ ⟨_, v54b'⟩ ⟨rfl, gv54b⟩
              refine Sm.i ?_ ?_
              · refine Sm.b (y_L_value ga0 gv54b) ?_
                rintro ⟨v55a, v55b⟩ ⟨_, v55b'⟩ ⟨rfl, gv55b⟩
                refine Sm.i ?_ ?_
                · refine Sm.b (y_L_parent ga0 gv55b) ?_
                  rintro ⟨v56a, v56b⟩ ⟨_, v56b'⟩ ⟨rfl, gv56b⟩
                  refine Sm.i ?_ ?_
                  · refine Sm.b (y_L_child ga0 gv56b) ?_
                    rintro ⟨v57a, v57b⟩ ⟨_, v57b'⟩ ⟨rfl, gv57b⟩
                    refine Sm.i ?_ ?_
                    · refine Sm.b (y_L_child ga0 gv57b) ?_
                      rintro ⟨v58a, v58b⟩ ⟨_, v58b'⟩ ⟨rfl, gv58b⟩
                      refine Sm.i ?_ ?_
                      · refine Sm.b (y_L_space ga0 gv58b) ?_
                        rintro ⟨v59a, v59b⟩ ⟨_, v59b'⟩ ⟨rfl, gv59b⟩
                        refine Sm.i ?_ ?_
                        · refine Sm.b (y_L_number ga0 gv59b) ?_
                          rintro ⟨v60a, v60b⟩ ⟨_, v60b'⟩ ⟨rfl, gv60b⟩
                          refine Sm.i ?_ ?_
                          · refine Sm.b (y_L_seen ga0 gv60b) ?_
                            rintro ⟨v61a, v61b⟩ ⟨_, v61b'⟩ ⟨rfl, gv61b⟩
                            refine Sm.i ?_ ?_
                            · refine Sm.b (y_L_types ga0 gv61b) ?_
                              rintro ⟨v62a, v62b⟩ ⟨_, v62b'⟩ ⟨rfl, gv62b⟩
                              refine Sm.i ?_ ?_
                              · refine Sm.b (y_L_step ga0 gv62b) ?_
                                rintro ⟨v63a, v63b⟩ ⟨_, v63b'⟩ ⟨rfl, gv63b⟩
                                refine Sm.i ?_ ?_
                                · refine Sm.b (y_L_place ga0 gv63b) ?_
                                  rintro ⟨v64a, v64b⟩ ⟨_, v64b'⟩ ⟨rfl, gv64b⟩
                                  refine Sm.i ?_ ?_
                                  · refine Sm.b (y_L_last ga0 gv64b) ?_
                                    rintro ⟨v65a, v65b⟩ ⟨_, v65b'⟩ ⟨rfl, gv65b⟩
                                    refine Sm.i ?_ ?_
                                    · refine Sm.b (y_L_has ga0 gv65b) ?_
                                      rintro ⟨v66a, v66b⟩ ⟨_, v66b'⟩ ⟨rfl, gv66b⟩
                                      refine Sm.i ?_ ?_
                                      · refine Sm.b (y_L_worth ga0 gv66b) ?_
                                        rintro ⟨v67a, v67b⟩ ⟨_, v67b'⟩ ⟨rfl, gv67b⟩
                                        refine Sm.i ?_ ?_
                                        · refine Sm.b (y_L_found ga0 gv67b) ?_
                                          rintro ⟨v68a, v68b⟩ ⟨_, v68b'⟩ ⟨rfl, gv68b⟩
                                          refine Sm.i ?_ ?_
                                          · refine Sm.b (y_L_foundAnew ga0 gv68b) ?_
                                            rintro ⟨v69a, v69b⟩ ⟨_, v69b'⟩ ⟨rfl, gv69b⟩
                                            refine Sm.i ?_ ?_
                                            · refine Sm.b (y_L_foundAt ga0 gv69b) ?_
                                              rintro ⟨v70a, v70b⟩ ⟨_, v70b'⟩ ⟨rfl, gv70b⟩
                                              refine Sm.i ?_ ?_
                                              · refine Sm.b (y_L_ordered ga0 gv70b) ?_
                                                rintro ⟨v71a, v71b⟩ ⟨_, v71b'⟩ ⟨rfl, gv71b⟩
                                                refine Sm.i ?_ ?_
                                                · refine Sm.b (y_L_groups ga0 gv71b) ?_
                                                  rintro ⟨v72a, v72b⟩ ⟨_, v72b'⟩ ⟨rfl, gv72b⟩
                                                  refine Sm.i ?_ ?_
                                                  · refine Sm.b (y_L_infer ga0 gv72b) ?_
                                                    rintro ⟨v73a, v73b⟩ ⟨_, v73b'⟩ ⟨rfl, gv73b⟩
                                                    refine Sm.i ?_ ?_
                                                    · refine Sm.b (y_L_plan ga0 gv73b) ?_
                                                      rintro ⟨v74a, v74b⟩ ⟨_, v74b'⟩ ⟨rfl, gv74b⟩
                                                      refine Sm.i ?_ ?_
                                                      · refine Sm.b (y_L_view ga0 gv74b) ?_
                                                        rintro ⟨v75a, v75b⟩ ⟨_, v75b'⟩ ⟨rfl, gv75b⟩
                                                        refine Sm.i ?_ ?_
                                                        · refine Sm.b (y_L_hide ga0 gv75b) ?_
                                                          rintro ⟨v76a, v76b⟩ ⟨_, v76b'⟩ ⟨rfl, gv76b⟩
                                                          refine Sm.i ?_ ?_
                                                          · refine Sm.l ?_
                                                            refine Sm.b (y_L_viewed ga0 gv76b) ?_
                                                            rintro ⟨v78a, v78b⟩ ⟨_, v78b'⟩ ⟨rfl, gv78b⟩
                                                            refine Sm.i ?_ ?_
                                                            · refine Sm.l ?_
                                                              refine Sm.b (y_L_changed ga0 gv78b) ?_
                                                              rintro ⟨v80a, v80b⟩ ⟨_, v80b'⟩ ⟨rfl, gv80b⟩
                                                              refine Sm.i ?_ ?_
                                                              · exact Sm.s (Rp.i rfl gv80b)
                                                              · exact Sm.s (Rp.i rfl gv80b)
                                                            · exact Sm.s (Rp.i rfl gv78b)
                                                          · exact Sm.s (Rp.i rfl gv76b)
                                                        · exact Sm.s (Rp.i rfl gv75b)
                                                      · exact Sm.s (Rp.i rfl gv74b)
                                                    · exact Sm.s (Rp.i rfl gv73b)
                                                  · exact Sm.s (Rp.i rfl gv72b)
                                                · exact Sm.s (Rp.i rfl gv71b)
                                              · exact Sm.s (Rp.i rfl gv70b)
                                            · exact Sm.s (Rp.i rfl gv69b)
                                          · exact Sm.s (Rp.i rfl gv68b)
                                        · exact Sm.s (Rp.i rfl gv67b)
                                      · exact Sm.s (Rp.i rfl gv66b)
                                    · exact Sm.s (Rp.i rfl gv65b)
                                  · exact Sm.s (Rp.i rfl gv64b)
                                · exact Sm.s (Rp.i rfl gv63b)
                              · exact Sm.s (Rp.i rfl gv62b)
                            · exact Sm.s (Rp.i rfl gv61b)
                          · exact Sm.s (Rp.i rfl gv60b)
                        · exact Sm.s (Rp.i rfl gv59b)
                      · exact Sm.s (Rp.i rfl gv58b)
                    · exact Sm.s (Rp.i rfl gv57b)
                  · exact Sm.s (Rp.i rfl gv56b)
                · exact Sm.s (Rp.i rfl gv55b)
              · exact Sm.s (Rp.i rfl gv54b)
            · exact Sm.s (Rp.i rfl gv53b)
        · rintro ⟨p81a, p81b⟩ ⟨_, p81b'⟩ ⟨rfl, gp81b⟩
          refine Sm.b (R := (Rp Eq (Em r d W0 H0 al))) ?_ ?_
          · refine Sm.i ?_ ?_
            · exact Sm.s (Rp.i rfl gp81b)
            · refine Sm.b (y_L_nameType ga0 gp81b) ?_
              rintro ⟨v82a, v82b⟩ ⟨_, v82b'⟩ ⟨rfl, gv82b⟩
              refine Sm.i ?_ ?_
              · refine Sm.l ?_
                refine Sm.b (y_L_nameType ga0 gv82b) ?_
                rintro ⟨v84a, v84b⟩ ⟨_, v84b'⟩ ⟨rfl, gv84b⟩
                refine Sm.i ?_ ?_
                · refine Sm.b (y_L_arc ga0 gv84b) ?_
                  rintro ⟨v85a, v85b⟩ ⟨_, v85b'⟩ ⟨rfl, gv85b⟩
                  refine Sm.i ?_ ?_
                  · refine Sm.l ?_
                    refine Sm.b (y_L_arc ga0 gv85b) ?_
                    rintro ⟨v87a, v87b⟩ ⟨_, v87b'⟩ ⟨rfl, gv87b⟩
                    refine Sm.i ?_ ?_
                    · refine Sm.b (y_L_fin ga0 gv87b) ?_
                      rintro ⟨v88a, v88b⟩ ⟨_, v88b'⟩ ⟨rfl, gv88b⟩
                      refine Sm.i ?_ ?_
                      · refine Sm.b (y_L_texts ga0 gv88b) ?_
                        rintro ⟨v89a, v89b⟩ ⟨_, v89b'⟩ ⟨rfl, gv89b⟩
                        refine Sm.i ?_ ?_
                        · refine Sm.b (y_L_says ga0 gv89b) ?_
                          rintro ⟨v90a, v90b⟩ ⟨_, v90b'⟩ ⟨rfl, gv90b⟩
                          refine Sm.i ?_ ?_
                          · refine Sm.b (y_L_says ga0 gv90b) ?_
                            rintro ⟨v91a, v91b⟩ ⟨_, v91b'⟩ ⟨rfl, gv91b⟩
                            refine Sm.i ?_ ?_
                            · refine Sm.l ?_
                              refine Sm.b (y_L_says ga0 gv91b) ?_
                              rintro ⟨v93a, v93b⟩ ⟨_, v93b'⟩ ⟨rfl, gv93b⟩
                              refine Sm.i ?_ ?_
                              · refine Sm.b (y_L_index ga0 gv93b) ?_
                                rintro ⟨v94a, v94b⟩ ⟨_, v94b'⟩ ⟨rfl, gv94b⟩
                                refine Sm.i ?_ ?_
                                · refine Sm.b (y_L_ranked ga0 gv94b) ?_
                                  rintro ⟨v95a, v95b⟩ ⟨_, v95b'⟩ ⟨rfl, gv95b⟩
                                  refine Sm.i ?_ ?_
                                  · refine Sm.l ?_
                                    refine Sm.b (y_L_ranked ga0 gv95b) ?_
                                    rintro ⟨v97a, v97b⟩ ⟨_, v97b'⟩ ⟨rfl, gv97b⟩
                                    refine Sm.i ?_ ?_
                                    · refine Sm.b (y_L_take ga0 gv97b) ?_
                                      rintro ⟨v98a, v98b⟩ ⟨_, v98b'⟩ ⟨rfl, gv98b⟩
                                      refine Sm.i ?_ ?_
                                      · refine Sm.b (y_L_distance ha ga0 gv98b) ?_
                                        rintro ⟨v99a, v99b⟩ ⟨_, v99b'⟩ ⟨rfl, gv99b⟩
                                        refine Sm.i ?_ ?_
                                        · refine Sm.b (y_L_odds ga0 gv99b) ?_
                                          rintro ⟨v100a, v100b⟩ ⟨_, v100b'⟩ ⟨rfl, gv100b⟩
                                          refine Sm.i ?_ ?_
                                          · exact Sm.s (Rp.i rfl gv100b)
                                          · exact Sm.s (Rp.i rfl gv100b)
                                        · exact Sm.s (Rp.i rfl gv99b)
                                      · exact Sm.s (Rp.i rfl gv98b)
                                    · exact Sm.s (Rp.i rfl gv97b)
                                  · exact Sm.s (Rp.i rfl gv95b)
                                · exact Sm.s (Rp.i rfl gv94b)
                              · exact Sm.s (Rp.i rfl gv93b)
                            · exact Sm.s (Rp.i rfl gv91b)
                          · exact Sm.s (Rp.i rfl gv90b)
                        · exact Sm.s (Rp.i rfl gv89b)
                      · exact Sm.s (Rp.i rfl gv88b)
                    · exact Sm.s (Rp.i rfl gv87b)
                  · exact Sm.s (Rp.i rfl gv85b)
                · exact Sm.s (Rp.i rfl gv84b)
              · exact Sm.s (Rp.i rfl gv82b)
          · rintro ⟨p101a, p101b⟩ ⟨_, p101b'⟩ ⟨rfl, gp101b⟩
            refine Sm.b (R := (Rp Eq (Em r d W0 H0 al))) ?_ ?_
            · refine Sm.i ?_ ?_
              · exact Sm.s (Rp.i rfl gp101b)
              · refine Sm.b (Sm.is gp101b ga0) ?_
                intro _ _ _
                refine Sm.b (y_X10_paths ga0 gp101b) ?_
                rintro v102 _ rfl
                refine Sm.i ?_ ?_
                · exact Sm.s (Rp.i rfl gp101b)
                · refine Sm.b (Sm.is gp101b ga0) ?_
                  intro _ _ _
                  refine Sm.b (y_X10_paths ga0 gp101b) ?_
                  rintro v104 _ rfl
                  refine Sm.b (Sm.r) ?_
                  intro _ _ _
                  refine Sm.l ?_
                  refine Sm.b (y_L_step ga0 gp101b) ?_
                  rintro ⟨v107a, v107b⟩ ⟨_, v107b'⟩ ⟨rfl, gv107b⟩
                  refine Sm.b (R := (Rp Eq (Em r d W0 H0 al))) ?_ ?_
                  · refine Sm.i ?_ ?_
                    · refine Sm.l ?_
                      refine Sm.b (y_L_step ga0 gv107b) ?_
                      rintro ⟨v109a, v109b⟩ ⟨_, v109b'⟩ ⟨rfl, gv109b⟩
                      refine Sm.i ?_ ?_
                      · refine Sm.l ?_
                        refine Sm.b (y_L_step ga0 gv109b) ?_
                        rintro ⟨v111a, v111b⟩ ⟨_, v111b'⟩ ⟨rfl, gv111b⟩
                        refine Sm.i ?_ ?_
                        · refine Sm.b (y_L_step ga0 gv111b) ?_
                          rintro ⟨v112a, v112b⟩ ⟨_, v112b'⟩ ⟨rfl, gv112b⟩
                          refine Sm.i ?_ ?_
                          · refine Sm.l ?_
                            refine Sm.b (y_L_place ga0 gv112b) ?_
                            rintro ⟨v114a, v114b⟩ ⟨_, v114b'⟩ ⟨rfl, gv114b⟩
                            refine Sm.i ?_ ?_
                            · refine Sm.l ?_
                              refine Sm.b (y_L_place ga0 gv114b) ?_
                              rintro ⟨v116a, v116b⟩ ⟨_, v116b'⟩ ⟨rfl, gv116b⟩
                              refine Sm.i ?_ ?_
                              · refine Sm.b (y_L_has ga0 gv116b) ?_
                                rintro ⟨v117a, v117b⟩ ⟨_, v117b'⟩ ⟨rfl, gv117b⟩
                                refine Sm.i ?_ ?_
                                · refine Sm.b (y_L_worth ga0 gv117b) ?_
                                  rintro ⟨v118a, v118b⟩ ⟨_, v118b'⟩ ⟨rfl, gv118b⟩
                                  refine Sm.i ?_ ?_
                                  · refine Sm.b (y_L_found ga0 gv118b) ?_
                                    rintro ⟨v119a, v119b⟩ ⟨_, v119b'⟩ ⟨rfl, gv119b⟩
                                    refine Sm.i ?_ ?_
                                    · refine Sm.b (y_L_foundAt ga0 gv119b) ?_
                                      rintro ⟨v120a, v120b⟩ ⟨_, v120b'⟩ ⟨rfl, gv120b⟩
                                      refine Sm.i ?_ ?_
                                      · refine Sm.b (y_L_ordered ga0 gv120b) ?_
                                        rintro ⟨v121a, v121b⟩ ⟨_, v121b'⟩ ⟨rfl, gv121b⟩
                                        refine Sm.i ?_ ?_
                                        · refine Sm.b (Sm.is gv121b ga0) ?_
                                          intro _ _ _
                                          refine Sm.b (y_X10_paths ga0 gv121b) ?_
                                          rintro v122 _ rfl
                                          refine Sm.i ?_ ?_
                                          · exact Sm.s (Rp.i rfl gv121b)
                                          · refine Sm.b (y_L_step ga0 gv121b) ?_
                                            rintro ⟨v124a, v124b⟩ ⟨_, v124b'⟩ ⟨rfl, gv124b⟩
                                            refine Sm.i ?_ ?_
                                            · refine Sm.b (y_L_last ga0 gv124b) ?_
                                              rintro ⟨v125a, v125b⟩ ⟨_, v125b'⟩ ⟨rfl, gv125b⟩
                                              refine Sm.i ?_ ?_
                                              · exact Sm.s (Rp.i rfl gv125b)
                                              · exact Sm.s (Rp.i rfl gv125b)
                                            · exact Sm.s (Rp.i rfl gv124b)
                                        · exact Sm.s (Rp.i rfl gv121b)
                                      · exact Sm.s (Rp.i rfl gv120b)
                                    · exact Sm.s (Rp.i rfl gv119b)
                                  · exact Sm.s (Rp.i rfl gv118b)
                                · exact Sm.s (Rp.i rfl gv117b)
                              · exact Sm.s (Rp.i rfl gv116b)
                            · exact Sm.s (Rp.i rfl gv114b)
                          · exact Sm.s (Rp.i rfl gv112b)
                        · exact Sm.s (Rp.i rfl gv111b)
                      · exact Sm.s (Rp.i rfl gv109b)
                    · exact Sm.s (Rp.i rfl gv107b)
                  · rintro ⟨p126a, p126b⟩ ⟨_, p126b'⟩ ⟨rfl, gp126b⟩
                    exact Sm.s (Rp.i rfl gp126b)
            · rintro ⟨p128a, p128b⟩ ⟨_, p128b'⟩ ⟨rfl, gp128b⟩
              refine Sm.b (Sm.r) ?_
              rintro z129 _ rfl
              exact Sm.s (Rp.i rfl gp128b)
end SY
