def uL_law_h18 (k18 : Nat → (Nat → Int32) → Int32 → Int32 → Int32 → (Nat → Nat → Int32) → Int32 → Int32 → Int32 → Int32 → Int32 → (Nat → Int32) → (Nat → Int32) → Int32 → (Nat → Int32) → (Nat → Int32) → (Nat → Int32) → (Nat → Int32) → (Nat → Int32) → Int32 → Int32 → (Nat → Int32) → (Nat → Int32) → (Nat → Int32) → (Nat → Int32) → Int32 → (Nat → Int32) → Int32 → (Nat → Int32) → (Nat → Int32) → Int32 → (Nat → Int32) → (Nat → Int32) → Int32 → (Nat → Int32) → (Nat → Int32) → Int32 → Int32 → Int32 → Int32 → Int32 → Int32 → Int32 → Int32 → Int32 → Int32 → Int32 → Int32 → Int32 → Int64 → (Nat → Int32) → (Nat → Int32) → (Nat → Int32) → (Nat → Int32) → (Nat → Int32) → (Nat → Int32) → (Nat → Int32) → (Nat → Int32) → (Nat → Int32) → (Nat → Int64) → (Nat → Int32) → (Nat → Int32) → (Nat → Int32) → (Nat → Int32) → (Nat → Int32) → (Nat → Int32) → (Nat → Int32) → (Nat → Int32) → (Nat → Int32) → Option (Int32)) (L : Nat) (xs : (Nat → Int32)) (x3 : Int32) (B_manyInputs : Int32) (B_hintsDone : Int32) (B_inp : (Nat → Nat → Int32)) (K_keptPlaces : Int32) (K_changes : Int32) (K_hintChange : Int32) (K_hintLine : Int32) (K_hintPlace : Int32) (K_ranks : (Nat → Int32)) (K_clashes : (Nat → Int32)) (L_many : Int32) (L_kinds : (Nat → Int32)) (L_vs : (Nat → Int32)) (L_ws : (Nat → Int32)) (L_roles : (Nat → Int32)) (L_mates : (Nat → Int32)) (M_length : Int32) (M_waysCounted : Int32) (M_numbers : (Nat → Int32)) (M_ranks : (Nat → Int32)) (M_ahead : (Nat → Int32)) (M_ways : (Nat → Int32)) (A_length : Int32) (A_row : (Nat → Int32)) (C1_manyPrints : Int32) (C1_variables : (Nat → Int32)) (C1_prints : (Nat → Int32)) (C2_manyPrints : Int32) (C2_variables : (Nat → Int32)) (C2_prints : (Nat → Int32)) (C3_manyPrints : Int32) (C3_variables : (Nat → Int32)) (C3_prints : (Nat → Int32)) (F_lines : Int32) (F_model : Int32) (F_inputs : Int32) (F_size : Int32) (F_hints : Int32) (F_hasRun : Int32) (F_printedMany : Int32) (F_keptBits : Int32) (F_keptMany : Int32) (F_takenMany : Int32) (F_change : Int32) (F_who : Int32) (F_where : Int32) (F_h : Int64) (F_kinds : (Nat → Int32)) (F_vs : (Nat → Int32)) (F_ws : (Nat → Int32)) (F_roles : (Nat → Int32)) (F_partner : (Nat → Int32)) (F_lineOf : (Nat → Int32)) (F_rank : (Nat → Int32)) (F_behind : (Nat → Int32)) (F_before : (Nat → Int32)) (F_ways : (Nat → Int64)) (F_inputOf : (Nat → Int32)) (F_answer : (Nat → Int32)) (F_values : (Nat → Int32)) (F_printedRow : (Nat → Int32)) (F_wasValues : (Nat → Int32)) (F_wasPrinted : (Nat → Int32)) (F_due : (Nat → Int32)) (F_takenPlace : (Nat → Int32)) (F_against : (Nat → Int32)) : Option Int32 :=
  if ((Int32.ofNat L) - (7 : Int32)) < x3 then
    some (1 : Int32)
  else
    ck (inB x3 L) (
      if ((xs (x3).toNatClampNeg) &&& (31 : Int32)) = (0 : Int32) then
        ck (inB (x3 + (1 : Int32)) L) (
          ck (inB (x3 + (2 : Int32)) L) (
            ck (inB (x3 + (3 : Int32)) L) (
              ((fX5_line (xs ((x3 + (1 : Int32))).toNatClampNeg) (xs ((x3 + (2 : Int32))).toNatClampNeg) (xs ((x3 + (3 : Int32))).toNatClampNeg) L_many L_kinds L_vs L_ws L_roles L_mates M_length M_waysCounted M_numbers M_ranks M_ahead A_length)).bind fun o168 =>
              ck (inB (x3 + (1 : Int32)) L) (
                ck (inB (x3 + (2 : Int32)) L) (
                  ck (inB (x3 + (3 : Int32)) L) (
                    ((fX6_line (xs ((x3 + (1 : Int32))).toNatClampNeg) (xs ((x3 + (2 : Int32))).toNatClampNeg) (xs ((x3 + (3 : Int32))).toNatClampNeg) F_lines F_model F_size F_kinds F_vs F_ws F_roles F_partner F_lineOf F_rank F_behind F_before F_ways)).bind fun o187 =>
                    if o168.1 = o187.1 then
                      k18 L xs (x3 + (7 : Int32)) B_manyInputs B_hintsDone B_inp K_keptPlaces K_changes K_hintChange K_hintLine K_hintPlace K_ranks K_clashes o168.2.1 o168.2.2.1 o168.2.2.2.1 o168.2.2.2.2.1 o168.2.2.2.2.2.1 o168.2.2.2.2.2.2.1 o168.2.2.2.2.2.2.2.1 o168.2.2.2.2.2.2.2.2.1 o168.2.2.2.2.2.2.2.2.2.1 o168.2.2.2.2.2.2.2.2.2.2.1 o168.2.2.2.2.2.2.2.2.2.2.2 M_ways A_length A_row C1_manyPrints C1_variables C1_prints C2_manyPrints C2_variables C2_prints C3_manyPrints C3_variables C3_prints o187.2.1 o187.2.2.1 F_inputs F_size F_hints F_hasRun F_printedMany F_keptBits F_keptMany F_takenMany F_change F_who F_where F_h o187.2.2.2.1 o187.2.2.2.2.1 o187.2.2.2.2.2.1 o187.2.2.2.2.2.2.1 o187.2.2.2.2.2.2.2.1 o187.2.2.2.2.2.2.2.2.1 o187.2.2.2.2.2.2.2.2.2.1 o187.2.2.2.2.2.2.2.2.2.2.1 o187.2.2.2.2.2.2.2.2.2.2.2.1 o187.2.2.2.2.2.2.2.2.2.2.2.2 F_inputOf F_answer F_values F_printedRow F_wasValues F_wasPrinted F_due F_takenPlace F_against
                    else
                      some (0 : Int32)))))))
      else
        if ((xs (x3).toNatClampNeg) &&& (31 : Int32)) = (1 : Int32) then
          ck (inB (x3 + (1 : Int32)) L) (
            ck (inB (x3 + (2 : Int32)) L) (
              ck (inB (x3 + (3 : Int32)) L) (
                ((fX5_decoy (xs ((x3 + (1 : Int32))).toNatClampNeg) (xs ((x3 + (2 : Int32))).toNatClampNeg) (xs ((x3 + (3 : Int32))).toNatClampNeg) L_many L_kinds L_vs L_ws L_roles L_mates A_length)).bind fun o211 =>
                ck (inB (x3 + (1 : Int32)) L) (
                  ck (inB (x3 + (2 : Int32)) L) (
                    ck (inB (x3 + (3 : Int32)) L) (
                      ((fX6_decoy (xs ((x3 + (1 : Int32))).toNatClampNeg) (xs ((x3 + (2 : Int32))).toNatClampNeg) (xs ((x3 + (3 : Int32))).toNatClampNeg) F_lines F_size F_kinds F_vs F_ws F_roles F_partner)).bind fun o230 =>
                      if o211.1 = o230.1 then
                        k18 L xs (x3 + (7 : Int32)) B_manyInputs B_hintsDone B_inp K_keptPlaces K_changes K_hintChange K_hintLine K_hintPlace K_ranks K_clashes o211.2.1 o211.2.2.1 o211.2.2.2.1 o211.2.2.2.2.1 o211.2.2.2.2.2.1 o211.2.2.2.2.2.2 M_length M_waysCounted M_numbers M_ranks M_ahead M_ways A_length A_row C1_manyPrints C1_variables C1_prints C2_manyPrints C2_variables C2_prints C3_manyPrints C3_variables C3_prints o230.2.1 F_model F_inputs F_size F_hints F_hasRun F_printedMany F_keptBits F_keptMany F_takenMany F_change F_who F_where F_h o230.2.2.1 o230.2.2.2.1 o230.2.2.2.2.1 o230.2.2.2.2.2.1 o230.2.2.2.2.2.2 F_lineOf F_rank F_behind F_before F_ways F_inputOf F_answer F_values F_printedRow F_wasValues F_wasPrinted F_due F_takenPlace F_against
                      else
                        some (0 : Int32)))))))
        else
          if ((xs (x3).toNatClampNeg) &&& (31 : Int32)) = (2 : Int32) then
            ck (inB (x3 + (1 : Int32)) L) (
              ck (inB (x3 + (2 : Int32)) L) (
                ck (inB (x3 + (3 : Int32)) L) (
                  ck (inB (x3 + (4 : Int32)) L) (
                    ((fX5_wrong (xs ((x3 + (1 : Int32))).toNatClampNeg) (xs ((x3 + (2 : Int32))).toNatClampNeg) (xs ((x3 + (3 : Int32))).toNatClampNeg) (xs ((x3 + (4 : Int32))).toNatClampNeg) L_many L_kinds L_vs L_ws L_roles L_mates A_length)).bind fun o259 =>
                    ck (inB (x3 + (1 : Int32)) L) (
                      ck (inB (x3 + (2 : Int32)) L) (
                        ck (inB (x3 + (3 : Int32)) L) (
                          ck (inB (x3 + (4 : Int32)) L) (
                            ((fX6_wrong (xs ((x3 + (1 : Int32))).toNatClampNeg) (xs ((x3 + (2 : Int32))).toNatClampNeg) (xs ((x3 + (3 : Int32))).toNatClampNeg) (xs ((x3 + (4 : Int32))).toNatClampNeg) F_lines F_size F_kinds F_vs F_ws F_roles F_partner)).bind fun o283 =>
                            if o259.1 = o283.1 then
                              k18 L xs (x3 + (7 : Int32)) B_manyInputs B_hintsDone B_inp K_keptPlaces K_changes K_hintChange K_hintLine K_hintPlace K_ranks K_clashes o259.2.1 o259.2.2.1 o259.2.2.2.1 o259.2.2.2.2.1 o259.2.2.2.2.2.1 o259.2.2.2.2.2.2 M_length M_waysCounted M_numbers M_ranks M_ahead M_ways A_length A_row C1_manyPrints C1_variables C1_prints C2_manyPrints C2_variables C2_prints C3_manyPrints C3_variables C3_prints o283.2.1 F_model F_inputs F_size F_hints F_hasRun F_printedMany F_keptBits F_keptMany F_takenMany F_change F_who F_where F_h o283.2.2.1 o283.2.2.2.1 o283.2.2.2.2.1 o283.2.2.2.2.2.1 o283.2.2.2.2.2.2 F_lineOf F_rank F_behind F_before F_ways F_inputOf F_answer F_values F_printedRow F_wasValues F_wasPrinted F_due F_takenPlace F_against
                            else
                              some (0 : Int32)))))))))
          else
            if ((xs (x3).toNatClampNeg) &&& (31 : Int32)) = (3 : Int32) then
              ck (inB (x3 + (1 : Int32)) L) (
                ck (inB (x3 + (2 : Int32)) L) (
                  ck (inB (x3 + (3 : Int32)) L) (
                    ck (inB (x3 + (4 : Int32)) L) (
                      ck (inB (x3 + (5 : Int32)) L) (
                        ck (inB (x3 + (6 : Int32)) L) (
                          ((fX5_input (xs ((x3 + (1 : Int32))).toNatClampNeg) (xs ((x3 + (2 : Int32))).toNatClampNeg) (xs ((x3 + (3 : Int32))).toNatClampNeg) (xs ((x3 + (4 : Int32))).toNatClampNeg) (xs ((x3 + (5 : Int32))).toNatClampNeg) (xs ((x3 + (6 : Int32))).toNatClampNeg) B_manyInputs B_inp A_length)).bind fun o323 =>
                          ck (inB (x3 + (1 : Int32)) L) (
                            ck (inB (x3 + (2 : Int32)) L) (
                              ck (inB (x3 + (3 : Int32)) L) (
                                ck (inB (x3 + (4 : Int32)) L) (
                                  ck (inB (x3 + (5 : Int32)) L) (
                                    ck (inB (x3 + (6 : Int32)) L) (
                                      ((fX6_input (xs ((x3 + (1 : Int32))).toNatClampNeg) (xs ((x3 + (2 : Int32))).toNatClampNeg) (xs ((x3 + (3 : Int32))).toNatClampNeg) (xs ((x3 + (4 : Int32))).toNatClampNeg) (xs ((x3 + (5 : Int32))).toNatClampNeg) (xs ((x3 + (6 : Int32))).toNatClampNeg) F_inputs F_size F_inputOf)).bind fun o358 =>
                                      if o323.1 = o358.1 then
                                        k18 L xs (x3 + (7 : Int32)) o323.2.1 B_hintsDone o323.2.2 K_keptPlaces K_changes K_hintChange K_hintLine K_hintPlace K_ranks K_clashes L_many L_kinds L_vs L_ws L_roles L_mates M_length M_waysCounted M_numbers M_ranks M_ahead M_ways A_length A_row C1_manyPrints C1_variables C1_prints C2_manyPrints C2_variables C2_prints C3_manyPrints C3_variables C3_prints F_lines F_model o358.2.1 F_size F_hints F_hasRun F_printedMany F_keptBits F_keptMany F_takenMany F_change F_who F_where F_h F_kinds F_vs F_ws F_roles F_partner F_lineOf F_rank F_behind F_before F_ways o358.2.2 F_answer F_values F_printedRow F_wasValues F_wasPrinted F_due F_takenPlace F_against
                                      else
                                        some (0 : Int32)))))))))))))
            else
              if ((xs (x3).toNatClampNeg) &&& (31 : Int32)) = (4 : Int32) then
                ((fX5_wipe B_manyInputs L_many M_length M_waysCounted M_ranks A_length C1_manyPrints C1_variables)).bind fun o367 =>
                ((fX6_wipe F_lines F_model F_inputs F_size F_hasRun F_printedMany F_kinds F_vs F_ws F_lineOf F_behind F_before F_ways)).bind fun o371 =>
                if o367.1 = o371.1 then
                  k18 L xs (x3 + (7 : Int32)) o367.2.1 B_hintsDone B_inp K_keptPlaces K_changes K_hintChange K_hintLine K_hintPlace K_ranks K_clashes o367.2.2.1 L_kinds L_vs L_ws L_roles L_mates o367.2.2.2.1 o367.2.2.2.2.1 M_numbers o367.2.2.2.2.2.1 M_ahead M_ways o367.2.2.2.2.2.2.1 A_row o367.2.2.2.2.2.2.2.1 o367.2.2.2.2.2.2.2.2 C1_prints C2_manyPrints C2_variables C2_prints C3_manyPrints C3_variables C3_prints o371.2.1 o371.2.2.1 o371.2.2.2.1 o371.2.2.2.2.1 F_hints o371.2.2.2.2.2.1 o371.2.2.2.2.2.2.1 F_keptBits F_keptMany F_takenMany F_change F_who F_where F_h F_kinds F_vs F_ws F_roles F_partner F_lineOf F_rank o371.2.2.2.2.2.2.2.1 o371.2.2.2.2.2.2.2.2.1 o371.2.2.2.2.2.2.2.2.2 F_inputOf F_answer F_values F_printedRow F_wasValues F_wasPrinted F_due F_takenPlace F_against
                else
                  some (0 : Int32)
              else
                if ((xs (x3).toNatClampNeg) &&& (31 : Int32)) = (5 : Int32) then
                  ck (inB (x3 + (1 : Int32)) L) (
                    ck (inB (x3 + (2 : Int32)) L) (
                      ((fX5_told (xs ((x3 + (1 : Int32))).toNatClampNeg) (xs ((x3 + (2 : Int32))).toNatClampNeg) L_many L_kinds L_vs L_ws L_roles L_mates)).bind fun o390 =>
                      ck (inB (x3 + (1 : Int32)) L) (
                        ck (inB (x3 + (2 : Int32)) L) (
                          ((fX6_told (xs ((x3 + (1 : Int32))).toNatClampNeg) (xs ((x3 + (2 : Int32))).toNatClampNeg) F_lines F_kinds F_vs F_ws F_roles F_partner)).bind fun o404 =>
                          if o390 = o404 then
                            k18 L xs (x3 + (7 : Int32)) B_manyInputs B_hintsDone B_inp K_keptPlaces K_changes K_hintChange K_hintLine K_hintPlace K_ranks K_clashes L_many L_kinds L_vs L_ws L_roles L_mates M_length M_waysCounted M_numbers M_ranks M_ahead M_ways A_length A_row C1_manyPrints C1_variables C1_prints C2_manyPrints C2_variables C2_prints C3_manyPrints C3_variables C3_prints F_lines F_model F_inputs F_size F_hints F_hasRun F_printedMany F_keptBits F_keptMany F_takenMany F_change F_who F_where F_h F_kinds F_vs F_ws F_roles F_partner F_lineOf F_rank F_behind F_before F_ways F_inputOf F_answer F_values F_printedRow F_wasValues F_wasPrinted F_due F_takenPlace F_against
                          else
                            some (0 : Int32)))))
                else
                  if ((xs (x3).toNatClampNeg) &&& (31 : Int32)) = (6 : Int32) then
                    ck (inB (x3 + (1 : Int32)) L) (
                      ck (inB (x3 + (2 : Int32)) L) (
                        ((fX5_needs (xs ((x3 + (1 : Int32))).toNatClampNeg) (xs ((x3 + (2 : Int32))).toNatClampNeg) L_many M_length M_ranks M_ahead)).bind fun o423 =>
                        ck (inB (x3 + (1 : Int32)) L) (
                          ck (inB (x3 + (2 : Int32)) L) (
                            ((fX6_needs (xs ((x3 + (1 : Int32))).toNatClampNeg) (xs ((x3 + (2 : Int32))).toNatClampNeg) F_lines F_roles F_rank F_behind)).bind fun o437 =>
                            if o423 = o437 then
                              k18 L xs (x3 + (7 : Int32)) B_manyInputs B_hintsDone B_inp K_keptPlaces K_changes K_hintChange K_hintLine K_hintPlace K_ranks K_clashes L_many L_kinds L_vs L_ws L_roles L_mates M_length M_waysCounted M_numbers M_ranks M_ahead M_ways A_length A_row C1_manyPrints C1_variables C1_prints C2_manyPrints C2_variables C2_prints C3_manyPrints C3_variables C3_prints F_lines F_model F_inputs F_size F_hints F_hasRun F_printedMany F_keptBits F_keptMany F_takenMany F_change F_who F_where F_h F_kinds F_vs F_ws F_roles F_partner F_lineOf F_rank F_behind F_before F_ways F_inputOf F_answer F_values F_printedRow F_wasValues F_wasPrinted F_due F_takenPlace F_against
                            else
                              some (0 : Int32)))))
                  else
                    if ((xs (x3).toNatClampNeg) &&& (31 : Int32)) = (7 : Int32) then
                      ((fX5_orders M_length M_waysCounted M_ahead M_ways)).bind fun o446 =>
                      ((fX6_orders F_ways)).bind fun o450 =>
                      if (lg_cmp o446.1 o450) = 0 then
                        k18 L xs (x3 + (7 : Int32)) B_manyInputs B_hintsDone B_inp K_keptPlaces K_changes K_hintChange K_hintLine K_hintPlace K_ranks K_clashes L_many L_kinds L_vs L_ws L_roles L_mates M_length o446.2.1 M_numbers M_ranks M_ahead o446.2.2 A_length A_row C1_manyPrints C1_variables C1_prints C2_manyPrints C2_variables C2_prints C3_manyPrints C3_variables C3_prints F_lines F_model F_inputs F_size F_hints F_hasRun F_printedMany F_keptBits F_keptMany F_takenMany F_change F_who F_where F_h F_kinds F_vs F_ws F_roles F_partner F_lineOf F_rank F_behind F_before F_ways F_inputOf F_answer F_values F_printedRow F_wasValues F_wasPrinted F_due F_takenPlace F_against
                      else
                        some (0 : Int32)
                    else
                      if ((xs (x3).toNatClampNeg) &&& (31 : Int32)) = (8 : Int32) then
                        ck (inB (x3 + (1 : Int32)) L) (
                          ck (inB (x3 + (2 : Int32)) L) (
                            ck (inB (x3 + (3 : Int32)) L) (
                              ((fX5_right ((((xs ((x3 + (1 : Int32))).toNatClampNeg)).toInt64 <<< (((32 : Int32)).toInt64 &&& 63)) ||| (((xs ((x3 + (2 : Int32))).toNatClampNeg)).toInt64 &&& (4294967295 : Int64))) (xs ((x3 + (3 : Int32))).toNatClampNeg) M_length M_waysCounted M_numbers M_ahead M_ways)).bind fun o485 =>
                              ck (inB (x3 + (1 : Int32)) L) (
                                ck (inB (x3 + (2 : Int32)) L) (
                                  ck (inB (x3 + (3 : Int32)) L) (
                                    ((fX6_right ((((xs ((x3 + (1 : Int32))).toNatClampNeg)).toInt64 <<< (((32 : Int32)).toInt64 &&& 63)) ||| (((xs ((x3 + (2 : Int32))).toNatClampNeg)).toInt64 &&& (4294967295 : Int64))) (xs ((x3 + (3 : Int32))).toNatClampNeg) F_model F_lineOf F_before F_ways)).bind fun o514 =>
                                    if o485.1 = o514 then
                                      k18 L xs (x3 + (7 : Int32)) B_manyInputs B_hintsDone B_inp K_keptPlaces K_changes K_hintChange K_hintLine K_hintPlace K_ranks K_clashes L_many L_kinds L_vs L_ws L_roles L_mates M_length o485.2.1 M_numbers M_ranks M_ahead o485.2.2 A_length A_row C1_manyPrints C1_variables C1_prints C2_manyPrints C2_variables C2_prints C3_manyPrints C3_variables C3_prints F_lines F_model F_inputs F_size F_hints F_hasRun F_printedMany F_keptBits F_keptMany F_takenMany F_change F_who F_where F_h F_kinds F_vs F_ws F_roles F_partner F_lineOf F_rank F_behind F_before F_ways F_inputOf F_answer F_values F_printedRow F_wasValues F_wasPrinted F_due F_takenPlace F_against
                                    else
                                      some (0 : Int32)))))))
                      else
                        if ((xs (x3).toNatClampNeg) &&& (31 : Int32)) = (9 : Int32) then
                          ((fX5_which M_length M_waysCounted M_ranks M_ahead M_ways A_length A_row)).bind fun o523 =>
                          ((fX6_which F_model F_size F_roles F_rank F_before F_ways F_answer)).bind fun o527 =>
                          if (lg_cmp o523.1 o527) = 0 then
                            k18 L xs (x3 + (7 : Int32)) B_manyInputs B_hintsDone B_inp K_keptPlaces K_changes K_hintChange K_hintLine K_hintPlace K_ranks K_clashes L_many L_kinds L_vs L_ws L_roles L_mates M_length o523.2.1 M_numbers M_ranks M_ahead o523.2.2 A_length A_row C1_manyPrints C1_variables C1_prints C2_manyPrints C2_variables C2_prints C3_manyPrints C3_variables C3_prints F_lines F_model F_inputs F_size F_hints F_hasRun F_printedMany F_keptBits F_keptMany F_takenMany F_change F_who F_where F_h F_kinds F_vs F_ws F_roles F_partner F_lineOf F_rank F_behind F_before F_ways F_inputOf F_answer F_values F_printedRow F_wasValues F_wasPrinted F_due F_takenPlace F_against
                          else
                            some (0 : Int32)
                        else
                          if ((xs (x3).toNatClampNeg) &&& (31 : Int32)) = (10 : Int32) then
                            ck (inB (x3 + (1 : Int32)) L) (
                              ck (inB (x3 + (2 : Int32)) L) (
                                ((fX5_lay (xs ((x3 + (1 : Int32))).toNatClampNeg) (xs ((x3 + (2 : Int32))).toNatClampNeg) L_many A_length A_row)).bind fun o547 =>
                                ck (inB (x3 + (1 : Int32)) L) (
                                  ck (inB (x3 + (2 : Int32)) L) (
                                    ((fX6_lay (xs ((x3 + (1 : Int32))).toNatClampNeg) (xs ((x3 + (2 : Int32))).toNatClampNeg) F_lines F_size F_answer)).bind fun o561 =>
                                    if o547.1 = o561.1 then
                                      k18 L xs (x3 + (7 : Int32)) B_manyInputs B_hintsDone B_inp K_keptPlaces K_changes K_hintChange K_hintLine K_hintPlace K_ranks K_clashes L_many L_kinds L_vs L_ws L_roles L_mates M_length M_waysCounted M_numbers M_ranks M_ahead M_ways o547.2.1 o547.2.2 C1_manyPrints C1_variables C1_prints C2_manyPrints C2_variables C2_prints C3_manyPrints C3_variables C3_prints F_lines F_model F_inputs o561.2.1 F_hints F_hasRun F_printedMany F_keptBits F_keptMany F_takenMany F_change F_who F_where F_h F_kinds F_vs F_ws F_roles F_partner F_lineOf F_rank F_behind F_before F_ways F_inputOf o561.2.2 F_values F_printedRow F_wasValues F_wasPrinted F_due F_takenPlace F_against
                                    else
                                      some (0 : Int32)))))
                          else
                            if ((xs (x3).toNatClampNeg) &&& (31 : Int32)) = (11 : Int32) then
                              ck (inB (x3 + (1 : Int32)) L) (
                                ((fX5_take (xs ((x3 + (1 : Int32))).toNatClampNeg) A_length A_row)).bind fun o575 =>
                                ck (inB (x3 + (1 : Int32)) L) (
                                  ((fX6_take (xs ((x3 + (1 : Int32))).toNatClampNeg) F_size F_answer)).bind fun o584 =>
                                  if o575.1 = o584.1 then
                                    k18 L xs (x3 + (7 : Int32)) B_manyInputs B_hintsDone B_inp K_keptPlaces K_changes K_hintChange K_hintLine K_hintPlace K_ranks K_clashes L_many L_kinds L_vs L_ws L_roles L_mates M_length M_waysCounted M_numbers M_ranks M_ahead M_ways o575.2.1 o575.2.2 C1_manyPrints C1_variables C1_prints C2_manyPrints C2_variables C2_prints C3_manyPrints C3_variables C3_prints F_lines F_model F_inputs o584.2.1 F_hints F_hasRun F_printedMany F_keptBits F_keptMany F_takenMany F_change F_who F_where F_h F_kinds F_vs F_ws F_roles F_partner F_lineOf F_rank F_behind F_before F_ways F_inputOf o584.2.2 F_values F_printedRow F_wasValues F_wasPrinted F_due F_takenPlace F_against
                                  else
                                    some (0 : Int32)))
                            else
                              if ((xs (x3).toNatClampNeg) &&& (31 : Int32)) = (12 : Int32) then
                                ck (inB (x3 + (1 : Int32)) L) (
                                  ck (inB (x3 + (2 : Int32)) L) (
                                    ((fX5_move (xs ((x3 + (1 : Int32))).toNatClampNeg) (xs ((x3 + (2 : Int32))).toNatClampNeg) A_length A_row)).bind fun o603 =>
                                    ck (inB (x3 + (1 : Int32)) L) (
                                      ck (inB (x3 + (2 : Int32)) L) (
                                        ((fX6_move (xs ((x3 + (1 : Int32))).toNatClampNeg) (xs ((x3 + (2 : Int32))).toNatClampNeg) F_size F_answer)).bind fun o617 =>
                                        if o603.1 = o617.1 then
                                          k18 L xs (x3 + (7 : Int32)) B_manyInputs B_hintsDone B_inp K_keptPlaces K_changes K_hintChange K_hintLine K_hintPlace K_ranks K_clashes L_many L_kinds L_vs L_ws L_roles L_mates M_length M_waysCounted M_numbers M_ranks M_ahead M_ways o603.2.1 o603.2.2 C1_manyPrints C1_variables C1_prints C2_manyPrints C2_variables C2_prints C3_manyPrints C3_variables C3_prints F_lines F_model F_inputs o617.2.1 F_hints F_hasRun F_printedMany F_keptBits F_keptMany F_takenMany F_change F_who F_where F_h F_kinds F_vs F_ws F_roles F_partner F_lineOf F_rank F_behind F_before F_ways F_inputOf o617.2.2 F_values F_printedRow F_wasValues F_wasPrinted F_due F_takenPlace F_against
                                        else
                                          some (0 : Int32)))))
                              else
                                if ((xs (x3).toNatClampNeg) &&& (31 : Int32)) = (13 : Int32) then
                                  ((fX5_clear A_length)).bind fun o626 =>
                                  ((fX6_clear F_size)).bind fun o630 =>
                                  if o626.1 = o630.1 then
                                    k18 L xs (x3 + (7 : Int32)) B_manyInputs B_hintsDone B_inp K_keptPlaces K_changes K_hintChange K_hintLine K_hintPlace K_ranks K_clashes L_many L_kinds L_vs L_ws L_roles L_mates M_length M_waysCounted M_numbers M_ranks M_ahead M_ways o626.2 A_row C1_manyPrints C1_variables C1_prints C2_manyPrints C2_variables C2_prints C3_manyPrints C3_variables C3_prints F_lines F_model F_inputs o630.2 F_hints F_hasRun F_printedMany F_keptBits F_keptMany F_takenMany F_change F_who F_where F_h F_kinds F_vs F_ws F_roles F_partner F_lineOf F_rank F_behind F_before F_ways F_inputOf F_answer F_values F_printedRow F_wasValues F_wasPrinted F_due F_takenPlace F_against
                                  else
                                    some (0 : Int32)
                                else
                                  if ((xs (x3).toNatClampNeg) &&& (31 : Int32)) = (14 : Int32) then
                                    ck (inB (x3 + (1 : Int32)) L) (
                                      ((fX5_at (xs ((x3 + (1 : Int32))).toNatClampNeg) A_length A_row)).bind fun o644 =>
                                      ck (inB (x3 + (1 : Int32)) L) (
                                        ((fX6_at (xs ((x3 + (1 : Int32))).toNatClampNeg) F_size F_answer)).bind fun o653 =>
                                        if o644 = o653 then
                                          k18 L xs (x3 + (7 : Int32)) B_manyInputs B_hintsDone B_inp K_keptPlaces K_changes K_hintChange K_hintLine K_hintPlace K_ranks K_clashes L_many L_kinds L_vs L_ws L_roles L_mates M_length M_waysCounted M_numbers M_ranks M_ahead M_ways A_length A_row C1_manyPrints C1_variables C1_prints C2_manyPrints C2_variables C2_prints C3_manyPrints C3_variables C3_prints F_lines F_model F_inputs F_size F_hints F_hasRun F_printedMany F_keptBits F_keptMany F_takenMany F_change F_who F_where F_h F_kinds F_vs F_ws F_roles F_partner F_lineOf F_rank F_behind F_before F_ways F_inputOf F_answer F_values F_printedRow F_wasValues F_wasPrinted F_due F_takenPlace F_against
                                        else
                                          some (0 : Int32)))
                                  else
                                    if ((xs (x3).toNatClampNeg) &&& (31 : Int32)) = (15 : Int32) then
                                      ((fX5_size A_length)).bind fun o662 =>
                                      ((fX6_size F_size)).bind fun o666 =>
                                      if o662 = o666 then
                                        k18 L xs (x3 + (7 : Int32)) B_manyInputs B_hintsDone B_inp K_keptPlaces K_changes K_hintChange K_hintLine K_hintPlace K_ranks K_clashes L_many L_kinds L_vs L_ws L_roles L_mates M_length M_waysCounted M_numbers M_ranks M_ahead M_ways A_length A_row C1_manyPrints C1_variables C1_prints C2_manyPrints C2_variables C2_prints C3_manyPrints C3_variables C3_prints F_lines F_model F_inputs F_size F_hints F_hasRun F_printedMany F_keptBits F_keptMany F_takenMany F_change F_who F_where F_h F_kinds F_vs F_ws F_roles F_partner F_lineOf F_rank F_behind F_before F_ways F_inputOf F_answer F_values F_printedRow F_wasValues F_wasPrinted F_due F_takenPlace F_against
                                      else
                                        some (0 : Int32)
                                    else
                                      if ((xs (x3).toNatClampNeg) &&& (31 : Int32)) = (16 : Int32) then
                                        ck (inB (x3 + (1 : Int32)) L) (
                                          ck (inB (x3 + (2 : Int32)) L) (
                                            if (xs ((x3 + (2 : Int32))).toNatClampNeg) = 0 then
                                              ((fX5_run (xs ((x3 + (1 : Int32))).toNatClampNeg) (0 : Int32) B_manyInputs B_inp L_many L_kinds L_vs L_ws L_roles L_mates M_length M_numbers A_length A_row C1_manyPrints C1_variables C1_prints)).bind fun o693 =>
                                              ck (inB (x3 + (1 : Int32)) L) (
                                                ck (inB (x3 + (2 : Int32)) L) (
                                                  if (xs ((x3 + (2 : Int32))).toNatClampNeg) = 0 then
                                                    ((fX6_run (xs ((x3 + (1 : Int32))).toNatClampNeg) (0 : Int32) F_model F_inputs F_size F_hasRun F_printedMany F_kinds F_vs F_ws F_lineOf F_inputOf F_answer F_values F_printedRow)).bind fun o715 =>
                                                    if o693.1 = o715.1 then
                                                      k18 L xs (x3 + (7 : Int32)) B_manyInputs B_hintsDone B_inp K_keptPlaces K_changes K_hintChange K_hintLine K_hintPlace K_ranks K_clashes L_many L_kinds L_vs L_ws L_roles L_mates M_length M_waysCounted M_numbers M_ranks M_ahead M_ways A_length A_row o693.2.1 o693.2.2.1 o693.2.2.2 C2_manyPrints C2_variables C2_prints C3_manyPrints C3_variables C3_prints F_lines F_model F_inputs F_size F_hints o715.2.1 o715.2.2.1 F_keptBits F_keptMany F_takenMany F_change F_who F_where F_h F_kinds F_vs F_ws F_roles F_partner F_lineOf F_rank F_behind F_before F_ways F_inputOf F_answer o715.2.2.2.1 o715.2.2.2.2 F_wasValues F_wasPrinted F_due F_takenPlace F_against
                                                    else
                                                      some (0 : Int32)
                                                  else
                                                    ((fX6_run (xs ((x3 + (1 : Int32))).toNatClampNeg) (1 : Int32) F_model F_inputs F_size F_hasRun F_printedMany F_kinds F_vs F_ws F_lineOf F_inputOf F_answer F_values F_printedRow)).bind fun o715 =>
                                                    if o693.1 = o715.1 then
                                                      k18 L xs (x3 + (7 : Int32)) B_manyInputs B_hintsDone B_inp K_keptPlaces K_changes K_hintChange K_hintLine K_hintPlace K_ranks K_clashes L_many L_kinds L_vs L_ws L_roles L_mates M_length M_waysCounted M_numbers M_ranks M_ahead M_ways A_length A_row o693.2.1 o693.2.2.1 o693.2.2.2 C2_manyPrints C2_variables C2_prints C3_manyPrints C3_variables C3_prints F_lines F_model F_inputs F_size F_hints o715.2.1 o715.2.2.1 F_keptBits F_keptMany F_takenMany F_change F_who F_where F_h F_kinds F_vs F_ws F_roles F_partner F_lineOf F_rank F_behind F_before F_ways F_inputOf F_answer o715.2.2.2.1 o715.2.2.2.2 F_wasValues F_wasPrinted F_due F_takenPlace F_against
                                                    else
                                                      some (0 : Int32)))
                                            else
                                              ((fX5_run (xs ((x3 + (1 : Int32))).toNatClampNeg) (1 : Int32) B_manyInputs B_inp L_many L_kinds L_vs L_ws L_roles L_mates M_length M_numbers A_length A_row C1_manyPrints C1_variables C1_prints)).bind fun o693 =>
                                              ck (inB (x3 + (1 : Int32)) L) (
                                                ck (inB (x3 + (2 : Int32)) L) (
                                                  if (xs ((x3 + (2 : Int32))).toNatClampNeg) = 0 then
                                                    ((fX6_run (xs ((x3 + (1 : Int32))).toNatClampNeg) (0 : Int32) F_model F_inputs F_size F_hasRun F_printedMany F_kinds F_vs F_ws F_lineOf F_inputOf F_answer F_values F_printedRow)).bind fun o715 =>
                                                    if o693.1 = o715.1 then
                                                      k18 L xs (x3 + (7 : Int32)) B_manyInputs B_hintsDone B_inp K_keptPlaces K_changes K_hintChange K_hintLine K_hintPlace K_ranks K_clashes L_many L_kinds L_vs L_ws L_roles L_mates M_length M_waysCounted M_numbers M_ranks M_ahead M_ways A_length A_row o693.2.1 o693.2.2.1 o693.2.2.2 C2_manyPrints C2_variables C2_prints C3_manyPrints C3_variables C3_prints F_lines F_model F_inputs F_size F_hints o715.2.1 o715.2.2.1 F_keptBits F_keptMany F_takenMany F_change F_who F_where F_h F_kinds F_vs F_ws F_roles F_partner F_lineOf F_rank F_behind F_before F_ways F_inputOf F_answer o715.2.2.2.1 o715.2.2.2.2 F_wasValues F_wasPrinted F_due F_takenPlace F_against
                                                    else
                                                      some (0 : Int32)
                                                  else
                                                    ((fX6_run (xs ((x3 + (1 : Int32))).toNatClampNeg) (1 : Int32) F_model F_inputs F_size F_hasRun F_printedMany F_kinds F_vs F_ws F_lineOf F_inputOf F_answer F_values F_printedRow)).bind fun o715 =>
                                                    if o693.1 = o715.1 then
                                                      k18 L xs (x3 + (7 : Int32)) B_manyInputs B_hintsDone B_inp K_keptPlaces K_changes K_hintChange K_hintLine K_hintPlace K_ranks K_clashes L_many L_kinds L_vs L_ws L_roles L_mates M_length M_waysCounted M_numbers M_ranks M_ahead M_ways A_length A_row o693.2.1 o693.2.2.1 o693.2.2.2 C2_manyPrints C2_variables C2_prints C3_manyPrints C3_variables C3_prints F_lines F_model F_inputs F_size F_hints o715.2.1 o715.2.2.1 F_keptBits F_keptMany F_takenMany F_change F_who F_where F_h F_kinds F_vs F_ws F_roles F_partner F_lineOf F_rank F_behind F_before F_ways F_inputOf F_answer o715.2.2.2.1 o715.2.2.2.2 F_wasValues F_wasPrinted F_due F_takenPlace F_against
                                                    else
                                                      some (0 : Int32)))))
                                      else
                                        if ((xs (x3).toNatClampNeg) &&& (31 : Int32)) = (17 : Int32) then
                                          ck (inB (x3 + (1 : Int32)) L) (
                                            ((fX5_printed (xs ((x3 + (1 : Int32))).toNatClampNeg) C1_manyPrints C1_prints)).bind fun o729 =>
                                            ck (inB (x3 + (1 : Int32)) L) (
                                              ((fX6_printed (xs ((x3 + (1 : Int32))).toNatClampNeg) F_printedMany F_printedRow)).bind fun o738 =>
                                              if o729 = o738 then
                                                k18 L xs (x3 + (7 : Int32)) B_manyInputs B_hintsDone B_inp K_keptPlaces K_changes K_hintChange K_hintLine K_hintPlace K_ranks K_clashes L_many L_kinds L_vs L_ws L_roles L_mates M_length M_waysCounted M_numbers M_ranks M_ahead M_ways A_length A_row C1_manyPrints C1_variables C1_prints C2_manyPrints C2_variables C2_prints C3_manyPrints C3_variables C3_prints F_lines F_model F_inputs F_size F_hints F_hasRun F_printedMany F_keptBits F_keptMany F_takenMany F_change F_who F_where F_h F_kinds F_vs F_ws F_roles F_partner F_lineOf F_rank F_behind F_before F_ways F_inputOf F_answer F_values F_printedRow F_wasValues F_wasPrinted F_due F_takenPlace F_against
                                              else
                                                some (0 : Int32)))
                                        else
                                          if ((xs (x3).toNatClampNeg) &&& (31 : Int32)) = (18 : Int32) then
                                            ck (inB (x3 + (1 : Int32)) L) (
                                              ((fX5_value (xs ((x3 + (1 : Int32))).toNatClampNeg) C1_variables)).bind fun o752 =>
                                              ck (inB (x3 + (1 : Int32)) L) (
                                                ((fX6_value (xs ((x3 + (1 : Int32))).toNatClampNeg) F_hasRun F_values)).bind fun o761 =>
                                                if o752 = o761 then
                                                  k18 L xs (x3 + (7 : Int32)) B_manyInputs B_hintsDone B_inp K_keptPlaces K_changes K_hintChange K_hintLine K_hintPlace K_ranks K_clashes L_many L_kinds L_vs L_ws L_roles L_mates M_length M_waysCounted M_numbers M_ranks M_ahead M_ways A_length A_row C1_manyPrints C1_variables C1_prints C2_manyPrints C2_variables C2_prints C3_manyPrints C3_variables C3_prints F_lines F_model F_inputs F_size F_hints F_hasRun F_printedMany F_keptBits F_keptMany F_takenMany F_change F_who F_where F_h F_kinds F_vs F_ws F_roles F_partner F_lineOf F_rank F_behind F_before F_ways F_inputOf F_answer F_values F_printedRow F_wasValues F_wasPrinted F_due F_takenPlace F_against
                                                else
                                                  some (0 : Int32)))
                                          else
                                            if ((xs (x3).toNatClampNeg) &&& (31 : Int32)) = (19 : Int32) then
                                              ((fX5_alike B_manyInputs B_inp L_many L_kinds L_vs L_ws L_roles L_mates M_length M_numbers A_length A_row C2_manyPrints C2_variables C2_prints C3_manyPrints C3_variables C3_prints)).bind fun o770 =>
                                              ((fX6_alike F_model F_inputs F_size F_printedMany F_kinds F_vs F_ws F_lineOf F_inputOf F_answer F_values F_printedRow F_wasValues F_wasPrinted F_due)).bind fun o774 =>
                                              if o770.1 = o774.1 then
                                                k18 L xs (x3 + (7 : Int32)) B_manyInputs B_hintsDone B_inp K_keptPlaces K_changes K_hintChange K_hintLine K_hintPlace K_ranks K_clashes L_many L_kinds L_vs L_ws L_roles L_mates M_length M_waysCounted M_numbers M_ranks M_ahead M_ways A_length A_row C1_manyPrints C1_variables C1_prints o770.2.1 o770.2.2.1 o770.2.2.2.1 o770.2.2.2.2.1 o770.2.2.2.2.2.1 o770.2.2.2.2.2.2 F_lines F_model F_inputs F_size F_hints F_hasRun o774.2.1 F_keptBits F_keptMany F_takenMany F_change F_who F_where F_h F_kinds F_vs F_ws F_roles F_partner F_lineOf F_rank F_behind F_before F_ways F_inputOf F_answer o774.2.2.1 o774.2.2.2.1 o774.2.2.2.2.1 o774.2.2.2.2.2.1 o774.2.2.2.2.2.2 F_takenPlace F_against
                                              else
                                                some (0 : Int32)
                                            else
                                              if ((xs (x3).toNatClampNeg) &&& (31 : Int32)) = (20 : Int32) then
                                                ((fX5_mark K_keptPlaces K_changes K_hintChange K_hintLine K_hintPlace K_ranks K_clashes L_many L_roles L_mates M_length M_numbers M_ranks M_ahead A_length A_row)).bind fun o783 =>
                                                ((fX6_mark F_model F_size F_keptBits F_keptMany F_takenMany F_roles F_partner F_rank F_behind F_answer F_takenPlace F_against)).bind fun o787 =>
                                                if o783.1 = o787.1 then
                                                  k18 L xs (x3 + (7 : Int32)) B_manyInputs B_hintsDone B_inp o783.2.1 o783.2.2.1 o783.2.2.2.1 o783.2.2.2.2.1 o783.2.2.2.2.2.1 o783.2.2.2.2.2.2.1 o783.2.2.2.2.2.2.2 L_many L_kinds L_vs L_ws L_roles L_mates M_length M_waysCounted M_numbers M_ranks M_ahead M_ways A_length A_row C1_manyPrints C1_variables C1_prints C2_manyPrints C2_variables C2_prints C3_manyPrints C3_variables C3_prints F_lines F_model F_inputs F_size F_hints F_hasRun F_printedMany o787.2.1 o787.2.2.1 o787.2.2.2.1 F_change F_who F_where F_h F_kinds F_vs F_ws F_roles F_partner F_lineOf F_rank F_behind F_before F_ways F_inputOf F_answer F_values F_printedRow F_wasValues F_wasPrinted F_due o787.2.2.2.2.1 o787.2.2.2.2.2
                                                else
                                                  some (0 : Int32)
                                              else
                                                if ((xs (x3).toNatClampNeg) &&& (31 : Int32)) = (21 : Int32) then
                                                  ck (inB (x3 + (1 : Int32)) L) (
                                                    ((fX5_kept (xs ((x3 + (1 : Int32))).toNatClampNeg) K_keptPlaces K_changes K_hintChange K_hintLine K_hintPlace K_ranks K_clashes L_many L_roles L_mates M_length M_numbers M_ranks M_ahead A_length A_row)).bind fun o801 =>
                                                    ck (inB (x3 + (1 : Int32)) L) (
                                                      ((fX6_kept (xs ((x3 + (1 : Int32))).toNatClampNeg) F_size F_keptBits F_keptMany F_takenMany F_roles F_partner F_rank F_behind F_answer F_takenPlace F_against)).bind fun o810 =>
                                                      if o801.1 = o810.1 then
                                                        k18 L xs (x3 + (7 : Int32)) B_manyInputs B_hintsDone B_inp o801.2.1 o801.2.2.1 o801.2.2.2.1 o801.2.2.2.2.1 o801.2.2.2.2.2.1 o801.2.2.2.2.2.2.1 o801.2.2.2.2.2.2.2 L_many L_kinds L_vs L_ws L_roles L_mates M_length M_waysCounted M_numbers M_ranks M_ahead M_ways A_length A_row C1_manyPrints C1_variables C1_prints C2_manyPrints C2_variables C2_prints C3_manyPrints C3_variables C3_prints F_lines F_model F_inputs F_size F_hints F_hasRun F_printedMany o810.2.1 o810.2.2.1 o810.2.2.2.1 F_change F_who F_where F_h F_kinds F_vs F_ws F_roles F_partner F_lineOf F_rank F_behind F_before F_ways F_inputOf F_answer F_values F_printedRow F_wasValues F_wasPrinted F_due o810.2.2.2.2.1 o810.2.2.2.2.2
                                                      else
                                                        some (0 : Int32)))
                                                else
                                                  if ((xs (x3).toNatClampNeg) &&& (31 : Int32)) = (22 : Int32) then
                                                    ck (inB (x3 + (1 : Int32)) L) (
                                                      ((fX5_hint (xs ((x3 + (1 : Int32))).toNatClampNeg) K_keptPlaces K_changes K_hintChange K_hintLine K_hintPlace K_ranks K_clashes L_many L_roles L_mates M_length M_numbers M_ranks M_ahead A_length A_row)).bind fun o824 =>
                                                      ck (inB (x3 + (1 : Int32)) L) (
                                                        ((fX6_hint (xs ((x3 + (1 : Int32))).toNatClampNeg) F_model F_size F_keptBits F_keptMany F_takenMany F_change F_who F_where F_roles F_partner F_lineOf F_rank F_behind F_answer F_takenPlace F_against)).bind fun o833 =>
                                                        if o824.1 = o833.1 then
                                                          k18 L xs (x3 + (7 : Int32)) B_manyInputs B_hintsDone B_inp o824.2.1 o824.2.2.1 o824.2.2.2.1 o824.2.2.2.2.1 o824.2.2.2.2.2.1 o824.2.2.2.2.2.2.1 o824.2.2.2.2.2.2.2 L_many L_kinds L_vs L_ws L_roles L_mates M_length M_waysCounted M_numbers M_ranks M_ahead M_ways A_length A_row C1_manyPrints C1_variables C1_prints C2_manyPrints C2_variables C2_prints C3_manyPrints C3_variables C3_prints F_lines F_model F_inputs F_size F_hints F_hasRun F_printedMany o833.2.1 o833.2.2.1 o833.2.2.2.1 o833.2.2.2.2.1 o833.2.2.2.2.2.1 o833.2.2.2.2.2.2.1 F_h F_kinds F_vs F_ws F_roles F_partner F_lineOf F_rank F_behind F_before F_ways F_inputOf F_answer F_values F_printedRow F_wasValues F_wasPrinted F_due o833.2.2.2.2.2.2.2.1 o833.2.2.2.2.2.2.2.2
                                                        else
                                                          some (0 : Int32)))
                                                  else
                                                    if ((xs (x3).toNatClampNeg) &&& (31 : Int32)) = (23 : Int32) then
                                                      ((fX5_follow B_hintsDone K_keptPlaces K_changes K_hintChange K_hintLine K_hintPlace K_ranks K_clashes L_many L_roles L_mates M_length M_numbers M_ranks M_ahead A_length A_row)).bind fun o842 =>
                                                      ((fX6_follow F_model F_size F_hints F_keptBits F_keptMany F_takenMany F_change F_who F_where F_roles F_partner F_lineOf F_rank F_behind F_answer F_takenPlace F_against)).bind fun o846 =>
                                                      if o842.1 = o846.1 then
                                                        k18 L xs (x3 + (7 : Int32)) B_manyInputs o842.2.1 B_inp o842.2.2.1 o842.2.2.2.1 o842.2.2.2.2.1 o842.2.2.2.2.2.1 o842.2.2.2.2.2.2.1 o842.2.2.2.2.2.2.2.1 o842.2.2.2.2.2.2.2.2.1 L_many L_kinds L_vs L_ws L_roles L_mates M_length M_waysCounted M_numbers M_ranks M_ahead M_ways o842.2.2.2.2.2.2.2.2.2.1 o842.2.2.2.2.2.2.2.2.2.2 C1_manyPrints C1_variables C1_prints C2_manyPrints C2_variables C2_prints C3_manyPrints C3_variables C3_prints F_lines F_model F_inputs o846.2.1 o846.2.2.1 F_hasRun F_printedMany o846.2.2.2.1 o846.2.2.2.2.1 o846.2.2.2.2.2.1 o846.2.2.2.2.2.2.1 o846.2.2.2.2.2.2.2.1 o846.2.2.2.2.2.2.2.2.1 F_h F_kinds F_vs F_ws F_roles F_partner F_lineOf F_rank F_behind F_before F_ways F_inputOf o846.2.2.2.2.2.2.2.2.2.1 F_values F_printedRow F_wasValues F_wasPrinted F_due o846.2.2.2.2.2.2.2.2.2.2.1 o846.2.2.2.2.2.2.2.2.2.2.2
                                                      else
                                                        some (0 : Int32)
                                                    else
                                                      if ((xs (x3).toNatClampNeg) &&& (31 : Int32)) = (24 : Int32) then
                                                        ck (inB (x3 + (1 : Int32)) L) (
                                                          ((fX5_count (xs ((x3 + (1 : Int32))).toNatClampNeg) B_manyInputs B_hintsDone L_many L_roles M_length M_ahead)).bind fun o860 =>
                                                          ck (inB (x3 + (1 : Int32)) L) (
                                                            ((fX6_count (xs ((x3 + (1 : Int32))).toNatClampNeg) F_lines F_model F_inputs F_hints F_roles F_behind)).bind fun o869 =>
                                                            if o860 = o869 then
                                                              k18 L xs (x3 + (7 : Int32)) B_manyInputs B_hintsDone B_inp K_keptPlaces K_changes K_hintChange K_hintLine K_hintPlace K_ranks K_clashes L_many L_kinds L_vs L_ws L_roles L_mates M_length M_waysCounted M_numbers M_ranks M_ahead M_ways A_length A_row C1_manyPrints C1_variables C1_prints C2_manyPrints C2_variables C2_prints C3_manyPrints C3_variables C3_prints F_lines F_model F_inputs F_size F_hints F_hasRun F_printedMany F_keptBits F_keptMany F_takenMany F_change F_who F_where F_h F_kinds F_vs F_ws F_roles F_partner F_lineOf F_rank F_behind F_before F_ways F_inputOf F_answer F_values F_printedRow F_wasValues F_wasPrinted F_due F_takenPlace F_against
                                                            else
                                                              some (0 : Int32)))
                                                      else
                                                        if ((xs (x3).toNatClampNeg) &&& (31 : Int32)) = (25 : Int32) then
                                                          ((fX5_digest B_manyInputs B_hintsDone B_inp L_many L_kinds L_vs L_ws L_roles L_mates A_length A_row)).bind fun o878 =>
                                                          ((fX6_digest F_lines F_inputs F_size F_hints F_h F_kinds F_vs F_ws F_roles F_partner F_inputOf F_answer)).bind fun o882 =>
                                                          if (lg_cmp o878 o882.1) = 0 then
                                                            k18 L xs (x3 + (7 : Int32)) B_manyInputs B_hintsDone B_inp K_keptPlaces K_changes K_hintChange K_hintLine K_hintPlace K_ranks K_clashes L_many L_kinds L_vs L_ws L_roles L_mates M_length M_waysCounted M_numbers M_ranks M_ahead M_ways A_length A_row C1_manyPrints C1_variables C1_prints C2_manyPrints C2_variables C2_prints C3_manyPrints C3_variables C3_prints F_lines F_model F_inputs F_size F_hints F_hasRun F_printedMany F_keptBits F_keptMany F_takenMany F_change F_who F_where o882.2 F_kinds F_vs F_ws F_roles F_partner F_lineOf F_rank F_behind F_before F_ways F_inputOf F_answer F_values F_printedRow F_wasValues F_wasPrinted F_due F_takenPlace F_against
                                                          else
                                                            some (0 : Int32)
                                                        else
                                                          k18 L xs (x3 + (7 : Int32)) B_manyInputs B_hintsDone B_inp K_keptPlaces K_changes K_hintChange K_hintLine K_hintPlace K_ranks K_clashes L_many L_kinds L_vs L_ws L_roles L_mates M_length M_waysCounted M_numbers M_ranks M_ahead M_ways A_length A_row C1_manyPrints C1_variables C1_prints C2_manyPrints C2_variables C2_prints C3_manyPrints C3_variables C3_prints F_lines F_model F_inputs F_size F_hints F_hasRun F_printedMany F_keptBits F_keptMany F_takenMany F_change F_who F_where F_h F_kinds F_vs F_ws F_roles F_partner F_lineOf F_rank F_behind F_before F_ways F_inputOf F_answer F_values F_printedRow F_wasValues F_wasPrinted F_due F_takenPlace F_against)
def fL_law_h18 : Nat → Nat → (Nat → Int32) → Int32 → Int32 → Int32 → (Nat → Nat → Int32) → Int32 → Int32 → Int32 → Int32 → Int32 → (Nat → Int32) → (Nat → Int32) → Int32 → (Nat → Int32) → (Nat → Int32) → (Nat → Int32) → (Nat → Int32) → (Nat → Int32) → Int32 → Int32 → (Nat → Int32) → (Nat → Int32) → (Nat → Int32) → (Nat → Int32) → Int32 → (Nat → Int32) → Int32 → (Nat → Int32) → (Nat → Int32) → Int32 → (Nat → Int32) → (Nat → Int32) → Int32 → (Nat → Int32) → (Nat → Int32) → Int32 → Int32 → Int32 → Int32 → Int32 → Int32 → Int32 → Int32 → Int32 → Int32 → Int32 → Int32 → Int32 → Int64 → (Nat → Int32) → (Nat → Int32) → (Nat → Int32) → (Nat → Int32) → (Nat → Int32) → (Nat → Int32) → (Nat → Int32) → (Nat → Int32) → (Nat → Int32) → (Nat → Int64) → (Nat → Int32) → (Nat → Int32) → (Nat → Int32) → (Nat → Int32) → (Nat → Int32) → (Nat → Int32) → (Nat → Int32) → (Nat → Int32) → (Nat → Int32) → Option (Int32)
  | 0 => fun _ _ _ _ _ _ _ _ _ _ _ _ _ _ _ _ _ _ _ _ _ _ _ _ _ _ _ _ _ _ _ _ _ _ _ _ _ _ _ _ _ _ _ _ _ _ _ _ _ _ _ _ _ _ _ _ _ _ _ _ _ _ _ _ _ _ _ _ _ => none
  | n + 1 => uL_law_h18 (fL_law_h18 n)
