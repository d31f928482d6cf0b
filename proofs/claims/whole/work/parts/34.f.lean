def f_Lw_law_1386 (k18 : Nat → Nat → Nat → Int32 → PH → Option (Int32 × PH)) (a0 : Nat) (a1 : Nat) (a2 : Nat) (x3 : Int32) (s0 : Int32) (s1 : Nat) (s2 : Int32) (h : PH) : Option (Int32 × PH) :=
  (isO h 9 s1).bind fun _ =>
  (f_Mo_image s1 s0 h).bind fun p1 =>
  if s2 = p1.1 then
    k18 a0 a1 a2 (x3 + 6) p1.2
  else
    rtZ 0 p1.2
theorem t_Lw_law_1386 {d : Nat} (hd : 30 ≤ d) {mc ms KM KS : Nat} (hmc : KM + 0 ≤ mc) (hms : KS + 0 ≤ ms) {k18 : Nat → Nat → Nat → Int32 → PH → Option (Int32 × PH)} (hk18 : ∀ (a0 : Nat) (a1 : Nat) (a2 : Nat) (x3 : Int32) (h : PH) (r : Int32 × PH) (mc ms : Nat), KM ≤ mc → KS ≤ ms → k18 a0 a1 a2 x3 h = some r → E d mc ms m_Lw_law 18 [(0, .ref a0), (1, .ref a1), (2, .ref a2), (3, .int x3)] [] h (PI r)) {a0 : Nat} {a1 : Nat} {a2 : Nat} {x3 : Int32} {s0 : Int32} {s1 : Nat} {s2 : Int32} {h : PH} {r : Int32 × PH} (hq : f_Lw_law_1386 k18 a0 a1 a2 x3 s0 s1 s2 h = some r) : E d mc ms m_Lw_law 1386 [(0, .ref a0), (1, .ref a1), (2, .ref a2), (3, .int x3)] [.int s0, .ref s1, .int s2] h (PI r) := by
  unfold f_Lw_law_1386 at hq
  obtain ⟨d, rfl⟩ : ∃ e, d = e + 1 := ⟨d - 1, by omega⟩
  obtain ⟨q2, eq2, hq⟩ := bd hq
  obtain ⟨p1, ep1, hq⟩ := bd hq
  refine E_cV1I d_Lw_law_1386 ck_Lw_174 rfl rfl eq2 (Nat.le_of_ble_eq_true rfl) (Nat.le_of_ble_eq_true rfl) (t_Mo_image (by omega) ep1) ?_
  refine E_jeq (tgt := 1417) d_Lw_law_1389 (by decide) (fun c => ?_) (fun c => ?_)
  · rw [if_pos c] at hq
    refine E_inc (v := 6) (ls' := [(3, .int (x3 + 6)), (0, .ref a0), (1, .ref a1), (2, .ref a2)]) 3 d_Lw_law_1417 rfl (Nat.le_of_ble_eq_true rfl) (by decide) rfl ?_
    refine E_goto (tgt := 18) d_Lw_law_1420 (by decide) ?_
    exact E_sub (ks := [1, 2, 3, 0]) rfl <| hk18 _ _ _ _ _ _ _ _ (by omega) (by omega) hq
  · rw [if_neg c] at hq
    refine E_ic (v := 0) d_Lw_law_1392 (by decide) ?_
    exact E_rZ d_Lw_law_1393 rfl hq
def f_Lw_law_1369 (k18 : Nat → Nat → Nat → Int32 → PH → Option (Int32 × PH)) (a0 : Nat) (a1 : Nat) (a2 : Nat) (x3 : Int32) (s0 : Int32) (s1 : Nat) (h : PH) : Option (Int32 × PH) :=
  (isO h 8 s1).bind fun _ =>
  (f_Tc_image s1 s0 h).bind fun p1 =>
  (rdS p1.2 a0 (x3 + 1)).bind fun v3 =>
  if v3 = 0 then
    f_Lw_law_1386 k18 a0 a1 a2 x3 0 a2 p1.1 p1.2
  else
    f_Lw_law_1386 k18 a0 a1 a2 x3 1 a2 p1.1 p1.2
theorem t_Lw_law_1369 {d : Nat} (hd : 30 ≤ d) {mc ms KM KS : Nat} (hmc : KM + 39 ≤ mc) (hms : KS + 1886 ≤ ms) {k18 : Nat → Nat → Nat → Int32 → PH → Option (Int32 × PH)} (hk18 : ∀ (a0 : Nat) (a1 : Nat) (a2 : Nat) (x3 : Int32) (h : PH) (r : Int32 × PH) (mc ms : Nat), KM ≤ mc → KS ≤ ms → k18 a0 a1 a2 x3 h = some r → E d mc ms m_Lw_law 18 [(0, .ref a0), (1, .ref a1), (2, .ref a2), (3, .int x3)] [] h (PI r)) {a0 : Nat} {a1 : Nat} {a2 : Nat} {x3 : Int32} {s0 : Int32} {s1 : Nat} {h : PH} {r : Int32 × PH} (hq : f_Lw_law_1369 k18 a0 a1 a2 x3 s0 s1 h = some r) : E d mc ms m_Lw_law 1369 [(0, .ref a0), (1, .ref a1), (2, .ref a2), (3, .int x3)] [.int s0, .ref s1] h (PI r) := by
  unfold f_Lw_law_1369 at hq
  obtain ⟨d, rfl⟩ : ∃ e, d = e + 1 := ⟨d - 1, by omega⟩
  obtain ⟨q2, eq2, hq⟩ := bd hq
  obtain ⟨p1, ep1, hq⟩ := bd hq
  refine E_cV1IA (mc1 := 39) (ms1 := 1886) (mc2 := mc - 39) (ms2 := ms - 1886) d_Lw_law_1369 ck_Lw_170 rfl rfl eq2 (Nat.le_of_ble_eq_true rfl) (Nat.le_of_ble_eq_true rfl) (by omega) (by omega) (t_Tc_image (by omega) (Nat.le_refl _) (Nat.le_refl _) ep1) ?_
  refine E_aln 2 d_Lw_law_1372 rfl rfl ?_
  refine E_aln 0 d_Lw_law_1373 rfl rfl ?_
  refine E_iln 3 d_Lw_law_1374 rfl rfl ?_
  refine E_ic (v := 1) d_Lw_law_1375 (by decide) ?_
  refine E_iadd d_Lw_law_1376 ?_
  obtain ⟨v3, ev3, hq⟩ := bd hq
  refine E_rs d_Lw_law_1377 ev3 ?_
  refine E_zeq (tgt := 1385) d_Lw_law_1378 (by decide) (fun c => ?_) (fun c => ?_)
  · rw [if_pos c] at hq
    refine E_ic (v := 0) d_Lw_law_1385 (by decide) ?_
    exact t_Lw_law_1386 (by omega) (by first | assumption | omega) (by first | assumption | omega) hk18 hq
  · rw [if_neg c] at hq
    refine E_ic (v := 1) d_Lw_law_1381 (by decide) ?_
    refine E_goto (tgt := 1386) d_Lw_law_1382 (by decide) ?_
    exact t_Lw_law_1386 (by omega) (by first | assumption | omega) (by first | assumption | omega) hk18 hq
def f_Lw_law_18 : Nat → Nat → Nat → Nat → Int32 → PH → Option (Int32 × PH)
  | 0, _, _, _, _, _ => none
  | n + 1, a0, a1, a2, x3, h =>
    (lnS h a0).bind fun v1 =>
    if (v1 - 6) < x3 then
      rtZ 1 h
    else
      (rdS h a0 x3).bind fun v2 =>
      if (v2 &&& 63) = 0 then
        (rdS h a0 (x3 + 1)).bind fun v3 =>
        (isO h 8 a1).bind fun _ =>
        (f_Tc_state a1 v3 h).bind fun p4 =>
        (rdS p4.2 a0 (x3 + 1)).bind fun v6 =>
        (isO p4.2 9 a2).bind fun _ =>
        (f_Mo_state a2 v6 p4.2).bind fun p7 =>
        if p4.1 = p7.1 then
          f_Lw_law_18 n a0 a1 a2 (x3 + 6) p7.2
        else
          rtZ 0 p7.2
      else
        if (v2 &&& 63) = 1 then
          (rdS h a0 (x3 + 1)).bind fun v9 =>
          (rdS h a0 (x3 + 2)).bind fun v10 =>
          (rdS h a0 (x3 + 3)).bind fun v11 =>
          (isO h 8 a1).bind fun _ =>
          (f_Tc_traveller a1 v9 v10 v11 h).bind fun p12 =>
          (rdS p12.2 a0 (x3 + 1)).bind fun v14 =>
          (rdS p12.2 a0 (x3 + 2)).bind fun v15 =>
          (rdS p12.2 a0 (x3 + 3)).bind fun v16 =>
          (isO p12.2 9 a2).bind fun _ =>
          (f_Mo_traveller a2 v14 v15 v16 p12.2).bind fun p17 =>
          if p12.1 = p17.1 then
            f_Lw_law_18 n a0 a1 a2 (x3 + 6) p17.2
          else
            rtZ 0 p17.2
        else
          if (v2 &&& 63) = 2 then
            (rdS h a0 (x3 + 1)).bind fun v19 =>
            (rdS h a0 (x3 + 2)).bind fun v20 =>
            (rdS h a0 (x3 + 3)).bind fun v21 =>
            (isO h 8 a1).bind fun _ =>
            (f_Tc_officer a1 v19 v20 v21 h).bind fun p22 =>
            (rdS p22.2 a0 (x3 + 1)).bind fun v24 =>
            (rdS p22.2 a0 (x3 + 2)).bind fun v25 =>
            (rdS p22.2 a0 (x3 + 3)).bind fun v26 =>
            (isO p22.2 9 a2).bind fun _ =>
            (f_Mo_officer a2 v24 v25 v26 p22.2).bind fun p27 =>
            if p22.1 = p27.1 then
              f_Lw_law_18 n a0 a1 a2 (x3 + 6) p27.2
            else
              rtZ 0 p27.2
          else
            if (v2 &&& 63) = 3 then
              (rdS h a0 (x3 + 1)).bind fun v29 =>
              (rdS h a0 (x3 + 2)).bind fun v30 =>
              (rdS h a0 (x3 + 3)).bind fun v31 =>
              (isO h 8 a1).bind fun _ =>
              (f_Tc_set a1 v29 v30 v31 h).bind fun p32 =>
              (rdS p32.2 a0 (x3 + 1)).bind fun v34 =>
              (rdS p32.2 a0 (x3 + 2)).bind fun v35 =>
              (rdS p32.2 a0 (x3 + 3)).bind fun v36 =>
              (isO p32.2 9 a2).bind fun _ =>
              (f_Mo_set a2 v34 v35 v36 p32.2).bind fun p37 =>
              if p32.1 = p37.1 then
                f_Lw_law_18 n a0 a1 a2 (x3 + 6) p37.2
              else
                rtZ 0 p37.2
            else
              if (v2 &&& 63) = 4 then
                (rdS h a0 (x3 + 1)).bind fun v39 =>
                (rdS h a0 (x3 + 2)).bind fun v40 =>
                (rdS h a0 (x3 + 3)).bind fun v41 =>
                (isO h 8 a1).bind fun _ =>
                (f_Tc_act a1 v39 v40 v41 h).bind fun p42 =>
                (rdS p42.2 a0 (x3 + 1)).bind fun v44 =>
                (rdS p42.2 a0 (x3 + 2)).bind fun v45 =>
                (rdS p42.2 a0 (x3 + 3)).bind fun v46 =>
                (isO p42.2 9 a2).bind fun _ =>
                (f_Mo_act a2 v44 v45 v46 p42.2).bind fun p47 =>
                if p42.1 = p47.1 then
                  f_Lw_law_18 n a0 a1 a2 (x3 + 6) p47.2
                else
                  rtZ 0 p47.2
              else
                if (v2 &&& 63) = 5 then
                  (rdS h a0 (x3 + 1)).bind fun v49 =>
                  (rdS h a0 (x3 + 2)).bind fun v50 =>
                  (isO h 8 a1).bind fun _ =>
                  (f_Tc_weigh a1 v49 v50 h).bind fun p51 =>
                  (rdS p51.2 a0 (x3 + 1)).bind fun v53 =>
                  (rdS p51.2 a0 (x3 + 2)).bind fun v54 =>
                  (isO p51.2 9 a2).bind fun _ =>
                  (f_Mo_weigh a2 v53 v54 p51.2).bind fun p55 =>
                  if p51.1 = p55.1 then
                    f_Lw_law_18 n a0 a1 a2 (x3 + 6) p55.2
                  else
                    rtZ 0 p55.2
                else
                  if (v2 &&& 63) = 6 then
                    (rdS h a0 (x3 + 1)).bind fun v57 =>
                    (isO h 8 a1).bind fun _ =>
                    (f_Tc_hours a1 v57 h).bind fun p58 =>
                    (rdS p58.2 a0 (x3 + 1)).bind fun v60 =>
                    (isO p58.2 9 a2).bind fun _ =>
                    (f_Mo_hours a2 v60 p58.2).bind fun p61 =>
                    if p58.1 = p61.1 then
                      f_Lw_law_18 n a0 a1 a2 (x3 + 6) p61.2
                    else
                      rtZ 0 p61.2
                  else
                    if (v2 &&& 63) = 7 then
                      (rdS h a0 (x3 + 1)).bind fun v63 =>
                      (rdS h a0 (x3 + 2)).bind fun v64 =>
                      (rdS h a0 (x3 + 3)).bind fun v65 =>
                      (rdS h a0 (x3 + 4)).bind fun v66 =>
                      (rdS h a0 (x3 + 5)).bind fun v67 =>
                      (isO h 8 a1).bind fun _ =>
                      (f_Tc_feed a1 v63 v64 v65 v66 v67 h).bind fun p68 =>
                      (rdS p68.2 a0 (x3 + 1)).bind fun v70 =>
                      (rdS p68.2 a0 (x3 + 2)).bind fun v71 =>
                      (rdS p68.2 a0 (x3 + 3)).bind fun v72 =>
                      (rdS p68.2 a0 (x3 + 4)).bind fun v73 =>
                      (rdS p68.2 a0 (x3 + 5)).bind fun v74 =>
                      (isO p68.2 9 a2).bind fun _ =>
                      (f_Mo_feed a2 v70 v71 v72 v73 v74 p68.2).bind fun p75 =>
                      if p68.1 = p75.1 then
                        f_Lw_law_18 n a0 a1 a2 (x3 + 6) p75.2
                      else
                        rtZ 0 p75.2
                    else
                      if (v2 &&& 63) = 8 then
                        (rdS h a0 (x3 + 1)).bind fun v77 =>
                        (isO h 8 a1).bind fun _ =>
                        (f_Tc_end a1 v77 h).bind fun p78 =>
                        (rdS p78.2 a0 (x3 + 1)).bind fun v80 =>
                        (isO p78.2 9 a2).bind fun _ =>
                        (f_Mo_end a2 v80 p78.2).bind fun p81 =>
                        if p78.1 = p81.1 then
                          f_Lw_law_18 n a0 a1 a2 (x3 + 6) p81.2
                        else
                          rtZ 0 p81.2
                      else
                        if (v2 &&& 63) = 9 then
                          (rdS h a0 (x3 + 1)).bind fun v83 =>
                          (isO h 8 a1).bind fun _ =>
                          (f_Tc_text a1 v83 h).bind fun p84 =>
                          (rdS p84.2 a0 (x3 + 1)).bind fun v86 =>
                          (isO p84.2 9 a2).bind fun _ =>
                          (f_Mo_text a2 v86 p84.2).bind fun p87 =>
                          if p84.1 = p87.1 then
                            f_Lw_law_18 n a0 a1 a2 (x3 + 6) p87.2
                          else
                            rtZ 0 p87.2
                        else
                          if (v2 &&& 63) = 10 then
                            (rdS h a0 (x3 + 1)).bind fun v89 =>
                            (isO h 8 a1).bind fun _ =>
                            (f_Tc_fault a1 v89 h).bind fun p90 =>
                            (rdS p90.2 a0 (x3 + 1)).bind fun v92 =>
                            (isO p90.2 9 a2).bind fun _ =>
                            (f_Mo_fault a2 v92 p90.2).bind fun p93 =>
                            if p90.1 = p93.1 then
                              f_Lw_law_18 n a0 a1 a2 (x3 + 6) p93.2
                            else
                              rtZ 0 p93.2
                          else
                            if (v2 &&& 63) = 11 then
                              (rdS h a0 (x3 + 1)).bind fun v95 =>
                              (rdS h a0 (x3 + 2)).bind fun v96 =>
                              (isO h 8 a1).bind fun _ =>
                              (f_Tc_of a1 v95 v96 h).bind fun p97 =>
                              (rdS p97.2 a0 (x3 + 1)).bind fun v99 =>
                              (rdS p97.2 a0 (x3 + 2)).bind fun v100 =>
                              (isO p97.2 9 a2).bind fun _ =>
                              (f_Mo_of a2 v99 v100 p97.2).bind fun p101 =>
                              if p97.1 = p101.1 then
                                f_Lw_law_18 n a0 a1 a2 (x3 + 6) p101.2
                              else
                                rtZ 0 p101.2
                            else
                              if (v2 &&& 63) = 12 then
                                (rdS h a0 (x3 + 1)).bind fun v103 =>
                                (rdS h a0 (x3 + 2)).bind fun v104 =>
                                (isO h 8 a1).bind fun _ =>
                                (f_Tc_who a1 v103 v104 h).bind fun p105 =>
                                (rdS p105.2 a0 (x3 + 1)).bind fun v107 =>
                                (rdS p105.2 a0 (x3 + 2)).bind fun v108 =>
                                (isO p105.2 9 a2).bind fun _ =>
                                (f_Mo_who a2 v107 v108 p105.2).bind fun p109 =>
                                if p105.1 = p109.1 then
                                  f_Lw_law_18 n a0 a1 a2 (x3 + 6) p109.2
                                else
                                  rtZ 0 p109.2
                              else
                                if (v2 &&& 63) = 13 then
                                  (rdS h a0 (x3 + 1)).bind fun v111 =>
                                  (rdS h a0 (x3 + 2)).bind fun v112 =>
                                  (isO h 8 a1).bind fun _ =>
                                  (f_Tc_book a1 v111 v112 h).bind fun p113 =>
                                  (rdS p113.2 a0 (x3 + 1)).bind fun v115 =>
                                  (rdS p113.2 a0 (x3 + 2)).bind fun v116 =>
                                  (isO p113.2 9 a2).bind fun _ =>
                                  (f_Mo_book a2 v115 v116 p113.2).bind fun p117 =>
                                  if p113.1 = p117.1 then
                                    f_Lw_law_18 n a0 a1 a2 (x3 + 6) p117.2
                                  else
                                    rtZ 0 p117.2
                                else
                                  if (v2 &&& 63) = 14 then
                                    (rdS h a0 (x3 + 1)).bind fun v119 =>
                                    (rdS h a0 (x3 + 2)).bind fun v120 =>
                                    (isO h 8 a1).bind fun _ =>
                                    (f_Tc_goes a1 v119 v120 h).bind fun p121 =>
                                    (rdS p121.2 a0 (x3 + 1)).bind fun v123 =>
                                    (rdS p121.2 a0 (x3 + 2)).bind fun v124 =>
                                    (isO p121.2 9 a2).bind fun _ =>
                                    (f_Mo_goes a2 v123 v124 p121.2).bind fun p125 =>
                                    if p121.1 = p125.1 then
                                      f_Lw_law_18 n a0 a1 a2 (x3 + 6) p125.2
                                    else
                                      rtZ 0 p125.2
                                  else
                                    if (v2 &&& 63) = 15 then
                                      (rdS h a0 (x3 + 1)).bind fun v127 =>
                                      (isO h 8 a1).bind fun _ =>
                                      (f_Tc_rate a1 v127 h).bind fun p128 =>
                                      (rdS p128.2 a0 (x3 + 1)).bind fun v130 =>
                                      (isO p128.2 9 a2).bind fun _ =>
                                      (f_Mo_rate a2 v130 p128.2).bind fun p131 =>
                                      if p128.1 = p131.1 then
                                        f_Lw_law_18 n a0 a1 a2 (x3 + 6) p131.2
                                      else
                                        rtZ 0 p131.2
                                    else
                                      if (v2 &&& 63) = 16 then
                                        (rdS h a0 (x3 + 1)).bind fun v133 =>
                                        (rdS h a0 (x3 + 2)).bind fun v134 =>
                                        (rdS h a0 (x3 + 3)).bind fun v135 =>
                                        (isO h 8 a1).bind fun _ =>
                                        (f_Tc_order a1 v133 v134 v135 h).bind fun p136 =>
                                        (rdS p136.2 a0 (x3 + 1)).bind fun v138 =>
                                        (rdS p136.2 a0 (x3 + 2)).bind fun v139 =>
                                        (rdS p136.2 a0 (x3 + 3)).bind fun v140 =>
                                        (isO p136.2 9 a2).bind fun _ =>
                                        (f_Mo_order a2 v138 v139 v140 p136.2).bind fun p141 =>
                                        if p136.1 = p141.1 then
                                          f_Lw_law_18 n a0 a1 a2 (x3 + 6) p141.2
                                        else
                                          rtZ 0 p141.2
                                      else
                                        if (v2 &&& 63) = 17 then
                                          (rdS h a0 (x3 + 1)).bind fun v143 =>
                                          (isO h 8 a1).bind fun _ =>
                                          (f_Tc_ordered a1 v143 h).bind fun p144 =>
                                          (rdS p144.2 a0 (x3 + 1)).bind fun v146 =>
                                          (isO p144.2 9 a2).bind fun _ =>
                                          (f_Mo_ordered a2 v146 p144.2).bind fun p147 =>
                                          if p144.1 = p147.1 then
                                            f_Lw_law_18 n a0 a1 a2 (x3 + 6) p147.2
                                          else
                                            rtZ 0 p147.2
                                        else
                                          if (v2 &&& 63) = 18 then
                                            (rdS h a0 (x3 + 1)).bind fun v149 =>
                                            (rdS h a0 (x3 + 2)).bind fun v150 =>
                                            (isO h 8 a1).bind fun _ =>
                                            (f_Tc_hand a1 v149 v150 h).bind fun p151 =>
                                            (rdS p151.2 a0 (x3 + 1)).bind fun v153 =>
                                            (rdS p151.2 a0 (x3 + 2)).bind fun v154 =>
                                            (isO p151.2 9 a2).bind fun _ =>
                                            (f_Mo_hand a2 v153 v154 p151.2).bind fun p155 =>
                                            if p151.1 = p155.1 then
                                              f_Lw_law_18 n a0 a1 a2 (x3 + 6) p155.2
                                            else
                                              rtZ 0 p155.2
                                          else
                                            if (v2 &&& 63) = 19 then
                                              (rdS h a0 (x3 + 1)).bind fun v157 =>
                                              (isO h 8 a1).bind fun _ =>
                                              (f_Tc_hands a1 v157 h).bind fun p158 =>
                                              (rdS p158.2 a0 (x3 + 1)).bind fun v160 =>
                                              (isO p158.2 9 a2).bind fun _ =>
                                              (f_Mo_hands a2 v160 p158.2).bind fun p161 =>
                                              if p158.1 = p161.1 then
                                                f_Lw_law_18 n a0 a1 a2 (x3 + 6) p161.2
                                              else
                                                rtZ 0 p161.2
                                            else
                                              if (v2 &&& 63) = 20 then
                                                (rdS h a0 (x3 + 1)).bind fun v163 =>
                                                (isO h 8 a1).bind fun _ =>
                                                (f_Tc_weight a1 v163 h).bind fun p164 =>
                                                (rdS p164.2 a0 (x3 + 1)).bind fun v166 =>
                                                (isO p164.2 9 a2).bind fun _ =>
                                                (f_Mo_weight a2 v166 p164.2).bind fun p167 =>
                                                if p164.1 = p167.1 then
                                                  f_Lw_law_18 n a0 a1 a2 (x3 + 6) p167.2
                                                else
                                                  rtZ 0 p167.2
                                              else
                                                if (v2 &&& 63) = 21 then
                                                  (rdS h a0 (x3 + 1)).bind fun v169 =>
                                                  (rdS h a0 (x3 + 2)).bind fun v170 =>
                                                  (isO h 8 a1).bind fun _ =>
                                                  (f_Tc_crates a1 v169 v170 h).bind fun p171 =>
                                                  (rdS p171.2 a0 (x3 + 1)).bind fun v173 =>
                                                  (rdS p171.2 a0 (x3 + 2)).bind fun v174 =>
                                                  (isO p171.2 9 a2).bind fun _ =>
                                                  (f_Mo_crates a2 v173 v174 p171.2).bind fun p175 =>
                                                  if p171.1 = p175.1 then
                                                    f_Lw_law_18 n a0 a1 a2 (x3 + 6) p175.2
                                                  else
                                                    rtZ 0 p175.2
                                                else
                                                  if (v2 &&& 63) = 22 then
                                                    (rdS h a0 (x3 + 1)).bind fun v177 =>
                                                    (isO h 8 a1).bind fun _ =>
                                                    (f_Tc_bag a1 v177 h).bind fun p178 =>
                                                    (rdS p178.2 a0 (x3 + 1)).bind fun v180 =>
                                                    (isO p178.2 9 a2).bind fun _ =>
                                                    (f_Mo_bag a2 v180 p178.2).bind fun p181 =>
                                                    if p178.1 = p181.1 then
                                                      f_Lw_law_18 n a0 a1 a2 (x3 + 6) p181.2
                                                    else
                                                      rtZ 0 p181.2
                                                  else
                                                    if (v2 &&& 63) = 23 then
                                                      (rdS h a0 (x3 + 1)).bind fun v183 =>
                                                      (rdS h a0 (x3 + 2)).bind fun v184 =>
                                                      (isO h 8 a1).bind fun _ =>
                                                      (f_Tc_weighed a1 v183 v184 h).bind fun p185 =>
                                                      (rdS p185.2 a0 (x3 + 1)).bind fun v187 =>
                                                      (rdS p185.2 a0 (x3 + 2)).bind fun v188 =>
                                                      (isO p185.2 9 a2).bind fun _ =>
                                                      (f_Mo_weighed a2 v187 v188 p185.2).bind fun p189 =>
                                                      if p185.1 = p189.1 then
                                                        f_Lw_law_18 n a0 a1 a2 (x3 + 6) p189.2
                                                      else
                                                        rtZ 0 p189.2
                                                    else
                                                      if (v2 &&& 63) = 24 then
                                                        (rdS h a0 (x3 + 1)).bind fun v191 =>
                                                        (isO h 8 a1).bind fun _ =>
                                                        (f_Tc_suspects a1 v191 h).bind fun p192 =>
                                                        (rdS p192.2 a0 (x3 + 1)).bind fun v194 =>
                                                        (isO p192.2 9 a2).bind fun _ =>
                                                        (f_Mo_suspects a2 v194 p192.2).bind fun p195 =>
                                                        if p192.1 = p195.1 then
                                                          f_Lw_law_18 n a0 a1 a2 (x3 + 6) p195.2
                                                        else
                                                          rtZ 0 p195.2
                                                      else
                                                        if (v2 &&& 63) = 25 then
                                                          (rdS h a0 (x3 + 1)).bind fun v197 =>
                                                          (rdS h a0 (x3 + 2)).bind fun v198 =>
                                                          (rdS h a0 (x3 + 3)).bind fun v199 =>
                                                          (rdS h a0 (x3 + 4)).bind fun v200 =>
                                                          (isO h 8 a1).bind fun _ =>
                                                          (f_Tc_driest a1 v197 v198 v199 v200 h).bind fun p201 =>
                                                          (rdS p201.2 a0 (x3 + 1)).bind fun v203 =>
                                                          (rdS p201.2 a0 (x3 + 2)).bind fun v204 =>
                                                          (rdS p201.2 a0 (x3 + 3)).bind fun v205 =>
                                                          (rdS p201.2 a0 (x3 + 4)).bind fun v206 =>
                                                          (isO p201.2 9 a2).bind fun _ =>
                                                          (f_Mo_driest a2 v203 v204 v205 v206 p201.2).bind fun p207 =>
                                                          if p201.1 = p207.1 then
                                                            f_Lw_law_18 n a0 a1 a2 (x3 + 6) p207.2
                                                          else
                                                            rtZ 0 p207.2
                                                        else
                                                          if (v2 &&& 63) = 26 then
                                                            (rdS h a0 (x3 + 1)).bind fun v209 =>
                                                            (rdS h a0 (x3 + 2)).bind fun v210 =>
                                                            (rdS h a0 (x3 + 3)).bind fun v211 =>
                                                            (isO h 8 a1).bind fun _ =>
                                                            (f_Tc_count a1 v209 v210 v211 h).bind fun p212 =>
                                                            (rdS p212.2 a0 (x3 + 1)).bind fun v214 =>
                                                            (rdS p212.2 a0 (x3 + 2)).bind fun v215 =>
                                                            (rdS p212.2 a0 (x3 + 3)).bind fun v216 =>
                                                            (isO p212.2 9 a2).bind fun _ =>
                                                            (f_Mo_count a2 v214 v215 v216 p212.2).bind fun p217 =>
                                                            if p212.1 = p217.1 then
                                                              f_Lw_law_18 n a0 a1 a2 (x3 + 6) p217.2
                                                            else
                                                              rtZ 0 p217.2
                                                          else
                                                            if (v2 &&& 63) = 27 then
                                                              (rdS h a0 (x3 + 1)).bind fun v219 =>
                                                              (rdS h a0 (x3 + 2)).bind fun v220 =>
                                                              (isO h 8 a1).bind fun _ =>
                                                              (f_Tc_likely a1 v219 v220 h).bind fun p221 =>
                                                              (rdS p221.2 a0 (x3 + 1)).bind fun v223 =>
                                                              (rdS p221.2 a0 (x3 + 2)).bind fun v224 =>
                                                              (isO p221.2 9 a2).bind fun _ =>
                                                              (f_Mo_likely a2 v223 v224 p221.2).bind fun p225 =>
                                                              if p221.1 = p225.1 then
                                                                f_Lw_law_18 n a0 a1 a2 (x3 + 6) p225.2
                                                              else
                                                                rtZ 0 p225.2
                                                            else
                                                              if (v2 &&& 63) = 28 then
                                                                (rdS h a0 (x3 + 1)).bind fun v227 =>
                                                                (isO h 8 a1).bind fun _ =>
                                                                (f_Tc_salt a1 v227 h).bind fun p228 =>
                                                                (rdS p228.2 a0 (x3 + 1)).bind fun v230 =>
                                                                (isO p228.2 9 a2).bind fun _ =>
                                                                (f_Mo_salt a2 v230 p228.2).bind fun p231 =>
                                                                if p228.1 = p231.1 then
                                                                  f_Lw_law_18 n a0 a1 a2 (x3 + 6) p231.2
                                                                else
                                                                  rtZ 0 p231.2
                                                              else
                                                                if (v2 &&& 63) = 29 then
                                                                  (rdS h a0 (x3 + 1)).bind fun v233 =>
                                                                  (isO h 8 a1).bind fun _ =>
                                                                  (f_Tc_won a1 v233 h).bind fun p234 =>
                                                                  (rdS p234.2 a0 (x3 + 1)).bind fun v236 =>
                                                                  (isO p234.2 9 a2).bind fun _ =>
                                                                  (f_Mo_won a2 v236 p234.2).bind fun p237 =>
                                                                  if p234.1 = p237.1 then
                                                                    f_Lw_law_18 n a0 a1 a2 (x3 + 6) p237.2
                                                                  else
                                                                    rtZ 0 p237.2
                                                                else
                                                                  if (v2 &&& 63) = 30 then
                                                                    (rdS h a0 (x3 + 1)).bind fun v239 =>
                                                                    (rdS h a0 (x3 + 2)).bind fun v240 =>
                                                                    (isO h 8 a1).bind fun _ =>
                                                                    (f_Tc_ledger a1 v239 v240 h).bind fun p241 =>
                                                                    (rdS p241.2 a0 (x3 + 1)).bind fun v243 =>
                                                                    (rdS p241.2 a0 (x3 + 2)).bind fun v244 =>
                                                                    (isO p241.2 9 a2).bind fun _ =>
                                                                    (f_Mo_ledger a2 v243 v244 p241.2).bind fun p245 =>
                                                                    if p241.1 = p245.1 then
                                                                      f_Lw_law_18 n a0 a1 a2 (x3 + 6) p245.2
                                                                    else
                                                                      rtZ 0 p245.2
                                                                  else
                                                                    if (v2 &&& 63) = 31 then
                                                                      (rdS h a0 (x3 + 1)).bind fun v247 =>
                                                                      (isO h 8 a1).bind fun _ =>
                                                                      (f_Tc_altered a1 v247 h).bind fun p248 =>
                                                                      (rdS p248.2 a0 (x3 + 1)).bind fun v250 =>
                                                                      (isO p248.2 9 a2).bind fun _ =>
                                                                      (f_Mo_altered a2 v250 p248.2).bind fun p251 =>
                                                                      if p248.1 = p251.1 then
                                                                        f_Lw_law_18 n a0 a1 a2 (x3 + 6) p251.2
                                                                      else
                                                                        rtZ 0 p251.2
                                                                    else
                                                                      if (v2 &&& 63) = 32 then
                                                                        (rdS h a0 (x3 + 1)).bind fun v253 =>
                                                                        (rdS h a0 (x3 + 2)).bind fun v254 =>
                                                                        (isO h 8 a1).bind fun _ =>
                                                                        (f_Tc_years a1 v253 v254 h).bind fun p255 =>
                                                                        (rdS p255.2 a0 (x3 + 1)).bind fun v257 =>
                                                                        (rdS p255.2 a0 (x3 + 2)).bind fun v258 =>
                                                                        (isO p255.2 9 a2).bind fun _ =>
                                                                        (f_Mo_years a2 v257 v258 p255.2).bind fun p259 =>
                                                                        if p255.1 = p259.1 then
                                                                          f_Lw_law_18 n a0 a1 a2 (x3 + 6) p259.2
                                                                        else
                                                                          rtZ 0 p259.2
                                                                      else
                                                                        if (v2 &&& 63) = 33 then
                                                                          (rdS h a0 (x3 + 1)).bind fun v261 =>
                                                                          (isO h 8 a1).bind fun _ =>
                                                                          (f_Tc_dry a1 v261 h).bind fun p262 =>
                                                                          (rdS p262.2 a0 (x3 + 1)).bind fun v264 =>
                                                                          (isO p262.2 9 a2).bind fun _ =>
                                                                          (f_Mo_dry a2 v264 p262.2).bind fun p265 =>
                                                                          if p262.1 = p265.1 then
                                                                            f_Lw_law_18 n a0 a1 a2 (x3 + 6) p265.2
                                                                          else
                                                                            rtZ 0 p265.2
                                                                        else
                                                                          if (v2 &&& 63) = 34 then
                                                                            (rdS h a0 (x3 + 1)).bind fun v267 =>
                                                                            (rdS h a0 (x3 + 2)).bind fun v268 =>
                                                                            (isO h 8 a1).bind fun _ =>
                                                                            (f_Tc_votes a1 v267 v268 h).bind fun p269 =>
                                                                            (rdS p269.2 a0 (x3 + 1)).bind fun v271 =>
                                                                            (rdS p269.2 a0 (x3 + 2)).bind fun v272 =>
                                                                            (isO p269.2 9 a2).bind fun _ =>
                                                                            (f_Mo_votes a2 v271 v272 p269.2).bind fun p273 =>
                                                                            if p269.1 = p273.1 then
                                                                              f_Lw_law_18 n a0 a1 a2 (x3 + 6) p273.2
                                                                            else
                                                                              rtZ 0 p273.2
                                                                          else
                                                                            if (v2 &&& 63) = 35 then
                                                                              (rdS h a0 (x3 + 1)).bind fun v275 =>
                                                                              (isO h 8 a1).bind fun _ =>
                                                                              (f_Tc_game a1 v275 h).bind fun p276 =>
                                                                              (rdS p276.2 a0 (x3 + 1)).bind fun v278 =>
                                                                              (isO p276.2 9 a2).bind fun _ =>
                                                                              (f_Mo_game a2 v278 p276.2).bind fun p279 =>
                                                                              if p276.1 = p279.1 then
                                                                                f_Lw_law_18 n a0 a1 a2 (x3 + 6) p279.2
                                                                              else
                                                                                rtZ 0 p279.2
                                                                            else
                                                                              if (v2 &&& 63) = 36 then
                                                                                (isO h 8 a1).bind fun _ =>
                                                                                (f_Tc_undo a1  h).bind fun p281 =>
                                                                                (isO p281.2 9 a2).bind fun _ =>
                                                                                (f_Mo_undo a2  p281.2).bind fun p283 =>
                                                                                if p281.1 = p283.1 then
                                                                                  f_Lw_law_18 n a0 a1 a2 (x3 + 6) p283.2
                                                                                else
                                                                                  rtZ 0 p283.2
                                                                              else
                                                                                if (v2 &&& 63) = 37 then
                                                                                  (rdS h a0 (x3 + 1)).bind fun v285 =>
                                                                                  if v285 = 0 then
                                                                                    f_Lw_law_1369 (fun a0 a1 a2 x3 h => f_Lw_law_18 n a0 a1 a2 x3 h) a0 a1 a2 x3 0 a1 h
                                                                                  else
                                                                                    f_Lw_law_1369 (fun a0 a1 a2 x3 h => f_Lw_law_18 n a0 a1 a2 x3 h) a0 a1 a2 x3 1 a1 h
                                                                                else
                                                                                  if (v2 &&& 63) = 38 then
                                                                                    (rdS h a0 (x3 + 1)).bind fun v286 =>
                                                                                    (isO h 8 a1).bind fun _ =>
                                                                                    (f_Tc_look a1 v286 h).bind fun p287 =>
                                                                                    (rdS p287.2 a0 (x3 + 1)).bind fun v289 =>
                                                                                    (isO p287.2 9 a2).bind fun _ =>
                                                                                    (f_Mo_look a2 v289 p287.2).bind fun p290 =>
                                                                                    if p287.1 = p290.1 then
                                                                                      f_Lw_law_18 n a0 a1 a2 (x3 + 6) p290.2
                                                                                    else
                                                                                      rtZ 0 p290.2
                                                                                  else
                                                                                    f_Lw_law_18 n a0 a1 a2 (x3 + 6) h
set_option maxRecDepth 200000 in
set_option maxHeartbeats 4000000 in
theorem t_Lw_law_18 {d : Nat} (hd : 30 ≤ d) : ∀ (n : Nat) (a0 : Nat) (a1 : Nat) (a2 : Nat) (x3 : Int32) (h : PH) (r : Int32 × PH) (mc ms : Nat), n * 39 ≤ mc → n * 1886 ≤ ms → f_Lw_law_18 n a0 a1 a2 x3 h = some r → E d mc ms m_Lw_law 18 [(0, .ref a0), (1, .ref a1), (2, .ref a2), (3, .int x3)] [] h (PI r) := by
  intro n
  induction n with
  | zero => intro a0 a1 a2 x3 h r mc ms hmc hms hq; rw [f_Lw_law_18] at hq; cases hq
  | succ n ih =>
    intro a0 a1 a2 x3 h r mc ms hmc hms hq
    have hA : n * 39 ≤ mc := by omega
    have hB : n * 1886 ≤ ms := by omega
    have hA1 : n * 39 + 39 ≤ mc := by omega
    have hB1 : n * 1886 + 1886 ≤ ms := by omega
    rw [f_Lw_law_18] at hq
    obtain ⟨d, rfl⟩ : ∃ e, d = e + 1 := ⟨d - 1, by omega⟩
    refine E_iln 3 d_Lw_law_18 rfl rfl ?_
    refine E_aln 0 d_Lw_law_19 rfl rfl ?_
    obtain ⟨v1, ev1, hq⟩ := bd hq
    refine E_ls d_Lw_law_20 ev1 ?_
    refine E_bi (v := 6) d_Lw_law_21 (by decide) ?_
    refine E_isub d_Lw_law_23 ?_
    refine E_jgt (tgt := 1423) d_Lw_law_24 (by decide) (fun c => ?_) (fun c => ?_)
    · rw [if_pos c] at hq
      refine E_ic (v := 1) d_Lw_law_1423 (by decide) ?_
      exact E_rZ d_Lw_law_1424 rfl hq
    · rw [if_neg c] at hq
      refine E_aln 0 d_Lw_law_27 rfl rfl ?_
      refine E_iln 3 d_Lw_law_28 rfl rfl ?_
      obtain ⟨v2, ev2, hq⟩ := bd hq
      refine E_rs d_Lw_law_29 ev2 ?_
      refine E_bi (v := 63) d_Lw_law_30 (by decide) ?_
      refine E_iand d_Lw_law_32 ?_
      by_cases c0 : (v2 &&& 63) = 0
      · rw [if_pos c0] at hq
        refine E_table (tgt := 204) d_Lw_law_33 (by rw [c0]; decide) (fun _ _ => ⟨171, by rw [c0]; decide, by decide⟩) ?_
        refine E_aln 1 d_Lw_law_204 rfl rfl ?_
        refine E_aln 0 d_Lw_law_205 rfl rfl ?_
        refine E_iln 3 d_Lw_law_206 rfl rfl ?_
        refine E_ic (v := 1) d_Lw_law_207 (by decide) ?_
        refine E_iadd d_Lw_law_208 ?_
        obtain ⟨v3, ev3, hq⟩ := bd hq
        refine E_rs d_Lw_law_209 ev3 ?_
        obtain ⟨q5, eq5, hq⟩ := bd hq
        obtain ⟨p4, ep4, hq⟩ := bd hq
        refine E_cV1I d_Lw_law_210 ck_Lw_13 rfl rfl eq5 (Nat.le_of_ble_eq_true rfl) (Nat.le_of_ble_eq_true rfl) (t_Tc_state (by omega) ep4) ?_
        refine E_aln 2 d_Lw_law_213 rfl rfl ?_
        refine E_aln 0 d_Lw_law_214 rfl rfl ?_
        refine E_iln 3 d_Lw_law_215 rfl rfl ?_
        refine E_ic (v := 1) d_Lw_law_216 (by decide) ?_
        refine E_iadd d_Lw_law_217 ?_
        obtain ⟨v6, ev6, hq⟩ := bd hq
        refine E_rs d_Lw_law_218 ev6 ?_
        obtain ⟨q8, eq8, hq⟩ := bd hq
        obtain ⟨p7, ep7, hq⟩ := bd hq
        refine E_cV1I d_Lw_law_219 ck_Lw_17 rfl rfl eq8 (Nat.le_of_ble_eq_true rfl) (Nat.le_of_ble_eq_true rfl) (t_Mo_state (by omega) ep7) ?_
        refine E_jeq (tgt := 1417) d_Lw_law_222 (by decide) (fun c => ?_) (fun c => ?_)
        · rw [if_pos c] at hq
          refine E_inc (v := 6) (ls' := [(3, .int (x3 + 6)), (0, .ref a0), (1, .ref a1), (2, .ref a2)]) 3 d_Lw_law_1417 rfl (Nat.le_of_ble_eq_true rfl) (by decide) rfl ?_
          refine E_goto (tgt := 18) d_Lw_law_1420 (by decide) ?_
          exact E_sub (ks := [1, 2, 3, 0]) rfl <| ih _ _ _ _ _ _ _ _ (by first | assumption | omega) (by first | assumption | omega) hq
        · rw [if_neg c] at hq
          refine E_ic (v := 0) d_Lw_law_225 (by decide) ?_
          exact E_rZ d_Lw_law_226 rfl hq
      · rw [if_neg c0] at hq
        by_cases c1 : (v2 &&& 63) = 1
        · rw [if_pos c1] at hq
          refine E_table (tgt := 227) d_Lw_law_33 (by rw [c1]; decide) (fun _ _ => ⟨194, by rw [c1]; decide, by decide⟩) ?_
          refine E_aln 1 d_Lw_law_227 rfl rfl ?_
          refine E_aln 0 d_Lw_law_228 rfl rfl ?_
          refine E_iln 3 d_Lw_law_229 rfl rfl ?_
          refine E_ic (v := 1) d_Lw_law_230 (by decide) ?_
          refine E_iadd d_Lw_law_231 ?_
          obtain ⟨v9, ev9, hq⟩ := bd hq
          refine E_rs d_Lw_law_232 ev9 ?_
          refine E_aln 0 d_Lw_law_233 rfl rfl ?_
          refine E_iln 3 d_Lw_law_234 rfl rfl ?_
          refine E_ic (v := 2) d_Lw_law_235 (by decide) ?_
          refine E_iadd d_Lw_law_236 ?_
          obtain ⟨v10, ev10, hq⟩ := bd hq
          refine E_rs d_Lw_law_237 ev10 ?_
          refine E_aln 0 d_Lw_law_238 rfl rfl ?_
          refine E_iln 3 d_Lw_law_239 rfl rfl ?_
          refine E_ic (v := 3) d_Lw_law_240 (by decide) ?_
          refine E_iadd d_Lw_law_241 ?_
          obtain ⟨v11, ev11, hq⟩ := bd hq
          refine E_rs d_Lw_law_242 ev11 ?_
          obtain ⟨q13, eq13, hq⟩ := bd hq
          obtain ⟨p12, ep12, hq⟩ := bd hq
          refine E_cV3I d_Lw_law_243 ck_Lw_18 rfl rfl eq13 (Nat.le_of_ble_eq_true rfl) (Nat.le_of_ble_eq_true rfl) (t_Tc_traveller (by omega) ep12) ?_
          refine E_aln 2 d_Lw_law_246 rfl rfl ?_
          refine E_aln 0 d_Lw_law_247 rfl rfl ?_
          refine E_iln 3 d_Lw_law_248 rfl rfl ?_
          refine E_ic (v := 1) d_Lw_law_249 (by decide) ?_
          refine E_iadd d_Lw_law_250 ?_
          obtain ⟨v14, ev14, hq⟩ := bd hq
          refine E_rs d_Lw_law_251 ev14 ?_
          refine E_aln 0 d_Lw_law_252 rfl rfl ?_
          refine E_iln 3 d_Lw_law_253 rfl rfl ?_
          refine E_ic (v := 2) d_Lw_law_254 (by decide) ?_
          refine E_iadd d_Lw_law_255 ?_
          obtain ⟨v15, ev15, hq⟩ := bd hq
          refine E_rs d_Lw_law_256 ev15 ?_
          refine E_aln 0 d_Lw_law_257 rfl rfl ?_
          refine E_iln 3 d_Lw_law_258 rfl rfl ?_
          refine E_ic (v := 3) d_Lw_law_259 (by decide) ?_
          refine E_iadd d_Lw_law_260 ?_
          obtain ⟨v16, ev16, hq⟩ := bd hq
          refine E_rs d_Lw_law_261 ev16 ?_
          obtain ⟨q18, eq18, hq⟩ := bd hq
          obtain ⟨p17, ep17, hq⟩ := bd hq
          refine E_cV3I d_Lw_law_262 ck_Lw_22 rfl rfl eq18 (Nat.le_of_ble_eq_true rfl) (Nat.le_of_ble_eq_true rfl) (t_Mo_traveller (by omega) ep17) ?_
          refine E_jeq (tgt := 1417) d_Lw_law_265 (by decide) (fun c => ?_) (fun c => ?_)
          · rw [if_pos c] at hq
            refine E_inc (v := 6) (ls' := [(3, .int (x3 + 6)), (0, .ref a0), (1, .ref a1), (2, .ref a2)]) 3 d_Lw_law_1417 rfl (Nat.le_of_ble_eq_true rfl) (by decide) rfl ?_
            refine E_goto (tgt := 18) d_Lw_law_1420 (by decide) ?_
            exact E_sub (ks := [1, 2, 3, 0]) rfl <| ih _ _ _ _ _ _ _ _ (by first | assumption | omega) (by first | assumption | omega) hq
          · rw [if_neg c] at hq
            refine E_ic (v := 0) d_Lw_law_268 (by decide) ?_
            exact E_rZ d_Lw_law_269 rfl hq
        · rw [if_neg c1] at hq
          by_cases c2 : (v2 &&& 63) = 2
          · rw [if_pos c2] at hq
            refine E_table (tgt := 270) d_Lw_law_33 (by rw [c2]; decide) (fun _ _ => ⟨237, by rw [c2]; decide, by decide⟩) ?_
            refine E_aln 1 d_Lw_law_270 rfl rfl ?_
            refine E_aln 0 d_Lw_law_271 rfl rfl ?_
            refine E_iln 3 d_Lw_law_272 rfl rfl ?_
            refine E_ic (v := 1) d_Lw_law_273 (by decide) ?_
            refine E_iadd d_Lw_law_274 ?_
            obtain ⟨v19, ev19, hq⟩ := bd hq
            refine E_rs d_Lw_law_275 ev19 ?_
            refine E_aln 0 d_Lw_law_276 rfl rfl ?_
            refine E_iln 3 d_Lw_law_277 rfl rfl ?_
            refine E_ic (v := 2) d_Lw_law_278 (by decide) ?_
            refine E_iadd d_Lw_law_279 ?_
            obtain ⟨v20, ev20, hq⟩ := bd hq
            refine E_rs d_Lw_law_280 ev20 ?_
            refine E_aln 0 d_Lw_law_281 rfl rfl ?_
            refine E_iln 3 d_Lw_law_282 rfl rfl ?_
            refine E_ic (v := 3) d_Lw_law_283 (by decide) ?_
            refine E_iadd d_Lw_law_284 ?_
            obtain ⟨v21, ev21, hq⟩ := bd hq
            refine E_rs d_Lw_law_285 ev21 ?_
            obtain ⟨q23, eq23, hq⟩ := bd hq
            obtain ⟨p22, ep22, hq⟩ := bd hq
            refine E_cV3I d_Lw_law_286 ck_Lw_23 rfl rfl eq23 (Nat.le_of_ble_eq_true rfl) (Nat.le_of_ble_eq_true rfl) (t_Tc_officer (by omega) ep22) ?_
            refine E_aln 2 d_Lw_law_289 rfl rfl ?_
            refine E_aln 0 d_Lw_law_290 rfl rfl ?_
            refine E_iln 3 d_Lw_law_291 rfl rfl ?_
            refine E_ic (v := 1) d_Lw_law_292 (by decide) ?_
            refine E_iadd d_Lw_law_293 ?_
            obtain ⟨v24, ev24, hq⟩ := bd hq
            refine E_rs d_Lw_law_294 ev24 ?_
            refine E_aln 0 d_Lw_law_295 rfl rfl ?_
            refine E_iln 3 d_Lw_law_296 rfl rfl ?_
            refine E_ic (v := 2) d_Lw_law_297 (by decide) ?_
            refine E_iadd d_Lw_law_298 ?_
            obtain ⟨v25, ev25, hq⟩ := bd hq
            refine E_rs d_Lw_law_299 ev25 ?_
            refine E_aln 0 d_Lw_law_300 rfl rfl ?_
            refine E_iln 3 d_Lw_law_301 rfl rfl ?_
            refine E_ic (v := 3) d_Lw_law_302 (by decide) ?_
            refine E_iadd d_Lw_law_303 ?_
            obtain ⟨v26, ev26, hq⟩ := bd hq
            refine E_rs d_Lw_law_304 ev26 ?_
            obtain ⟨q28, eq28, hq⟩ := bd hq
            obtain ⟨p27, ep27, hq⟩ := bd hq
            refine E_cV3I d_Lw_law_305 ck_Lw_26 rfl rfl eq28 (Nat.le_of_ble_eq_true rfl) (Nat.le_of_ble_eq_true rfl) (t_Mo_officer (by omega) ep27) ?_
            refine E_jeq (tgt := 1417) d_Lw_law_308 (by decide) (fun c => ?_) (fun c => ?_)
            · rw [if_pos c] at hq
              refine E_inc (v := 6) (ls' := [(3, .int (x3 + 6)), (0, .ref a0), (1, .ref a1), (2, .ref a2)]) 3 d_Lw_law_1417 rfl (Nat.le_of_ble_eq_true rfl) (by decide) rfl ?_
              refine E_goto (tgt := 18) d_Lw_law_1420 (by decide) ?_
              exact E_sub (ks := [1, 2, 3, 0]) rfl <| ih _ _ _ _ _ _ _ _ (by first | assumption | omega) (by first | assumption | omega) hq
            · rw [if_neg c] at hq
              refine E_ic (v := 0) d_Lw_law_311 (by decide) ?_
              exact E_rZ d_Lw_law_312 rfl hq
          · rw [if_neg c2] at hq
            by_cases c3 : (v2 &&& 63) = 3
            · rw [if_pos c3] at hq
              refine E_table (tgt := 313) d_Lw_law_33 (by rw [c3]; decide) (fun _ _ => ⟨280, by rw [c3]; decide, by decide⟩) ?_
              refine E_aln 1 d_Lw_law_313 rfl rfl ?_
              refine E_aln 0 d_Lw_law_314 rfl rfl ?_
              refine E_iln 3 d_Lw_law_315 rfl rfl ?_
              refine E_ic (v := 1) d_Lw_law_316 (by decide) ?_
              refine E_iadd d_Lw_law_317 ?_
              obtain ⟨v29, ev29, hq⟩ := bd hq
              refine E_rs d_Lw_law_318 ev29 ?_
              refine E_aln 0 d_Lw_law_319 rfl rfl ?_
              refine E_iln 3 d_Lw_law_320 rfl rfl ?_
              refine E_ic (v := 2) d_Lw_law_321 (by decide) ?_
              refine E_iadd d_Lw_law_322 ?_
              obtain ⟨v30, ev30, hq⟩ := bd hq
              refine E_rs d_Lw_law_323 ev30 ?_
              refine E_aln 0 d_Lw_law_324 rfl rfl ?_
              refine E_iln 3 d_Lw_law_325 rfl rfl ?_
              refine E_ic (v := 3) d_Lw_law_326 (by decide) ?_
              refine E_iadd d_Lw_law_327 ?_
              obtain ⟨v31, ev31, hq⟩ := bd hq
              refine E_rs d_Lw_law_328 ev31 ?_
              obtain ⟨q33, eq33, hq⟩ := bd hq
              obtain ⟨p32, ep32, hq⟩ := bd hq
              refine E_cV3I d_Lw_law_329 ck_Lw_27 rfl rfl eq33 (Nat.le_of_ble_eq_true rfl) (Nat.le_of_ble_eq_true rfl) (t_Tc_set (by omega) ep32) ?_
              refine E_aln 2 d_Lw_law_332 rfl rfl ?_
              refine E_aln 0 d_Lw_law_333 rfl rfl ?_
              refine E_iln 3 d_Lw_law_334 rfl rfl ?_
              refine E_ic (v := 1) d_Lw_law_335 (by decide) ?_
              refine E_iadd d_Lw_law_336 ?_
              obtain ⟨v34, ev34, hq⟩ := bd hq
              refine E_rs d_Lw_law_337 ev34 ?_
              refine E_aln 0 d_Lw_law_338 rfl rfl ?_
              refine E_iln 3 d_Lw_law_339 rfl rfl ?_
              refine E_ic (v := 2) d_Lw_law_340 (by decide) ?_
              refine E_iadd d_Lw_law_341 ?_
              obtain ⟨v35, ev35, hq⟩ := bd hq
              refine E_rs d_Lw_law_342 ev35 ?_
              refine E_aln 0 d_Lw_law_343 rfl rfl ?_
              refine E_iln 3 d_Lw_law_344 rfl rfl ?_
              refine E_ic (v := 3) d_Lw_law_345 (by decide) ?_
              refine E_iadd d_Lw_law_346 ?_
              obtain ⟨v36, ev36, hq⟩ := bd hq
              refine E_rs d_Lw_law_347 ev36 ?_
              obtain ⟨q38, eq38, hq⟩ := bd hq
              obtain ⟨p37, ep37, hq⟩ := bd hq
              refine E_cV3I d_Lw_law_348 ck_Lw_31 rfl rfl eq38 (Nat.le_of_ble_eq_true rfl) (Nat.le_of_ble_eq_true rfl) (t_Mo_set (by omega) ep37) ?_
              refine E_jeq (tgt := 1417) d_Lw_law_351 (by decide) (fun c => ?_) (fun c => ?_)
              · rw [if_pos c] at hq
                refine E_inc (v := 6) (ls' := [(3, .int (x3 + 6)), (0, .ref a0), (1, .ref a1), (2, .ref a2)]) 3 d_Lw_law_1417 rfl (Nat.le_of_ble_eq_true rfl) (by decide) rfl ?_
                refine E_goto (tgt := 18) d_Lw_law_1420 (by decide) ?_
                exact E_sub (ks := [1, 2, 3, 0]) rfl <| ih _ _ _ _ _ _ _ _ (by first | assumption | omega) (by first | assumption | omega) hq
              · rw [if_neg c] at hq
                refine E_ic (v := 0) d_Lw_law_354 (by decide) ?_
                exact E_rZ d_Lw_law_355 rfl hq
            · rw [if_neg c3] at hq
              by_cases c4 : (v2 &&& 63) = 4
              · rw [if_pos c4] at hq
                refine E_table (tgt := 356) d_Lw_law_33 (by rw [c4]; decide) (fun _ _ => ⟨323, by rw [c4]; decide, by decide⟩) ?_
                refine E_aln 1 d_Lw_law_356 rfl rfl ?_
                refine E_aln 0 d_Lw_law_357 rfl rfl ?_
                refine E_iln 3 d_Lw_law_358 rfl rfl ?_
                refine E_ic (v := 1) d_Lw_law_359 (by decide) ?_
                refine E_iadd d_Lw_law_360 ?_
                obtain ⟨v39, ev39, hq⟩ := bd hq
                refine E_rs d_Lw_law_361 ev39 ?_
                refine E_aln 0 d_Lw_law_362 rfl rfl ?_
                refine E_iln 3 d_Lw_law_363 rfl rfl ?_
                refine E_ic (v := 2) d_Lw_law_364 (by decide) ?_
                refine E_iadd d_Lw_law_365 ?_
                obtain ⟨v40, ev40, hq⟩ := bd hq
                refine E_rs d_Lw_law_366 ev40 ?_
                refine E_aln 0 d_Lw_law_367 rfl rfl ?_
                refine E_iln 3 d_Lw_law_368 rfl rfl ?_
                refine E_ic (v := 3) d_Lw_law_369 (by decide) ?_
                refine E_iadd d_Lw_law_370 ?_
                obtain ⟨v41, ev41, hq⟩ := bd hq
                refine E_rs d_Lw_law_371 ev41 ?_
                obtain ⟨q43, eq43, hq⟩ := bd hq
                obtain ⟨p42, ep42, hq⟩ := bd hq
                refine E_cV3I d_Lw_law_372 ck_Lw_32 rfl rfl eq43 (Nat.le_of_ble_eq_true rfl) (Nat.le_of_ble_eq_true rfl) (t_Tc_act (by omega) ep42) ?_
                refine E_aln 2 d_Lw_law_375 rfl rfl ?_
                refine E_aln 0 d_Lw_law_376 rfl rfl ?_
                refine E_iln 3 d_Lw_law_377 rfl rfl ?_
                refine E_ic (v := 1) d_Lw_law_378 (by decide) ?_
                refine E_iadd d_Lw_law_379 ?_
                obtain ⟨v44, ev44, hq⟩ := bd hq
                refine E_rs d_Lw_law_380 ev44 ?_
                refine E_aln 0 d_Lw_law_381 rfl rfl ?_
                refine E_iln 3 d_Lw_law_382 rfl rfl ?_
                refine E_ic (v := 2) d_Lw_law_383 (by decide) ?_
                refine E_iadd d_Lw_law_384 ?_
                obtain ⟨v45, ev45, hq⟩ := bd hq
                refine E_rs d_Lw_law_385 ev45 ?_
                refine E_aln 0 d_Lw_law_386 rfl rfl ?_
                refine E_iln 3 d_Lw_law_387 rfl rfl ?_
                refine E_ic (v := 3) d_Lw_law_388 (by decide) ?_
                refine E_iadd d_Lw_law_389 ?_
                obtain ⟨v46, ev46, hq⟩ := bd hq
                refine E_rs d_Lw_law_390 ev46 ?_
                obtain ⟨q48, eq48, hq⟩ := bd hq
                obtain ⟨p47, ep47, hq⟩ := bd hq
                refine E_cV3I d_Lw_law_391 ck_Lw_35 rfl rfl eq48 (Nat.le_of_ble_eq_true rfl) (Nat.le_of_ble_eq_true rfl) (t_Mo_act (by omega) ep47) ?_
                refine E_jeq (tgt := 1417) d_Lw_law_394 (by decide) (fun c => ?_) (fun c => ?_)
                · rw [if_pos c] at hq
                  refine E_inc (v := 6) (ls' := [(3, .int (x3 + 6)), (0, .ref a0), (1, .ref a1), (2, .ref a2)]) 3 d_Lw_law_1417 rfl (Nat.le_of_ble_eq_true rfl) (by decide) rfl ?_
                  refine E_goto (tgt := 18) d_Lw_law_1420 (by decide) ?_
                  exact E_sub (ks := [1, 2, 3, 0]) rfl <| ih _ _ _ _ _ _ _ _ (by first | assumption | omega) (by first | assumption | omega) hq
                · rw [if_neg c] at hq
                  refine E_ic (v := 0) d_Lw_law_397 (by decide) ?_
                  exact E_rZ d_Lw_law_398 rfl hq
              · rw [if_neg c4] at hq
                by_cases c5 : (v2 &&& 63) = 5
                · rw [if_pos c5] at hq
                  refine E_table (tgt := 399) d_Lw_law_33 (by rw [c5]; decide) (fun _ _ => ⟨366, by rw [c5]; decide, by decide⟩) ?_
                  refine E_aln 1 d_Lw_law_399 rfl rfl ?_
                  refine E_aln 0 d_Lw_law_400 rfl rfl ?_
                  refine E_iln 3 d_Lw_law_401 rfl rfl ?_
                  refine E_ic (v := 1) d_Lw_law_402 (by decide) ?_
                  refine E_iadd d_Lw_law_403 ?_
                  obtain ⟨v49, ev49, hq⟩ := bd hq
                  refine E_rs d_Lw_law_404 ev49 ?_
                  refine E_aln 0 d_Lw_law_405 rfl rfl ?_
                  refine E_iln 3 d_Lw_law_406 rfl rfl ?_
                  refine E_ic (v := 2) d_Lw_law_407 (by decide) ?_
                  refine E_iadd d_Lw_law_408 ?_
                  obtain ⟨v50, ev50, hq⟩ := bd hq
                  refine E_rs d_Lw_law_409 ev50 ?_
                  obtain ⟨q52, eq52, hq⟩ := bd hq
                  obtain ⟨p51, ep51, hq⟩ := bd hq
                  refine E_cV2I d_Lw_law_410 ck_Lw_36 rfl rfl eq52 (Nat.le_of_ble_eq_true rfl) (Nat.le_of_ble_eq_true rfl) (t_Tc_weigh (by omega) ep51) ?_
                  refine E_aln 2 d_Lw_law_413 rfl rfl ?_
                  refine E_aln 0 d_Lw_law_414 rfl rfl ?_
                  refine E_iln 3 d_Lw_law_415 rfl rfl ?_
                  refine E_ic (v := 1) d_Lw_law_416 (by decide) ?_
                  refine E_iadd d_Lw_law_417 ?_
                  obtain ⟨v53, ev53, hq⟩ := bd hq
                  refine E_rs d_Lw_law_418 ev53 ?_
                  refine E_aln 0 d_Lw_law_419 rfl rfl ?_
                  refine E_iln 3 d_Lw_law_420 rfl rfl ?_
                  refine E_ic (v := 2) d_Lw_law_421 (by decide) ?_
                  refine E_iadd d_Lw_law_422 ?_
                  obtain ⟨v54, ev54, hq⟩ := bd hq
                  refine E_rs d_Lw_law_423 ev54 ?_
                  obtain ⟨q56, eq56, hq⟩ := bd hq
                  obtain ⟨p55, ep55, hq⟩ := bd hq
                  refine E_cV2I d_Lw_law_424 ck_Lw_40 rfl rfl eq56 (Nat.le_of_ble_eq_true rfl) (Nat.le_of_ble_eq_true rfl) (t_Mo_weigh (by omega) ep55) ?_
                  refine E_jeq (tgt := 1417) d_Lw_law_427 (by decide) (fun c => ?_) (fun c => ?_)
                  · rw [if_pos c] at hq
                    refine E_inc (v := 6) (ls' := [(3, .int (x3 + 6)), (0, .ref a0), (1, .ref a1), (2, .ref a2)]) 3 d_Lw_law_1417 rfl (Nat.le_of_ble_eq_true rfl) (by decide) rfl ?_
                    refine E_goto (tgt := 18) d_Lw_law_1420 (by decide) ?_
                    exact E_sub (ks := [1, 2, 3, 0]) rfl <| ih _ _ _ _ _ _ _ _ (by first | assumption | omega) (by first | assumption | omega) hq
                  · rw [if_neg c] at hq
                    refine E_ic (v := 0) d_Lw_law_430 (by decide) ?_
                    exact E_rZ d_Lw_law_431 rfl hq
                · rw [if_neg c5] at hq
                  by_cases c6 : (v2 &&& 63) = 6
                  · rw [if_pos c6] at hq
                    refine E_table (tgt := 432) d_Lw_law_33 (by rw [c6]; decide) (fun _ _ => ⟨399, by rw [c6]; decide, by decide⟩) ?_
                    refine E_aln 1 d_Lw_law_432 rfl rfl ?_
                    refine E_aln 0 d_Lw_law_433 rfl rfl ?_
                    refine E_iln 3 d_Lw_law_434 rfl rfl ?_
                    refine E_ic (v := 1) d_Lw_law_435 (by decide) ?_
                    refine E_iadd d_Lw_law_436 ?_
                    obtain ⟨v57, ev57, hq⟩ := bd hq
                    refine E_rs d_Lw_law_437 ev57 ?_
                    obtain ⟨q59, eq59, hq⟩ := bd hq
                    obtain ⟨p58, ep58, hq⟩ := bd hq
                    refine E_cV1I d_Lw_law_438 ck_Lw_41 rfl rfl eq59 (Nat.le_of_ble_eq_true rfl) (Nat.le_of_ble_eq_true rfl) (t_Tc_hours (by omega) ep58) ?_
                    refine E_aln 2 d_Lw_law_441 rfl rfl ?_
                    refine E_aln 0 d_Lw_law_442 rfl rfl ?_
                    refine E_iln 3 d_Lw_law_443 rfl rfl ?_
                    refine E_ic (v := 1) d_Lw_law_444 (by decide) ?_
                    refine E_iadd d_Lw_law_445 ?_
                    obtain ⟨v60, ev60, hq⟩ := bd hq
                    refine E_rs d_Lw_law_446 ev60 ?_
                    obtain ⟨q62, eq62, hq⟩ := bd hq
                    obtain ⟨p61, ep61, hq⟩ := bd hq
                    refine E_cV1I d_Lw_law_447 ck_Lw_44 rfl rfl eq62 (Nat.le_of_ble_eq_true rfl) (Nat.le_of_ble_eq_true rfl) (t_Mo_hours (by omega) ep61) ?_
                    refine E_jeq (tgt := 1417) d_Lw_law_450 (by decide) (fun c => ?_) (fun c => ?_)
                    · rw [if_pos c] at hq
                      refine E_inc (v := 6) (ls' := [(3, .int (x3 + 6)), (0, .ref a0), (1, .ref a1), (2, .ref a2)]) 3 d_Lw_law_1417 rfl (Nat.le_of_ble_eq_true rfl) (by decide) rfl ?_
                      refine E_goto (tgt := 18) d_Lw_law_1420 (by decide) ?_
                      exact E_sub (ks := [1, 2, 3, 0]) rfl <| ih _ _ _ _ _ _ _ _ (by first | assumption | omega) (by first | assumption | omega) hq
                    · rw [if_neg c] at hq
                      refine E_ic (v := 0) d_Lw_law_453 (by decide) ?_
                      exact E_rZ d_Lw_law_454 rfl hq
                  · rw [if_neg c6] at hq
                    by_cases c7 : (v2 &&& 63) = 7
                    · rw [if_pos c7] at hq
                      refine E_table (tgt := 455) d_Lw_law_33 (by rw [c7]; decide) (fun _ _ => ⟨422, by rw [c7]; decide, by decide⟩) ?_
                      refine E_aln 1 d_Lw_law_455 rfl rfl ?_
                      refine E_aln 0 d_Lw_law_456 rfl rfl ?_
                      refine E_iln 3 d_Lw_law_457 rfl rfl ?_
                      refine E_ic (v := 1) d_Lw_law_458 (by decide) ?_
                      refine E_iadd d_Lw_law_459 ?_
                      obtain ⟨v63, ev63, hq⟩ := bd hq
                      refine E_rs d_Lw_law_460 ev63 ?_
                      refine E_aln 0 d_Lw_law_461 rfl rfl ?_
                      refine E_iln 3 d_Lw_law_462 rfl rfl ?_
                      refine E_ic (v := 2) d_Lw_law_463 (by decide) ?_
                      refine E_iadd d_Lw_law_464 ?_
                      obtain ⟨v64, ev64, hq⟩ := bd hq
                      refine E_rs d_Lw_law_465 ev64 ?_
                      refine E_aln 0 d_Lw_law_466 rfl rfl ?_
                      refine E_iln 3 d_Lw_law_467 rfl rfl ?_
                      refine E_ic (v := 3) d_Lw_law_468 (by decide) ?_
                      refine E_iadd d_Lw_law_469 ?_
                      obtain ⟨v65, ev65, hq⟩ := bd hq
                      refine E_rs d_Lw_law_470 ev65 ?_
                      refine E_aln 0 d_Lw_law_471 rfl rfl ?_
                      refine E_iln 3 d_Lw_law_472 rfl rfl ?_
                      refine E_ic (v := 4) d_Lw_law_473 (by decide) ?_
                      refine E_iadd d_Lw_law_474 ?_
                      obtain ⟨v66, ev66, hq⟩ := bd hq
                      refine E_rs d_Lw_law_475 ev66 ?_
                      refine E_aln 0 d_Lw_law_476 rfl rfl ?_
                      refine E_iln 3 d_Lw_law_477 rfl rfl ?_
                      refine E_ic (v := 5) d_Lw_law_478 (by decide) ?_
                      refine E_iadd d_Lw_law_479 ?_
                      obtain ⟨v67, ev67, hq⟩ := bd hq
                      refine E_rs d_Lw_law_480 ev67 ?_
                      obtain ⟨q69, eq69, hq⟩ := bd hq
                      obtain ⟨p68, ep68, hq⟩ := bd hq
                      refine E_cV5I d_Lw_law_481 ck_Lw_45 rfl rfl eq69 (Nat.le_of_ble_eq_true rfl) (Nat.le_of_ble_eq_true rfl) (t_Tc_feed (by omega) ep68) ?_
                      refine E_aln 2 d_Lw_law_484 rfl rfl ?_
                      refine E_aln 0 d_Lw_law_485 rfl rfl ?_
                      refine E_iln 3 d_Lw_law_486 rfl rfl ?_
                      refine E_ic (v := 1) d_Lw_law_487 (by decide) ?_
                      refine E_iadd d_Lw_law_488 ?_
                      obtain ⟨v70, ev70, hq⟩ := bd hq
                      refine E_rs d_Lw_law_489 ev70 ?_
                      refine E_aln 0 d_Lw_law_490 rfl rfl ?_
                      refine E_iln 3 d_Lw_law_491 rfl rfl ?_
                      refine E_ic (v := 2) d_Lw_law_492 (by decide) ?_
                      refine E_iadd d_Lw_law_493 ?_
                      obtain ⟨v71, ev71, hq⟩ := bd hq
                      refine E_rs d_Lw_law_494 ev71 ?_
                      refine E_aln 0 d_Lw_law_495 rfl rfl ?_
                      refine E_iln 3 d_Lw_law_496 rfl rfl ?_
                      refine E_ic (v := 3) d_Lw_law_497 (by decide) ?_
                      refine E_iadd d_Lw_law_498 ?_
                      obtain ⟨v72, ev72, hq⟩ := bd hq
                      refine E_rs d_Lw_law_499 ev72 ?_
                      refine E_aln 0 d_Lw_law_500 rfl rfl ?_
                      refine E_iln 3 d_Lw_law_501 rfl rfl ?_
                      refine E_ic (v := 4) d_Lw_law_502 (by decide) ?_
                      refine E_iadd d_Lw_law_503 ?_
                      obtain ⟨v73, ev73, hq⟩ := bd hq
                      refine E_rs d_Lw_law_504 ev73 ?_
                      refine E_aln 0 d_Lw_law_505 rfl rfl ?_
                      refine E_iln 3 d_Lw_law_506 rfl rfl ?_
                      refine E_ic (v := 5) d_Lw_law_507 (by decide) ?_
                      refine E_iadd d_Lw_law_508 ?_
                      obtain ⟨v74, ev74, hq⟩ := bd hq
                      refine E_rs d_Lw_law_509 ev74 ?_
                      obtain ⟨q76, eq76, hq⟩ := bd hq
                      obtain ⟨p75, ep75, hq⟩ := bd hq
                      refine E_cV5I d_Lw_law_510 ck_Lw_49 rfl rfl eq76 (Nat.le_of_ble_eq_true rfl) (Nat.le_of_ble_eq_true rfl) (t_Mo_feed (by omega) ep75) ?_
                      refine E_jeq (tgt := 1417) d_Lw_law_513 (by decide) (fun c => ?_) (fun c => ?_)
                      · rw [if_pos c] at hq
                        refine E_inc (v := 6) (ls' := [(3, .int (x3 + 6)), (0, .ref a0), (1, .ref a1), (2, .ref a2)]) 3 d_Lw_law_1417 rfl (Nat.le_of_ble_eq_true rfl) (by decide) rfl ?_
                        refine E_goto (tgt := 18) d_Lw_law_1420 (by decide) ?_
                        exact E_sub (ks := [1, 2, 3, 0]) rfl <| ih _ _ _ _ _ _ _ _ (by first | assumption | omega) (by first | assumption | omega) hq
                      · rw [if_neg c] at hq
                        refine E_ic (v := 0) d_Lw_law_516 (by decide) ?_
                        exact E_rZ d_Lw_law_517 rfl hq
                    · rw [if_neg c7] at hq
                      by_cases c8 : (v2 &&& 63) = 8
                      · rw [if_pos c8] at hq
                        refine E_table (tgt := 518) d_Lw_law_33 (by rw [c8]; decide) (fun _ _ => ⟨485, by rw [c8]; decide, by decide⟩) ?_
                        refine E_aln 1 d_Lw_law_518 rfl rfl ?_
                        refine E_aln 0 d_Lw_law_519 rfl rfl ?_
                        refine E_iln 3 d_Lw_law_520 rfl rfl ?_
                        refine E_ic (v := 1) d_Lw_law_521 (by decide) ?_
                        refine E_iadd d_Lw_law_522 ?_
                        obtain ⟨v77, ev77, hq⟩ := bd hq
                        refine E_rs d_Lw_law_523 ev77 ?_
                        obtain ⟨q79, eq79, hq⟩ := bd hq
                        obtain ⟨p78, ep78, hq⟩ := bd hq
                        refine E_cV1I d_Lw_law_524 ck_Lw_50 rfl rfl eq79 (Nat.le_of_ble_eq_true rfl) (Nat.le_of_ble_eq_true rfl) (t_Tc_end (by omega) ep78) ?_
                        refine E_aln 2 d_Lw_law_527 rfl rfl ?_
                        refine E_aln 0 d_Lw_law_528 rfl rfl ?_
                        refine E_iln 3 d_Lw_law_529 rfl rfl ?_
                        refine E_ic (v := 1) d_Lw_law_530 (by decide) ?_
                        refine E_iadd d_Lw_law_531 ?_
                        obtain ⟨v80, ev80, hq⟩ := bd hq
                        refine E_rs d_Lw_law_532 ev80 ?_
                        obtain ⟨q82, eq82, hq⟩ := bd hq
                        obtain ⟨p81, ep81, hq⟩ := bd hq
                        refine E_cV1I d_Lw_law_533 ck_Lw_54 rfl rfl eq82 (Nat.le_of_ble_eq_true rfl) (Nat.le_of_ble_eq_true rfl) (t_Mo_end (by omega) ep81) ?_
                        refine E_jeq (tgt := 1417) d_Lw_law_536 (by decide) (fun c => ?_) (fun c => ?_)
                        · rw [if_pos c] at hq
                          refine E_inc (v := 6) (ls' := [(3, .int (x3 + 6)), (0, .ref a0), (1, .ref a1), (2, .ref a2)]) 3 d_Lw_law_1417 rfl (Nat.le_of_ble_eq_true rfl) (by decide) rfl ?_
                          refine E_goto (tgt := 18) d_Lw_law_1420 (by decide) ?_
                          exact E_sub (ks := [1, 2, 3, 0]) rfl <| ih _ _ _ _ _ _ _ _ (by first | assumption | omega) (by first | assumption | omega) hq
                        · rw [if_neg c] at hq
                          refine E_ic (v := 0) d_Lw_law_539 (by decide) ?_
                          exact E_rZ d_Lw_law_540 rfl hq
                      · rw [if_neg c8] at hq
                        by_cases c9 : (v2 &&& 63) = 9
                        · rw [if_pos c9] at hq
                          refine E_table (tgt := 541) d_Lw_law_33 (by rw [c9]; decide) (fun _ _ => ⟨508, by rw [c9]; decide, by decide⟩) ?_
                          refine E_aln 1 d_Lw_law_541 rfl rfl ?_
                          refine E_aln 0 d_Lw_law_542 rfl rfl ?_
                          refine E_iln 3 d_Lw_law_543 rfl rfl ?_
                          refine E_ic (v := 1) d_Lw_law_544 (by decide) ?_
                          refine E_iadd d_Lw_law_545 ?_
                          obtain ⟨v83, ev83, hq⟩ := bd hq
                          refine E_rs d_Lw_law_546 ev83 ?_
                          obtain ⟨q85, eq85, hq⟩ := bd hq
                          obtain ⟨p84, ep84, hq⟩ := bd hq
                          refine E_cV1I d_Lw_law_547 ck_Lw_55 rfl rfl eq85 (Nat.le_of_ble_eq_true rfl) (Nat.le_of_ble_eq_true rfl) (t_Tc_text (by omega) ep84) ?_
                          refine E_aln 2 d_Lw_law_550 rfl rfl ?_
                          refine E_aln 0 d_Lw_law_551 rfl rfl ?_
                          refine E_iln 3 d_Lw_law_552 rfl rfl ?_
                          refine E_ic (v := 1) d_Lw_law_553 (by decide) ?_
                          refine E_iadd d_Lw_law_554 ?_
                          obtain ⟨v86, ev86, hq⟩ := bd hq
                          refine E_rs d_Lw_law_555 ev86 ?_
                          obtain ⟨q88, eq88, hq⟩ := bd hq
                          obtain ⟨p87, ep87, hq⟩ := bd hq
                          refine E_cV1I d_Lw_law_556 ck_Lw_58 rfl rfl eq88 (Nat.le_of_ble_eq_true rfl) (Nat.le_of_ble_eq_true rfl) (t_Mo_text (by omega) ep87) ?_
                          refine E_jeq (tgt := 1417) d_Lw_law_559 (by decide) (fun c => ?_) (fun c => ?_)
                          · rw [if_pos c] at hq
                            refine E_inc (v := 6) (ls' := [(3, .int (x3 + 6)), (0, .ref a0), (1, .ref a1), (2, .ref a2)]) 3 d_Lw_law_1417 rfl (Nat.le_of_ble_eq_true rfl) (by decide) rfl ?_
                            refine E_goto (tgt := 18) d_Lw_law_1420 (by decide) ?_
                            exact E_sub (ks := [1, 2, 3, 0]) rfl <| ih _ _ _ _ _ _ _ _ (by first | assumption | omega) (by first | assumption | omega) hq
                          · rw [if_neg c] at hq
                            refine E_ic (v := 0) d_Lw_law_562 (by decide) ?_
                            exact E_rZ d_Lw_law_563 rfl hq
                        · rw [if_neg c9] at hq
                          by_cases c10 : (v2 &&& 63) = 10
                          · rw [if_pos c10] at hq
                            refine E_table (tgt := 564) d_Lw_law_33 (by rw [c10]; decide) (fun _ _ => ⟨531, by rw [c10]; decide, by decide⟩) ?_
                            refine E_aln 1 d_Lw_law_564 rfl rfl ?_
                            refine E_aln 0 d_Lw_law_565 rfl rfl ?_
                            refine E_iln 3 d_Lw_law_566 rfl rfl ?_
                            refine E_ic (v := 1) d_Lw_law_567 (by decide) ?_
                            refine E_iadd d_Lw_law_568 ?_
                            obtain ⟨v89, ev89, hq⟩ := bd hq
                            refine E_rs d_Lw_law_569 ev89 ?_
                            obtain ⟨q91, eq91, hq⟩ := bd hq
                            obtain ⟨p90, ep90, hq⟩ := bd hq
                            refine E_cV1I d_Lw_law_570 ck_Lw_59 rfl rfl eq91 (Nat.le_of_ble_eq_true rfl) (Nat.le_of_ble_eq_true rfl) (t_Tc_fault (by omega) ep90) ?_
                            refine E_aln 2 d_Lw_law_573 rfl rfl ?_
                            refine E_aln 0 d_Lw_law_574 rfl rfl ?_
                            refine E_iln 3 d_Lw_law_575 rfl rfl ?_
                            refine E_ic (v := 1) d_Lw_law_576 (by decide) ?_
                            refine E_iadd d_Lw_law_577 ?_
                            obtain ⟨v92, ev92, hq⟩ := bd hq
                            refine E_rs d_Lw_law_578 ev92 ?_
                            obtain ⟨q94, eq94, hq⟩ := bd hq
                            obtain ⟨p93, ep93, hq⟩ := bd hq
                            refine E_cV1I d_Lw_law_579 ck_Lw_62 rfl rfl eq94 (Nat.le_of_ble_eq_true rfl) (Nat.le_of_ble_eq_true rfl) (t_Mo_fault (by omega) ep93) ?_
                            refine E_jeq (tgt := 1417) d_Lw_law_582 (by decide) (fun c => ?_) (fun c => ?_)
                            · rw [if_pos c] at hq
                              refine E_inc (v := 6) (ls' := [(3, .int (x3 + 6)), (0, .ref a0), (1, .ref a1), (2, .ref a2)]) 3 d_Lw_law_1417 rfl (Nat.le_of_ble_eq_true rfl) (by decide) rfl ?_
                              refine E_goto (tgt := 18) d_Lw_law_1420 (by decide) ?_
                              exact E_sub (ks := [1, 2, 3, 0]) rfl <| ih _ _ _ _ _ _ _ _ (by first | assumption | omega) (by first | assumption | omega) hq
                            · rw [if_neg c] at hq
                              refine E_ic (v := 0) d_Lw_law_585 (by decide) ?_
                              exact E_rZ d_Lw_law_586 rfl hq
                          · rw [if_neg c10] at hq
                            by_cases c11 : (v2 &&& 63) = 11
                            · rw [if_pos c11] at hq
                              refine E_table (tgt := 587) d_Lw_law_33 (by rw [c11]; decide) (fun _ _ => ⟨554, by rw [c11]; decide, by decide⟩) ?_
                              refine E_aln 1 d_Lw_law_587 rfl rfl ?_
                              refine E_aln 0 d_Lw_law_588 rfl rfl ?_
                              refine E_iln 3 d_Lw_law_589 rfl rfl ?_
                              refine E_ic (v := 1) d_Lw_law_590 (by decide) ?_
                              refine E_iadd d_Lw_law_591 ?_
                              obtain ⟨v95, ev95, hq⟩ := bd hq
                              refine E_rs d_Lw_law_592 ev95 ?_
                              refine E_aln 0 d_Lw_law_593 rfl rfl ?_
                              refine E_iln 3 d_Lw_law_594 rfl rfl ?_
                              refine E_ic (v := 2) d_Lw_law_595 (by decide) ?_
                              refine E_iadd d_Lw_law_596 ?_
                              obtain ⟨v96, ev96, hq⟩ := bd hq
                              refine E_rs d_Lw_law_597 ev96 ?_
                              obtain ⟨q98, eq98, hq⟩ := bd hq
                              obtain ⟨p97, ep97, hq⟩ := bd hq
                              refine E_cV2I d_Lw_law_598 ck_Lw_63 rfl rfl eq98 (Nat.le_of_ble_eq_true rfl) (Nat.le_of_ble_eq_true rfl) (t_Tc_of (by omega) ep97) ?_
                              refine E_aln 2 d_Lw_law_601 rfl rfl ?_
                              refine E_aln 0 d_Lw_law_602 rfl rfl ?_
                              refine E_iln 3 d_Lw_law_603 rfl rfl ?_
                              refine E_ic (v := 1) d_Lw_law_604 (by decide) ?_
                              refine E_iadd d_Lw_law_605 ?_
                              obtain ⟨v99, ev99, hq⟩ := bd hq
                              refine E_rs d_Lw_law_606 ev99 ?_
                              refine E_aln 0 d_Lw_law_607 rfl rfl ?_
                              refine E_iln 3 d_Lw_law_608 rfl rfl ?_
                              refine E_ic (v := 2) d_Lw_law_609 (by decide) ?_
                              refine E_iadd d_Lw_law_610 ?_
                              obtain ⟨v100, ev100, hq⟩ := bd hq
                              refine E_rs d_Lw_law_611 ev100 ?_
                              obtain ⟨q102, eq102, hq⟩ := bd hq
                              obtain ⟨p101, ep101, hq⟩ := bd hq
                              refine E_cV2I d_Lw_law_612 ck_Lw_66 rfl rfl eq102 (Nat.le_of_ble_eq_true rfl) (Nat.le_of_ble_eq_true rfl) (t_Mo_of (by omega) ep101) ?_
                              refine E_jeq (tgt := 1417) d_Lw_law_615 (by decide) (fun c => ?_) (fun c => ?_)
                              · rw [if_pos c] at hq
                                refine E_inc (v := 6) (ls' := [(3, .int (x3 + 6)), (0, .ref a0), (1, .ref a1), (2, .ref a2)]) 3 d_Lw_law_1417 rfl (Nat.le_of_ble_eq_true rfl) (by decide) rfl ?_
                                refine E_goto (tgt := 18) d_Lw_law_1420 (by decide) ?_
                                exact E_sub (ks := [1, 2, 3, 0]) rfl <| ih _ _ _ _ _ _ _ _ (by first | assumption | omega) (by first | assumption | omega) hq
                              · rw [if_neg c] at hq
                                refine E_ic (v := 0) d_Lw_law_618 (by decide) ?_
                                exact E_rZ d_Lw_law_619 rfl hq
                            · rw [if_neg c11] at hq
                              by_cases c12 : (v2 &&& 63) = 12
                              · rw [if_pos c12] at hq
                                refine E_table (tgt := 620) d_Lw_law_33 (by rw [c12]; decide) (fun _ _ => ⟨587, by rw [c12]; decide, by decide⟩) ?_
                                refine E_aln 1 d_Lw_law_620 rfl rfl ?_
                                refine E_aln 0 d_Lw_law_621 rfl rfl ?_
                                refine E_iln 3 d_Lw_law_622 rfl rfl ?_
                                refine E_ic (v := 1) d_Lw_law_623 (by decide) ?_
                                refine E_iadd d_Lw_law_624 ?_
                                obtain ⟨v103, ev103, hq⟩ := bd hq
                                refine E_rs d_Lw_law_625 ev103 ?_
                                refine E_aln 0 d_Lw_law_626 rfl rfl ?_
                                refine E_iln 3 d_Lw_law_627 rfl rfl ?_
                                refine E_ic (v := 2) d_Lw_law_628 (by decide) ?_
                                refine E_iadd d_Lw_law_629 ?_
                                obtain ⟨v104, ev104, hq⟩ := bd hq
                                refine E_rs d_Lw_law_630 ev104 ?_
                                obtain ⟨q106, eq106, hq⟩ := bd hq
                                obtain ⟨p105, ep105, hq⟩ := bd hq
                                refine E_cV2I d_Lw_law_631 ck_Lw_67 rfl rfl eq106 (Nat.le_of_ble_eq_true rfl) (Nat.le_of_ble_eq_true rfl) (t_Tc_who (by omega) ep105) ?_
                                refine E_aln 2 d_Lw_law_634 rfl rfl ?_
                                refine E_aln 0 d_Lw_law_635 rfl rfl ?_
                                refine E_iln 3 d_Lw_law_636 rfl rfl ?_
                                refine E_ic (v := 1) d_Lw_law_637 (by decide) ?_
                                refine E_iadd d_Lw_law_638 ?_
                                obtain ⟨v107, ev107, hq⟩ := bd hq
                                refine E_rs d_Lw_law_639 ev107 ?_
                                refine E_aln 0 d_Lw_law_640 rfl rfl ?_
                                refine E_iln 3 d_Lw_law_641 rfl rfl ?_
                                refine E_ic (v := 2) d_Lw_law_642 (by decide) ?_
                                refine E_iadd d_Lw_law_643 ?_
                                obtain ⟨v108, ev108, hq⟩ := bd hq
                                refine E_rs d_Lw_law_644 ev108 ?_
                                obtain ⟨q110, eq110, hq⟩ := bd hq
                                obtain ⟨p109, ep109, hq⟩ := bd hq
                                refine E_cV2I d_Lw_law_645 ck_Lw_70 rfl rfl eq110 (Nat.le_of_ble_eq_true rfl) (Nat.le_of_ble_eq_true rfl) (t_Mo_who (by omega) ep109) ?_
                                refine E_jeq (tgt := 1417) d_Lw_law_648 (by decide) (fun c => ?_) (fun c => ?_)
                                · rw [if_pos c] at hq
                                  refine E_inc (v := 6) (ls' := [(3, .int (x3 + 6)), (0, .ref a0), (1, .ref a1), (2, .ref a2)]) 3 d_Lw_law_1417 rfl (Nat.le_of_ble_eq_true rfl) (by decide) rfl ?_
                                  refine E_goto (tgt := 18) d_Lw_law_1420 (by decide) ?_
                                  exact E_sub (ks := [1, 2, 3, 0]) rfl <| ih _ _ _ _ _ _ _ _ (by first | assumption | omega) (by first | assumption | omega) hq
                                · rw [if_neg c] at hq
                                  refine E_ic (v := 0) d_Lw_law_651 (by decide) ?_
                                  exact E_rZ d_Lw_law_652 rfl hq
                              · rw [if_neg c12] at hq
                                by_cases c13 : (v2 &&& 63) = 13
                                · rw [if_pos c13] at hq
                                  refine E_table (tgt := 653) d_Lw_law_33 (by rw [c13]; decide) (fun _ _ => ⟨620, by rw [c13]; decide, by decide⟩) ?_
                                  refine E_aln 1 d_Lw_law_653 rfl rfl ?_
                                  refine E_aln 0 d_Lw_law_654 rfl rfl ?_
                                  refine E_iln 3 d_Lw_law_655 rfl rfl ?_
                                  refine E_ic (v := 1) d_Lw_law_656 (by decide) ?_
                                  refine E_iadd d_Lw_law_657 ?_
                                  obtain ⟨v111, ev111, hq⟩ := bd hq
                                  refine E_rs d_Lw_law_658 ev111 ?_
                                  refine E_aln 0 d_Lw_law_659 rfl rfl ?_
                                  refine E_iln 3 d_Lw_law_660 rfl rfl ?_
                                  refine E_ic (v := 2) d_Lw_law_661 (by decide) ?_
                                  refine E_iadd d_Lw_law_662 ?_
                                  obtain ⟨v112, ev112, hq⟩ := bd hq
                                  refine E_rs d_Lw_law_663 ev112 ?_
                                  obtain ⟨q114, eq114, hq⟩ := bd hq
                                  obtain ⟨p113, ep113, hq⟩ := bd hq
                                  refine E_cV2I d_Lw_law_664 ck_Lw_71 rfl rfl eq114 (Nat.le_of_ble_eq_true rfl) (Nat.le_of_ble_eq_true rfl) (t_Tc_book (by omega) ep113) ?_
                                  refine E_aln 2 d_Lw_law_667 rfl rfl ?_
                                  refine E_aln 0 d_Lw_law_668 rfl rfl ?_
                                  refine E_iln 3 d_Lw_law_669 rfl rfl ?_
                                  refine E_ic (v := 1) d_Lw_law_670 (by decide) ?_
                                  refine E_iadd d_Lw_law_671 ?_
                                  obtain ⟨v115, ev115, hq⟩ := bd hq
                                  refine E_rs d_Lw_law_672 ev115 ?_
                                  refine E_aln 0 d_Lw_law_673 rfl rfl ?_
                                  refine E_iln 3 d_Lw_law_674 rfl rfl ?_
                                  refine E_ic (v := 2) d_Lw_law_675 (by decide) ?_
                                  refine E_iadd d_Lw_law_676 ?_
                                  obtain ⟨v116, ev116, hq⟩ := bd hq
                                  refine E_rs d_Lw_law_677 ev116 ?_
                                  obtain ⟨q118, eq118, hq⟩ := bd hq
                                  obtain ⟨p117, ep117, hq⟩ := bd hq
                                  refine E_cV2I d_Lw_law_678 ck_Lw_74 rfl rfl eq118 (Nat.le_of_ble_eq_true rfl) (Nat.le_of_ble_eq_true rfl) (t_Mo_book (by omega) ep117) ?_
                                  refine E_jeq (tgt := 1417) d_Lw_law_681 (by decide) (fun c => ?_) (fun c => ?_)
                                  · rw [if_pos c] at hq
                                    refine E_inc (v := 6) (ls' := [(3, .int (x3 + 6)), (0, .ref a0), (1, .ref a1), (2, .ref a2)]) 3 d_Lw_law_1417 rfl (Nat.le_of_ble_eq_true rfl) (by decide) rfl ?_
                                    refine E_goto (tgt := 18) d_Lw_law_1420 (by decide) ?_
                                    exact E_sub (ks := [1, 2, 3, 0]) rfl <| ih _ _ _ _ _ _ _ _ (by first | assumption | omega) (by first | assumption | omega) hq
                                  · rw [if_neg c] at hq
                                    refine E_ic (v := 0) d_Lw_law_684 (by decide) ?_
                                    exact E_rZ d_Lw_law_685 rfl hq
                                · rw [if_neg c13] at hq
                                  by_cases c14 : (v2 &&& 63) = 14
                                  · rw [if_pos c14] at hq
                                    refine E_table (tgt := 686) d_Lw_law_33 (by rw [c14]; decide) (fun _ _ => ⟨653, by rw [c14]; decide, by decide⟩) ?_
                                    refine E_aln 1 d_Lw_law_686 rfl rfl ?_
                                    refine E_aln 0 d_Lw_law_687 rfl rfl ?_
                                    refine E_iln 3 d_Lw_law_688 rfl rfl ?_
                                    refine E_ic (v := 1) d_Lw_law_689 (by decide) ?_
                                    refine E_iadd d_Lw_law_690 ?_
                                    obtain ⟨v119, ev119, hq⟩ := bd hq
                                    refine E_rs d_Lw_law_691 ev119 ?_
                                    refine E_aln 0 d_Lw_law_692 rfl rfl ?_
                                    refine E_iln 3 d_Lw_law_693 rfl rfl ?_
                                    refine E_ic (v := 2) d_Lw_law_694 (by decide) ?_
                                    refine E_iadd d_Lw_law_695 ?_
                                    obtain ⟨v120, ev120, hq⟩ := bd hq
                                    refine E_rs d_Lw_law_696 ev120 ?_
                                    obtain ⟨q122, eq122, hq⟩ := bd hq
                                    obtain ⟨p121, ep121, hq⟩ := bd hq
                                    refine E_cV2I d_Lw_law_697 ck_Lw_75 rfl rfl eq122 (Nat.le_of_ble_eq_true rfl) (Nat.le_of_ble_eq_true rfl) (t_Tc_goes (by omega) ep121) ?_
                                    refine E_aln 2 d_Lw_law_700 rfl rfl ?_
                                    refine E_aln 0 d_Lw_law_701 rfl rfl ?_
                                    refine E_iln 3 d_Lw_law_702 rfl rfl ?_
                                    refine E_ic (v := 1) d_Lw_law_703 (by decide) ?_
                                    refine E_iadd d_Lw_law_704 ?_
                                    obtain ⟨v123, ev123, hq⟩ := bd hq
                                    refine E_rs d_Lw_law_705 ev123 ?_
                                    refine E_aln 0 d_Lw_law_706 rfl rfl ?_
                                    refine E_iln 3 d_Lw_law_707 rfl rfl ?_
                                    refine E_ic (v := 2) d_Lw_law_708 (by decide) ?_
                                    refine E_iadd d_Lw_law_709 ?_
                                    obtain ⟨v124, ev124, hq⟩ := bd hq
                                    refine E_rs d_Lw_law_710 ev124 ?_
                                    obtain ⟨q126, eq126, hq⟩ := bd hq
                                    obtain ⟨p125, ep125, hq⟩ := bd hq
                                    refine E_cV2I d_Lw_law_711 ck_Lw_78 rfl rfl eq126 (Nat.le_of_ble_eq_true rfl) (Nat.le_of_ble_eq_true rfl) (t_Mo_goes (by omega) ep125) ?_
                                    refine E_jeq (tgt := 1417) d_Lw_law_714 (by decide) (fun c => ?_) (fun c => ?_)
                                    · rw [if_pos c] at hq
                                      refine E_inc (v := 6) (ls' := [(3, .int (x3 + 6)), (0, .ref a0), (1, .ref a1), (2, .ref a2)]) 3 d_Lw_law_1417 rfl (Nat.le_of_ble_eq_true rfl) (by decide) rfl ?_
                                      refine E_goto (tgt := 18) d_Lw_law_1420 (by decide) ?_
                                      exact E_sub (ks := [1, 2, 3, 0]) rfl <| ih _ _ _ _ _ _ _ _ (by first | assumption | omega) (by first | assumption | omega) hq
                                    · rw [if_neg c] at hq
                                      refine E_ic (v := 0) d_Lw_law_717 (by decide) ?_
                                      exact E_rZ d_Lw_law_718 rfl hq
                                  · rw [if_neg c14] at hq
                                    by_cases c15 : (v2 &&& 63) = 15
                                    · rw [if_pos c15] at hq
                                      refine E_table (tgt := 719) d_Lw_law_33 (by rw [c15]; decide) (fun _ _ => ⟨686, by rw [c15]; decide, by decide⟩) ?_
                                      refine E_aln 1 d_Lw_law_719 rfl rfl ?_
                                      refine E_aln 0 d_Lw_law_720 rfl rfl ?_
                                      refine E_iln 3 d_Lw_law_721 rfl rfl ?_
                                      refine E_ic (v := 1) d_Lw_law_722 (by decide) ?_
                                      refine E_iadd d_Lw_law_723 ?_
                                      obtain ⟨v127, ev127, hq⟩ := bd hq
                                      refine E_rs d_Lw_law_724 ev127 ?_
                                      obtain ⟨q129, eq129, hq⟩ := bd hq
                                      obtain ⟨p128, ep128, hq⟩ := bd hq
                                      refine E_cV1I d_Lw_law_725 ck_Lw_79 rfl rfl eq129 (Nat.le_of_ble_eq_true rfl) (Nat.le_of_ble_eq_true rfl) (t_Tc_rate (by omega) ep128) ?_
                                      refine E_aln 2 d_Lw_law_728 rfl rfl ?_
                                      refine E_aln 0 d_Lw_law_729 rfl rfl ?_
                                      refine E_iln 3 d_Lw_law_730 rfl rfl ?_
                                      refine E_ic (v := 1) d_Lw_law_731 (by decide) ?_
                                      refine E_iadd d_Lw_law_732 ?_
                                      obtain ⟨v130, ev130, hq⟩ := bd hq
                                      refine E_rs d_Lw_law_733 ev130 ?_
                                      obtain ⟨q132, eq132, hq⟩ := bd hq
                                      obtain ⟨p131, ep131, hq⟩ := bd hq
                                      refine E_cV1I d_Lw_law_734 ck_Lw_82 rfl rfl eq132 (Nat.le_of_ble_eq_true rfl) (Nat.le_of_ble_eq_true rfl) (t_Mo_rate (by omega) ep131) ?_
                                      refine E_jeq (tgt := 1417) d_Lw_law_737 (by decide) (fun c => ?_) (fun c => ?_)
                                      · rw [if_pos c] at hq
                                        refine E_inc (v := 6) (ls' := [(3, .int (x3 + 6)), (0, .ref a0), (1, .ref a1), (2, .ref a2)]) 3 d_Lw_law_1417 rfl (Nat.le_of_ble_eq_true rfl) (by decide) rfl ?_
                                        refine E_goto (tgt := 18) d_Lw_law_1420 (by decide) ?_
                                        exact E_sub (ks := [1, 2, 3, 0]) rfl <| ih _ _ _ _ _ _ _ _ (by first | assumption | omega) (by first | assumption | omega) hq
                                      · rw [if_neg c] at hq
                                        refine E_ic (v := 0) d_Lw_law_740 (by decide) ?_
                                        exact E_rZ d_Lw_law_741 rfl hq
                                    · rw [if_neg c15] at hq
                                      by_cases c16 : (v2 &&& 63) = 16
                                      · rw [if_pos c16] at hq
                                        refine E_table (tgt := 742) d_Lw_law_33 (by rw [c16]; decide) (fun _ _ => ⟨709, by rw [c16]; decide, by decide⟩) ?_
                                        refine E_aln 1 d_Lw_law_742 rfl rfl ?_
                                        refine E_aln 0 d_Lw_law_743 rfl rfl ?_
                                        refine E_iln 3 d_Lw_law_744 rfl rfl ?_
                                        refine E_ic (v := 1) d_Lw_law_745 (by decide) ?_
                                        refine E_iadd d_Lw_law_746 ?_
                                        obtain ⟨v133, ev133, hq⟩ := bd hq
                                        refine E_rs d_Lw_law_747 ev133 ?_
                                        refine E_aln 0 d_Lw_law_748 rfl rfl ?_
                                        refine E_iln 3 d_Lw_law_749 rfl rfl ?_
                                        refine E_ic (v := 2) d_Lw_law_750 (by decide) ?_
                                        refine E_iadd d_Lw_law_751 ?_
                                        obtain ⟨v134, ev134, hq⟩ := bd hq
                                        refine E_rs d_Lw_law_752 ev134 ?_
                                        refine E_aln 0 d_Lw_law_753 rfl rfl ?_
                                        refine E_iln 3 d_Lw_law_754 rfl rfl ?_
                                        refine E_ic (v := 3) d_Lw_law_755 (by decide) ?_
                                        refine E_iadd d_Lw_law_756 ?_
                                        obtain ⟨v135, ev135, hq⟩ := bd hq
                                        refine E_rs d_Lw_law_757 ev135 ?_
                                        obtain ⟨q137, eq137, hq⟩ := bd hq
                                        obtain ⟨p136, ep136, hq⟩ := bd hq
                                        refine E_cV3I d_Lw_law_758 ck_Lw_83 rfl rfl eq137 (Nat.le_of_ble_eq_true rfl) (Nat.le_of_ble_eq_true rfl) (t_Tc_order (by omega) ep136) ?_
                                        refine E_aln 2 d_Lw_law_761 rfl rfl ?_
                                        refine E_aln 0 d_Lw_law_762 rfl rfl ?_
                                        refine E_iln 3 d_Lw_law_763 rfl rfl ?_
                                        refine E_ic (v := 1) d_Lw_law_764 (by decide) ?_
                                        refine E_iadd d_Lw_law_765 ?_
                                        obtain ⟨v138, ev138, hq⟩ := bd hq
                                        refine E_rs d_Lw_law_766 ev138 ?_
                                        refine E_aln 0 d_Lw_law_767 rfl rfl ?_
                                        refine E_iln 3 d_Lw_law_768 rfl rfl ?_
                                        refine E_ic (v := 2) d_Lw_law_769 (by decide) ?_
                                        refine E_iadd d_Lw_law_770 ?_
                                        obtain ⟨v139, ev139, hq⟩ := bd hq
                                        refine E_rs d_Lw_law_771 ev139 ?_
                                        refine E_aln 0 d_Lw_law_772 rfl rfl ?_
                                        refine E_iln 3 d_Lw_law_773 rfl rfl ?_
                                        refine E_ic (v := 3) d_Lw_law_774 (by decide) ?_
                                        refine E_iadd d_Lw_law_775 ?_
                                        obtain ⟨v140, ev140, hq⟩ := bd hq
                                        refine E_rs d_Lw_law_776 ev140 ?_
                                        obtain ⟨q142, eq142, hq⟩ := bd hq
                                        obtain ⟨p141, ep141, hq⟩ := bd hq
                                        refine E_cV3I d_Lw_law_777 ck_Lw_86 rfl rfl eq142 (Nat.le_of_ble_eq_true rfl) (Nat.le_of_ble_eq_true rfl) (t_Mo_order (by omega) ep141) ?_
                                        refine E_jeq (tgt := 1417) d_Lw_law_780 (by decide) (fun c => ?_) (fun c => ?_)
                                        · rw [if_pos c] at hq
                                          refine E_inc (v := 6) (ls' := [(3, .int (x3 + 6)), (0, .ref a0), (1, .ref a1), (2, .ref a2)]) 3 d_Lw_law_1417 rfl (Nat.le_of_ble_eq_true rfl) (by decide) rfl ?_
                                          refine E_goto (tgt := 18) d_Lw_law_1420 (by decide) ?_
                                          exact E_sub (ks := [1, 2, 3, 0]) rfl <| ih _ _ _ _ _ _ _ _ (by first | assumption | omega) (by first | assumption | omega) hq
                                        · rw [if_neg c] at hq
                                          refine E_ic (v := 0) d_Lw_law_783 (by decide) ?_
                                          exact E_rZ d_Lw_law_784 rfl hq
                                      · rw [if_neg c16] at hq
                                        by_cases c17 : (v2 &&& 63) = 17
                                        · rw [if_pos c17] at hq
                                          refine E_table (tgt := 785) d_Lw_law_33 (by rw [c17]; decide) (fun _ _ => ⟨752, by rw [c17]; decide, by decide⟩) ?_
                                          refine E_aln 1 d_Lw_law_785 rfl rfl ?_
                                          refine E_aln 0 d_Lw_law_786 rfl rfl ?_
                                          refine E_iln 3 d_Lw_law_787 rfl rfl ?_
                                          refine E_ic (v := 1) d_Lw_law_788 (by decide) ?_
                                          refine E_iadd d_Lw_law_789 ?_
                                          obtain ⟨v143, ev143, hq⟩ := bd hq
                                          refine E_rs d_Lw_law_790 ev143 ?_
                                          obtain ⟨q145, eq145, hq⟩ := bd hq
                                          obtain ⟨p144, ep144, hq⟩ := bd hq
                                          refine E_cV1I d_Lw_law_791 ck_Lw_87 rfl rfl eq145 (Nat.le_of_ble_eq_true rfl) (Nat.le_of_ble_eq_true rfl) (t_Tc_ordered (by omega) ep144) ?_
                                          refine E_aln 2 d_Lw_law_794 rfl rfl ?_
                                          refine E_aln 0 d_Lw_law_795 rfl rfl ?_
                                          refine E_iln 3 d_Lw_law_796 rfl rfl ?_
                                          refine E_ic (v := 1) d_Lw_law_797 (by decide) ?_
                                          refine E_iadd d_Lw_law_798 ?_
                                          obtain ⟨v146, ev146, hq⟩ := bd hq
                                          refine E_rs d_Lw_law_799 ev146 ?_
                                          obtain ⟨q148, eq148, hq⟩ := bd hq
                                          obtain ⟨p147, ep147, hq⟩ := bd hq
                                          refine E_cV1I d_Lw_law_800 ck_Lw_90 rfl rfl eq148 (Nat.le_of_ble_eq_true rfl) (Nat.le_of_ble_eq_true rfl) (t_Mo_ordered (by omega) ep147) ?_
                                          refine E_jeq (tgt := 1417) d_Lw_law_803 (by decide) (fun c => ?_) (fun c => ?_)
                                          · rw [if_pos c] at hq
                                            refine E_inc (v := 6) (ls' := [(3, .int (x3 + 6)), (0, .ref a0), (1, .ref a1), (2, .ref a2)]) 3 d_Lw_law_1417 rfl (Nat.le_of_ble_eq_true rfl) (by decide) rfl ?_
                                            refine E_goto (tgt := 18) d_Lw_law_1420 (by decide) ?_
                                            exact E_sub (ks := [1, 2, 3, 0]) rfl <| ih _ _ _ _ _ _ _ _ (by first | assumption | omega) (by first | assumption | omega) hq
                                          · rw [if_neg c] at hq
                                            refine E_ic (v := 0) d_Lw_law_806 (by decide) ?_
                                            exact E_rZ d_Lw_law_807 rfl hq
                                        · rw [if_neg c17] at hq
                                          by_cases c18 : (v2 &&& 63) = 18
                                          · rw [if_pos c18] at hq
                                            refine E_table (tgt := 808) d_Lw_law_33 (by rw [c18]; decide) (fun _ _ => ⟨775, by rw [c18]; decide, by decide⟩) ?_
                                            refine E_aln 1 d_Lw_law_808 rfl rfl ?_
                                            refine E_aln 0 d_Lw_law_809 rfl rfl ?_
                                            refine E_iln 3 d_Lw_law_810 rfl rfl ?_
                                            refine E_ic (v := 1) d_Lw_law_811 (by decide) ?_
                                            refine E_iadd d_Lw_law_812 ?_
                                            obtain ⟨v149, ev149, hq⟩ := bd hq
                                            refine E_rs d_Lw_law_813 ev149 ?_
                                            refine E_aln 0 d_Lw_law_814 rfl rfl ?_
                                            refine E_iln 3 d_Lw_law_815 rfl rfl ?_
                                            refine E_ic (v := 2) d_Lw_law_816 (by decide) ?_
                                            refine E_iadd d_Lw_law_817 ?_
                                            obtain ⟨v150, ev150, hq⟩ := bd hq
                                            refine E_rs d_Lw_law_818 ev150 ?_
                                            obtain ⟨q152, eq152, hq⟩ := bd hq
                                            obtain ⟨p151, ep151, hq⟩ := bd hq
                                            refine E_cV2I d_Lw_law_819 ck_Lw_91 rfl rfl eq152 (Nat.le_of_ble_eq_true rfl) (Nat.le_of_ble_eq_true rfl) (t_Tc_hand (by omega) ep151) ?_
                                            refine E_aln 2 d_Lw_law_822 rfl rfl ?_
                                            refine E_aln 0 d_Lw_law_823 rfl rfl ?_
                                            refine E_iln 3 d_Lw_law_824 rfl rfl ?_
                                            refine E_ic (v := 1) d_Lw_law_825 (by decide) ?_
                                            refine E_iadd d_Lw_law_826 ?_
                                            obtain ⟨v153, ev153, hq⟩ := bd hq
                                            refine E_rs d_Lw_law_827 ev153 ?_
                                            refine E_aln 0 d_Lw_law_828 rfl rfl ?_
                                            refine E_iln 3 d_Lw_law_829 rfl rfl ?_
                                            refine E_ic (v := 2) d_Lw_law_830 (by decide) ?_
                                            refine E_iadd d_Lw_law_831 ?_
                                            obtain ⟨v154, ev154, hq⟩ := bd hq
                                            refine E_rs d_Lw_law_832 ev154 ?_
                                            obtain ⟨q156, eq156, hq⟩ := bd hq
                                            obtain ⟨p155, ep155, hq⟩ := bd hq
                                            refine E_cV2I d_Lw_law_833 ck_Lw_94 rfl rfl eq156 (Nat.le_of_ble_eq_true rfl) (Nat.le_of_ble_eq_true rfl) (t_Mo_hand (by omega) ep155) ?_
                                            refine E_jeq (tgt := 1417) d_Lw_law_836 (by decide) (fun c => ?_) (fun c => ?_)
                                            · rw [if_pos c] at hq
                                              refine E_inc (v := 6) (ls' := [(3, .int (x3 + 6)), (0, .ref a0), (1, .ref a1), (2, .ref a2)]) 3 d_Lw_law_1417 rfl (Nat.le_of_ble_eq_true rfl) (by decide) rfl ?_
                                              refine E_goto (tgt := 18) d_Lw_law_1420 (by decide) ?_
                                              exact E_sub (ks := [1, 2, 3, 0]) rfl <| ih _ _ _ _ _ _ _ _ (by first | assumption | omega) (by first | assumption | omega) hq
                                            · rw [if_neg c] at hq
                                              refine E_ic (v := 0) d_Lw_law_839 (by decide) ?_
                                              exact E_rZ d_Lw_law_840 rfl hq
                                          · rw [if_neg c18] at hq
                                            by_cases c19 : (v2 &&& 63) = 19
                                            · rw [if_pos c19] at hq
                                              refine E_table (tgt := 841) d_Lw_law_33 (by rw [c19]; decide) (fun _ _ => ⟨808, by rw [c19]; decide, by decide⟩) ?_
                                              refine E_aln 1 d_Lw_law_841 rfl rfl ?_
                                              refine E_aln 0 d_Lw_law_842 rfl rfl ?_
                                              refine E_iln 3 d_Lw_law_843 rfl rfl ?_
                                              refine E_ic (v := 1) d_Lw_law_844 (by decide) ?_
                                              refine E_iadd d_Lw_law_845 ?_
                                              obtain ⟨v157, ev157, hq⟩ := bd hq
                                              refine E_rs d_Lw_law_846 ev157 ?_
                                              obtain ⟨q159, eq159, hq⟩ := bd hq
                                              obtain ⟨p158, ep158, hq⟩ := bd hq
                                              refine E_cV1I d_Lw_law_847 ck_Lw_95 rfl rfl eq159 (Nat.le_of_ble_eq_true rfl) (Nat.le_of_ble_eq_true rfl) (t_Tc_hands (by omega) ep158) ?_
                                              refine E_aln 2 d_Lw_law_850 rfl rfl ?_
                                              refine E_aln 0 d_Lw_law_851 rfl rfl ?_
                                              refine E_iln 3 d_Lw_law_852 rfl rfl ?_
                                              refine E_ic (v := 1) d_Lw_law_853 (by decide) ?_
                                              refine E_iadd d_Lw_law_854 ?_
                                              obtain ⟨v160, ev160, hq⟩ := bd hq
                                              refine E_rs d_Lw_law_855 ev160 ?_
                                              obtain ⟨q162, eq162, hq⟩ := bd hq
                                              obtain ⟨p161, ep161, hq⟩ := bd hq
                                              refine E_cV1I d_Lw_law_856 ck_Lw_98 rfl rfl eq162 (Nat.le_of_ble_eq_true rfl) (Nat.le_of_ble_eq_true rfl) (t_Mo_hands (by omega) ep161) ?_
                                              refine E_jeq (tgt := 1417) d_Lw_law_859 (by decide) (fun c => ?_) (fun c => ?_)
                                              · rw [if_pos c] at hq
                                                refine E_inc (v := 6) (ls' := [(3, .int (x3 + 6)), (0, .ref a0), (1, .ref a1), (2, .ref a2)]) 3 d_Lw_law_1417 rfl (Nat.le_of_ble_eq_true rfl) (by decide) rfl ?_
                                                refine E_goto (tgt := 18) d_Lw_law_1420 (by decide) ?_
                                                exact E_sub (ks := [1, 2, 3, 0]) rfl <| ih _ _ _ _ _ _ _ _ (by first | assumption | omega) (by first | assumption | omega) hq
                                              · rw [if_neg c] at hq
                                                refine E_ic (v := 0) d_Lw_law_862 (by decide) ?_
                                                exact E_rZ d_Lw_law_863 rfl hq
                                            · rw [if_neg c19] at hq
                                              by_cases c20 : (v2 &&& 63) = 20
                                              · rw [if_pos c20] at hq
                                                refine E_table (tgt := 864) d_Lw_law_33 (by rw [c20]; decide) (fun _ _ => ⟨831, by rw [c20]; decide, by decide⟩) ?_
                                                refine E_aln 1 d_Lw_law_864 rfl rfl ?_
                                                refine E_aln 0 d_Lw_law_865 rfl rfl ?_
                                                refine E_iln 3 d_Lw_law_866 rfl rfl ?_
                                                refine E_ic (v := 1) d_Lw_law_867 (by decide) ?_
                                                refine E_iadd d_Lw_law_868 ?_
                                                obtain ⟨v163, ev163, hq⟩ := bd hq
                                                refine E_rs d_Lw_law_869 ev163 ?_
                                                obtain ⟨q165, eq165, hq⟩ := bd hq
                                                obtain ⟨p164, ep164, hq⟩ := bd hq
                                                refine E_cV1I d_Lw_law_870 ck_Lw_99 rfl rfl eq165 (Nat.le_of_ble_eq_true rfl) (Nat.le_of_ble_eq_true rfl) (t_Tc_weight (by omega) ep164) ?_
                                                refine E_aln 2 d_Lw_law_873 rfl rfl ?_
                                                refine E_aln 0 d_Lw_law_874 rfl rfl ?_
                                                refine E_iln 3 d_Lw_law_875 rfl rfl ?_
                                                refine E_ic (v := 1) d_Lw_law_876 (by decide) ?_
                                                refine E_iadd d_Lw_law_877 ?_
                                                obtain ⟨v166, ev166, hq⟩ := bd hq
                                                refine E_rs d_Lw_law_878 ev166 ?_
                                                obtain ⟨q168, eq168, hq⟩ := bd hq
                                                obtain ⟨p167, ep167, hq⟩ := bd hq
                                                refine E_cV1I d_Lw_law_879 ck_Lw_102 rfl rfl eq168 (Nat.le_of_ble_eq_true rfl) (Nat.le_of_ble_eq_true rfl) (t_Mo_weight (by omega) ep167) ?_
                                                refine E_jeq (tgt := 1417) d_Lw_law_882 (by decide) (fun c => ?_) (fun c => ?_)
                                                · rw [if_pos c] at hq
                                                  refine E_inc (v := 6) (ls' := [(3, .int (x3 + 6)), (0, .ref a0), (1, .ref a1), (2, .ref a2)]) 3 d_Lw_law_1417 rfl (Nat.le_of_ble_eq_true rfl) (by decide) rfl ?_
                                                  refine E_goto (tgt := 18) d_Lw_law_1420 (by decide) ?_
                                                  exact E_sub (ks := [1, 2, 3, 0]) rfl <| ih _ _ _ _ _ _ _ _ (by first | assumption | omega) (by first | assumption | omega) hq
                                                · rw [if_neg c] at hq
                                                  refine E_ic (v := 0) d_Lw_law_885 (by decide) ?_
                                                  exact E_rZ d_Lw_law_886 rfl hq
                                              · rw [if_neg c20] at hq
                                                by_cases c21 : (v2 &&& 63) = 21
                                                · rw [if_pos c21] at hq
                                                  refine E_table (tgt := 887) d_Lw_law_33 (by rw [c21]; decide) (fun _ _ => ⟨854, by rw [c21]; decide, by decide⟩) ?_
                                                  refine E_aln 1 d_Lw_law_887 rfl rfl ?_
                                                  refine E_aln 0 d_Lw_law_888 rfl rfl ?_
                                                  refine E_iln 3 d_Lw_law_889 rfl rfl ?_
                                                  refine E_ic (v := 1) d_Lw_law_890 (by decide) ?_
                                                  refine E_iadd d_Lw_law_891 ?_
                                                  obtain ⟨v169, ev169, hq⟩ := bd hq
                                                  refine E_rs d_Lw_law_892 ev169 ?_
                                                  refine E_aln 0 d_Lw_law_893 rfl rfl ?_
                                                  refine E_iln 3 d_Lw_law_894 rfl rfl ?_
                                                  refine E_ic (v := 2) d_Lw_law_895 (by decide) ?_
                                                  refine E_iadd d_Lw_law_896 ?_
                                                  obtain ⟨v170, ev170, hq⟩ := bd hq
                                                  refine E_rs d_Lw_law_897 ev170 ?_
                                                  obtain ⟨q172, eq172, hq⟩ := bd hq
                                                  obtain ⟨p171, ep171, hq⟩ := bd hq
                                                  refine E_cV2I d_Lw_law_898 ck_Lw_103 rfl rfl eq172 (Nat.le_of_ble_eq_true rfl) (Nat.le_of_ble_eq_true rfl) (t_Tc_crates (by omega) ep171) ?_
                                                  refine E_aln 2 d_Lw_law_901 rfl rfl ?_
                                                  refine E_aln 0 d_Lw_law_902 rfl rfl ?_
                                                  refine E_iln 3 d_Lw_law_903 rfl rfl ?_
                                                  refine E_ic (v := 1) d_Lw_law_904 (by decide) ?_
                                                  refine E_iadd d_Lw_law_905 ?_
                                                  obtain ⟨v173, ev173, hq⟩ := bd hq
                                                  refine E_rs d_Lw_law_906 ev173 ?_
                                                  refine E_aln 0 d_Lw_law_907 rfl rfl ?_
                                                  refine E_iln 3 d_Lw_law_908 rfl rfl ?_
                                                  refine E_ic (v := 2) d_Lw_law_909 (by decide) ?_
                                                  refine E_iadd d_Lw_law_910 ?_
                                                  obtain ⟨v174, ev174, hq⟩ := bd hq
                                                  refine E_rs d_Lw_law_911 ev174 ?_
                                                  obtain ⟨q176, eq176, hq⟩ := bd hq
                                                  obtain ⟨p175, ep175, hq⟩ := bd hq
                                                  refine E_cV2I d_Lw_law_912 ck_Lw_106 rfl rfl eq176 (Nat.le_of_ble_eq_true rfl) (Nat.le_of_ble_eq_true rfl) (t_Mo_crates (by omega) ep175) ?_
                                                  refine E_jeq (tgt := 1417) d_Lw_law_915 (by decide) (fun c => ?_) (fun c => ?_)
                                                  · rw [if_pos c] at hq
                                                    refine E_inc (v := 6) (ls' := [(3, .int (x3 + 6)), (0, .ref a0), (1, .ref a1), (2, .ref a2)]) 3 d_Lw_law_1417 rfl (Nat.le_of_ble_eq_true rfl) (by decide) rfl ?_
                                                    refine E_goto (tgt := 18) d_Lw_law_1420 (by decide) ?_
                                                    exact E_sub (ks := [1, 2, 3, 0]) rfl <| ih _ _ _ _ _ _ _ _ (by first | assumption | omega) (by first | assumption | omega) hq
                                                  · rw [if_neg c] at hq
                                                    refine E_ic (v := 0) d_Lw_law_918 (by decide) ?_
                                                    exact E_rZ d_Lw_law_919 rfl hq
                                                · rw [if_neg c21] at hq
                                                  by_cases c22 : (v2 &&& 63) = 22
                                                  · rw [if_pos c22] at hq
                                                    refine E_table (tgt := 920) d_Lw_law_33 (by rw [c22]; decide) (fun _ _ => ⟨887, by rw [c22]; decide, by decide⟩) ?_
                                                    refine E_aln 1 d_Lw_law_920 rfl rfl ?_
                                                    refine E_aln 0 d_Lw_law_921 rfl rfl ?_
                                                    refine E_iln 3 d_Lw_law_922 rfl rfl ?_
                                                    refine E_ic (v := 1) d_Lw_law_923 (by decide) ?_
                                                    refine E_iadd d_Lw_law_924 ?_
                                                    obtain ⟨v177, ev177, hq⟩ := bd hq
                                                    refine E_rs d_Lw_law_925 ev177 ?_
                                                    obtain ⟨q179, eq179, hq⟩ := bd hq
                                                    obtain ⟨p178, ep178, hq⟩ := bd hq
                                                    refine E_cV1I d_Lw_law_926 ck_Lw_107 rfl rfl eq179 (Nat.le_of_ble_eq_true rfl) (Nat.le_of_ble_eq_true rfl) (t_Tc_bag (by omega) ep178) ?_
                                                    refine E_aln 2 d_Lw_law_929 rfl rfl ?_
                                                    refine E_aln 0 d_Lw_law_930 rfl rfl ?_
                                                    refine E_iln 3 d_Lw_law_931 rfl rfl ?_
                                                    refine E_ic (v := 1) d_Lw_law_932 (by decide) ?_
                                                    refine E_iadd d_Lw_law_933 ?_
                                                    obtain ⟨v180, ev180, hq⟩ := bd hq
                                                    refine E_rs d_Lw_law_934 ev180 ?_
                                                    obtain ⟨q182, eq182, hq⟩ := bd hq
                                                    obtain ⟨p181, ep181, hq⟩ := bd hq
                                                    refine E_cV1I d_Lw_law_935 ck_Lw_110 rfl rfl eq182 (Nat.le_of_ble_eq_true rfl) (Nat.le_of_ble_eq_true rfl) (t_Mo_bag (by omega) ep181) ?_
                                                    refine E_jeq (tgt := 1417) d_Lw_law_938 (by decide) (fun c => ?_) (fun c => ?_)
                                                    · rw [if_pos c] at hq
                                                      refine E_inc (v := 6) (ls' := [(3, .int (x3 + 6)), (0, .ref a0), (1, .ref a1), (2, .ref a2)]) 3 d_Lw_law_1417 rfl (Nat.le_of_ble_eq_true rfl) (by decide) rfl ?_
                                                      refine E_goto (tgt := 18) d_Lw_law_1420 (by decide) ?_
                                                      exact E_sub (ks := [1, 2, 3, 0]) rfl <| ih _ _ _ _ _ _ _ _ (by first | assumption | omega) (by first | assumption | omega) hq
                                                    · rw [if_neg c] at hq
                                                      refine E_ic (v := 0) d_Lw_law_941 (by decide) ?_
                                                      exact E_rZ d_Lw_law_942 rfl hq
                                                  · rw [if_neg c22] at hq
                                                    by_cases c23 : (v2 &&& 63) = 23
                                                    · rw [if_pos c23] at hq
                                                      refine E_table (tgt := 943) d_Lw_law_33 (by rw [c23]; decide) (fun _ _ => ⟨910, by rw [c23]; decide, by decide⟩) ?_
                                                      refine E_aln 1 d_Lw_law_943 rfl rfl ?_
                                                      refine E_aln 0 d_Lw_law_944 rfl rfl ?_
                                                      refine E_iln 3 d_Lw_law_945 rfl rfl ?_
                                                      refine E_ic (v := 1) d_Lw_law_946 (by decide) ?_
                                                      refine E_iadd d_Lw_law_947 ?_
                                                      obtain ⟨v183, ev183, hq⟩ := bd hq
                                                      refine E_rs d_Lw_law_948 ev183 ?_
                                                      refine E_aln 0 d_Lw_law_949 rfl rfl ?_
                                                      refine E_iln 3 d_Lw_law_950 rfl rfl ?_
                                                      refine E_ic (v := 2) d_Lw_law_951 (by decide) ?_
                                                      refine E_iadd d_Lw_law_952 ?_
                                                      obtain ⟨v184, ev184, hq⟩ := bd hq
                                                      refine E_rs d_Lw_law_953 ev184 ?_
                                                      obtain ⟨q186, eq186, hq⟩ := bd hq
                                                      obtain ⟨p185, ep185, hq⟩ := bd hq
                                                      refine E_cV2I d_Lw_law_954 ck_Lw_111 rfl rfl eq186 (Nat.le_of_ble_eq_true rfl) (Nat.le_of_ble_eq_true rfl) (t_Tc_weighed (by omega) ep185) ?_
                                                      refine E_aln 2 d_Lw_law_957 rfl rfl ?_
                                                      refine E_aln 0 d_Lw_law_958 rfl rfl ?_
                                                      refine E_iln 3 d_Lw_law_959 rfl rfl ?_
                                                      refine E_ic (v := 1) d_Lw_law_960 (by decide) ?_
                                                      refine E_iadd d_Lw_law_961 ?_
                                                      obtain ⟨v187, ev187, hq⟩ := bd hq
                                                      refine E_rs d_Lw_law_962 ev187 ?_
                                                      refine E_aln 0 d_Lw_law_963 rfl rfl ?_
                                                      refine E_iln 3 d_Lw_law_964 rfl rfl ?_
                                                      refine E_ic (v := 2) d_Lw_law_965 (by decide) ?_
                                                      refine E_iadd d_Lw_law_966 ?_
                                                      obtain ⟨v188, ev188, hq⟩ := bd hq
                                                      refine E_rs d_Lw_law_967 ev188 ?_
                                                      obtain ⟨q190, eq190, hq⟩ := bd hq
                                                      obtain ⟨p189, ep189, hq⟩ := bd hq
                                                      refine E_cV2I d_Lw_law_968 ck_Lw_114 rfl rfl eq190 (Nat.le_of_ble_eq_true rfl) (Nat.le_of_ble_eq_true rfl) (t_Mo_weighed (by omega) ep189) ?_
                                                      refine E_jeq (tgt := 1417) d_Lw_law_971 (by decide) (fun c => ?_) (fun c => ?_)
                                                      · rw [if_pos c] at hq
                                                        refine E_inc (v := 6) (ls' := [(3, .int (x3 + 6)), (0, .ref a0), (1, .ref a1), (2, .ref a2)]) 3 d_Lw_law_1417 rfl (Nat.le_of_ble_eq_true rfl) (by decide) rfl ?_
                                                        refine E_goto (tgt := 18) d_Lw_law_1420 (by decide) ?_
                                                        exact E_sub (ks := [1, 2, 3, 0]) rfl <| ih _ _ _ _ _ _ _ _ (by first | assumption | omega) (by first | assumption | omega) hq
                                                      · rw [if_neg c] at hq
                                                        refine E_ic (v := 0) d_Lw_law_974 (by decide) ?_
                                                        exact E_rZ d_Lw_law_975 rfl hq
                                                    · rw [if_neg c23] at hq
                                                      by_cases c24 : (v2 &&& 63) = 24
                                                      · rw [if_pos c24] at hq
                                                        refine E_table (tgt := 976) d_Lw_law_33 (by rw [c24]; decide) (fun _ _ => ⟨943, by rw [c24]; decide, by decide⟩) ?_
                                                        refine E_aln 1 d_Lw_law_976 rfl rfl ?_
                                                        refine E_aln 0 d_Lw_law_977 rfl rfl ?_
                                                        refine E_iln 3 d_Lw_law_978 rfl rfl ?_
                                                        refine E_ic (v := 1) d_Lw_law_979 (by decide) ?_
                                                        refine E_iadd d_Lw_law_980 ?_
                                                        obtain ⟨v191, ev191, hq⟩ := bd hq
                                                        refine E_rs d_Lw_law_981 ev191 ?_
                                                        obtain ⟨q193, eq193, hq⟩ := bd hq
                                                        obtain ⟨p192, ep192, hq⟩ := bd hq
                                                        refine E_cV1I d_Lw_law_982 ck_Lw_115 rfl rfl eq193 (Nat.le_of_ble_eq_true rfl) (Nat.le_of_ble_eq_true rfl) (t_Tc_suspects (by omega) ep192) ?_
                                                        refine E_aln 2 d_Lw_law_985 rfl rfl ?_
                                                        refine E_aln 0 d_Lw_law_986 rfl rfl ?_
                                                        refine E_iln 3 d_Lw_law_987 rfl rfl ?_
                                                        refine E_ic (v := 1) d_Lw_law_988 (by decide) ?_
                                                        refine E_iadd d_Lw_law_989 ?_
                                                        obtain ⟨v194, ev194, hq⟩ := bd hq
                                                        refine E_rs d_Lw_law_990 ev194 ?_
                                                        obtain ⟨q196, eq196, hq⟩ := bd hq
                                                        obtain ⟨p195, ep195, hq⟩ := bd hq
                                                        refine E_cV1I d_Lw_law_991 ck_Lw_118 rfl rfl eq196 (Nat.le_of_ble_eq_true rfl) (Nat.le_of_ble_eq_true rfl) (t_Mo_suspects (by omega) ep195) ?_
                                                        refine E_jeq (tgt := 1417) d_Lw_law_994 (by decide) (fun c => ?_) (fun c => ?_)
                                                        · rw [if_pos c] at hq
                                                          refine E_inc (v := 6) (ls' := [(3, .int (x3 + 6)), (0, .ref a0), (1, .ref a1), (2, .ref a2)]) 3 d_Lw_law_1417 rfl (Nat.le_of_ble_eq_true rfl) (by decide) rfl ?_
                                                          refine E_goto (tgt := 18) d_Lw_law_1420 (by decide) ?_
                                                          exact E_sub (ks := [1, 2, 3, 0]) rfl <| ih _ _ _ _ _ _ _ _ (by first | assumption | omega) (by first | assumption | omega) hq
                                                        · rw [if_neg c] at hq
                                                          refine E_ic (v := 0) d_Lw_law_997 (by decide) ?_
                                                          exact E_rZ d_Lw_law_998 rfl hq
                                                      · rw [if_neg c24] at hq
                                                        by_cases c25 : (v2 &&& 63) = 25
                                                        · rw [if_pos c25] at hq
                                                          refine E_table (tgt := 999) d_Lw_law_33 (by rw [c25]; decide) (fun _ _ => ⟨966, by rw [c25]; decide, by decide⟩) ?_
                                                          refine E_aln 1 d_Lw_law_999 rfl rfl ?_
                                                          refine E_aln 0 d_Lw_law_1000 rfl rfl ?_
                                                          refine E_iln 3 d_Lw_law_1001 rfl rfl ?_
                                                          refine E_ic (v := 1) d_Lw_law_1002 (by decide) ?_
                                                          refine E_iadd d_Lw_law_1003 ?_
                                                          obtain ⟨v197, ev197, hq⟩ := bd hq
                                                          refine E_rs d_Lw_law_1004 ev197 ?_
                                                          refine E_aln 0 d_Lw_law_1005 rfl rfl ?_
                                                          refine E_iln 3 d_Lw_law_1006 rfl rfl ?_
                                                          refine E_ic (v := 2) d_Lw_law_1007 (by decide) ?_
                                                          refine E_iadd d_Lw_law_1008 ?_
                                                          obtain ⟨v198, ev198, hq⟩ := bd hq
                                                          refine E_rs d_Lw_law_1009 ev198 ?_
                                                          refine E_aln 0 d_Lw_law_1010 rfl rfl ?_
                                                          refine E_iln 3 d_Lw_law_1011 rfl rfl ?_
                                                          refine E_ic (v := 3) d_Lw_law_1012 (by decide) ?_
                                                          refine E_iadd d_Lw_law_1013 ?_
                                                          obtain ⟨v199, ev199, hq⟩ := bd hq
                                                          refine E_rs d_Lw_law_1014 ev199 ?_
                                                          refine E_aln 0 d_Lw_law_1015 rfl rfl ?_
                                                          refine E_iln 3 d_Lw_law_1016 rfl rfl ?_
                                                          refine E_ic (v := 4) d_Lw_law_1017 (by decide) ?_
                                                          refine E_iadd d_Lw_law_1018 ?_
                                                          obtain ⟨v200, ev200, hq⟩ := bd hq
                                                          refine E_rs d_Lw_law_1019 ev200 ?_
                                                          obtain ⟨q202, eq202, hq⟩ := bd hq
                                                          obtain ⟨p201, ep201, hq⟩ := bd hq
                                                          refine E_cV4I d_Lw_law_1020 ck_Lw_119 rfl rfl eq202 (Nat.le_of_ble_eq_true rfl) (Nat.le_of_ble_eq_true rfl) (t_Tc_driest (by omega) ep201) ?_
                                                          refine E_aln 2 d_Lw_law_1023 rfl rfl ?_
                                                          refine E_aln 0 d_Lw_law_1024 rfl rfl ?_
                                                          refine E_iln 3 d_Lw_law_1025 rfl rfl ?_
                                                          refine E_ic (v := 1) d_Lw_law_1026 (by decide) ?_
                                                          refine E_iadd d_Lw_law_1027 ?_
                                                          obtain ⟨v203, ev203, hq⟩ := bd hq
                                                          refine E_rs d_Lw_law_1028 ev203 ?_
                                                          refine E_aln 0 d_Lw_law_1029 rfl rfl ?_
                                                          refine E_iln 3 d_Lw_law_1030 rfl rfl ?_
                                                          refine E_ic (v := 2) d_Lw_law_1031 (by decide) ?_
                                                          refine E_iadd d_Lw_law_1032 ?_
                                                          obtain ⟨v204, ev204, hq⟩ := bd hq
                                                          refine E_rs d_Lw_law_1033 ev204 ?_
                                                          refine E_aln 0 d_Lw_law_1034 rfl rfl ?_
                                                          refine E_iln 3 d_Lw_law_1035 rfl rfl ?_
                                                          refine E_ic (v := 3) d_Lw_law_1036 (by decide) ?_
                                                          refine E_iadd d_Lw_law_1037 ?_
                                                          obtain ⟨v205, ev205, hq⟩ := bd hq
                                                          refine E_rs d_Lw_law_1038 ev205 ?_
                                                          refine E_aln 0 d_Lw_law_1039 rfl rfl ?_
                                                          refine E_iln 3 d_Lw_law_1040 rfl rfl ?_
                                                          refine E_ic (v := 4) d_Lw_law_1041 (by decide) ?_
                                                          refine E_iadd d_Lw_law_1042 ?_
                                                          obtain ⟨v206, ev206, hq⟩ := bd hq
                                                          refine E_rs d_Lw_law_1043 ev206 ?_
                                                          obtain ⟨q208, eq208, hq⟩ := bd hq
                                                          obtain ⟨p207, ep207, hq⟩ := bd hq
                                                          refine E_cV4I d_Lw_law_1044 ck_Lw_123 rfl rfl eq208 (Nat.le_of_ble_eq_true rfl) (Nat.le_of_ble_eq_true rfl) (t_Mo_driest (by omega) ep207) ?_
                                                          refine E_jeq (tgt := 1417) d_Lw_law_1047 (by decide) (fun c => ?_) (fun c => ?_)
                                                          · rw [if_pos c] at hq
                                                            refine E_inc (v := 6) (ls' := [(3, .int (x3 + 6)), (0, .ref a0), (1, .ref a1), (2, .ref a2)]) 3 d_Lw_law_1417 rfl (Nat.le_of_ble_eq_true rfl) (by decide) rfl ?_
                                                            refine E_goto (tgt := 18) d_Lw_law_1420 (by decide) ?_
                                                            exact E_sub (ks := [1, 2, 3, 0]) rfl <| ih _ _ _ _ _ _ _ _ (by first | assumption | omega) (by first | assumption | omega) hq
                                                          · rw [if_neg c] at hq
                                                            refine E_ic (v := 0) d_Lw_law_1050 (by decide) ?_
                                                            exact E_rZ d_Lw_law_1051 rfl hq
                                                        · rw [if_neg c25] at hq
                                                          by_cases c26 : (v2 &&& 63) = 26
                                                          · rw [if_pos c26] at hq
                                                            refine E_table (tgt := 1052) d_Lw_law_33 (by rw [c26]; decide) (fun _ _ => ⟨1019, by rw [c26]; decide, by decide⟩) ?_
                                                            refine E_aln 1 d_Lw_law_1052 rfl rfl ?_
                                                            refine E_aln 0 d_Lw_law_1053 rfl rfl ?_
                                                            refine E_iln 3 d_Lw_law_1054 rfl rfl ?_
                                                            refine E_ic (v := 1) d_Lw_law_1055 (by decide) ?_
                                                            refine E_iadd d_Lw_law_1056 ?_
                                                            obtain ⟨v209, ev209, hq⟩ := bd hq
                                                            refine E_rs d_Lw_law_1057 ev209 ?_
                                                            refine E_aln 0 d_Lw_law_1058 rfl rfl ?_
                                                            refine E_iln 3 d_Lw_law_1059 rfl rfl ?_
                                                            refine E_ic (v := 2) d_Lw_law_1060 (by decide) ?_
                                                            refine E_iadd d_Lw_law_1061 ?_
                                                            obtain ⟨v210, ev210, hq⟩ := bd hq
                                                            refine E_rs d_Lw_law_1062 ev210 ?_
                                                            refine E_aln 0 d_Lw_law_1063 rfl rfl ?_
                                                            refine E_iln 3 d_Lw_law_1064 rfl rfl ?_
                                                            refine E_ic (v := 3) d_Lw_law_1065 (by decide) ?_
                                                            refine E_iadd d_Lw_law_1066 ?_
                                                            obtain ⟨v211, ev211, hq⟩ := bd hq
                                                            refine E_rs d_Lw_law_1067 ev211 ?_
                                                            obtain ⟨q213, eq213, hq⟩ := bd hq
                                                            obtain ⟨p212, ep212, hq⟩ := bd hq
                                                            refine E_cV3I d_Lw_law_1068 ck_Lw_124 rfl rfl eq213 (Nat.le_of_ble_eq_true rfl) (Nat.le_of_ble_eq_true rfl) (t_Tc_count (by omega) ep212) ?_
                                                            refine E_aln 2 d_Lw_law_1071 rfl rfl ?_
                                                            refine E_aln 0 d_Lw_law_1072 rfl rfl ?_
                                                            refine E_iln 3 d_Lw_law_1073 rfl rfl ?_
                                                            refine E_ic (v := 1) d_Lw_law_1074 (by decide) ?_
                                                            refine E_iadd d_Lw_law_1075 ?_
                                                            obtain ⟨v214, ev214, hq⟩ := bd hq
                                                            refine E_rs d_Lw_law_1076 ev214 ?_
                                                            refine E_aln 0 d_Lw_law_1077 rfl rfl ?_
                                                            refine E_iln 3 d_Lw_law_1078 rfl rfl ?_
                                                            refine E_ic (v := 2) d_Lw_law_1079 (by decide) ?_
                                                            refine E_iadd d_Lw_law_1080 ?_
                                                            obtain ⟨v215, ev215, hq⟩ := bd hq
                                                            refine E_rs d_Lw_law_1081 ev215 ?_
                                                            refine E_aln 0 d_Lw_law_1082 rfl rfl ?_
                                                            refine E_iln 3 d_Lw_law_1083 rfl rfl ?_
                                                            refine E_ic (v := 3) d_Lw_law_1084 (by decide) ?_
                                                            refine E_iadd d_Lw_law_1085 ?_
                                                            obtain ⟨v216, ev216, hq⟩ := bd hq
                                                            refine E_rs d_Lw_law_1086 ev216 ?_
                                                            obtain ⟨q218, eq218, hq⟩ := bd hq
                                                            obtain ⟨p217, ep217, hq⟩ := bd hq
                                                            refine E_cV3I d_Lw_law_1087 ck_Lw_127 rfl rfl eq218 (Nat.le_of_ble_eq_true rfl) (Nat.le_of_ble_eq_true rfl) (t_Mo_count (by omega) ep217) ?_
                                                            refine E_jeq (tgt := 1417) d_Lw_law_1090 (by decide) (fun c => ?_) (fun c => ?_)
                                                            · rw [if_pos c] at hq
                                                              refine E_inc (v := 6) (ls' := [(3, .int (x3 + 6)), (0, .ref a0), (1, .ref a1), (2, .ref a2)]) 3 d_Lw_law_1417 rfl (Nat.le_of_ble_eq_true rfl) (by decide) rfl ?_
                                                              refine E_goto (tgt := 18) d_Lw_law_1420 (by decide) ?_
                                                              exact E_sub (ks := [1, 2, 3, 0]) rfl <| ih _ _ _ _ _ _ _ _ (by first | assumption | omega) (by first | assumption | omega) hq
                                                            · rw [if_neg c] at hq
                                                              refine E_ic (v := 0) d_Lw_law_1093 (by decide) ?_
                                                              exact E_rZ d_Lw_law_1094 rfl hq
                                                          · rw [if_neg c26] at hq
                                                            by_cases c27 : (v2 &&& 63) = 27
                                                            · rw [if_pos c27] at hq
                                                              refine E_table (tgt := 1095) d_Lw_law_33 (by rw [c27]; decide) (fun _ _ => ⟨1062, by rw [c27]; decide, by decide⟩) ?_
                                                              refine E_aln 1 d_Lw_law_1095 rfl rfl ?_
                                                              refine E_aln 0 d_Lw_law_1096 rfl rfl ?_
                                                              refine E_iln 3 d_Lw_law_1097 rfl rfl ?_
                                                              refine E_ic (v := 1) d_Lw_law_1098 (by decide) ?_
                                                              refine E_iadd d_Lw_law_1099 ?_
                                                              obtain ⟨v219, ev219, hq⟩ := bd hq
                                                              refine E_rs d_Lw_law_1100 ev219 ?_
                                                              refine E_aln 0 d_Lw_law_1101 rfl rfl ?_
                                                              refine E_iln 3 d_Lw_law_1102 rfl rfl ?_
                                                              refine E_ic (v := 2) d_Lw_law_1103 (by decide) ?_
                                                              refine E_iadd d_Lw_law_1104 ?_
                                                              obtain ⟨v220, ev220, hq⟩ := bd hq
                                                              refine E_rs d_Lw_law_1105 ev220 ?_
                                                              obtain ⟨q222, eq222, hq⟩ := bd hq
                                                              obtain ⟨p221, ep221, hq⟩ := bd hq
                                                              refine E_cV2I d_Lw_law_1106 ck_Lw_128 rfl rfl eq222 (Nat.le_of_ble_eq_true rfl) (Nat.le_of_ble_eq_true rfl) (t_Tc_likely (by omega) ep221) ?_
                                                              refine E_aln 2 d_Lw_law_1109 rfl rfl ?_
                                                              refine E_aln 0 d_Lw_law_1110 rfl rfl ?_
                                                              refine E_iln 3 d_Lw_law_1111 rfl rfl ?_
                                                              refine E_ic (v := 1) d_Lw_law_1112 (by decide) ?_
                                                              refine E_iadd d_Lw_law_1113 ?_
                                                              obtain ⟨v223, ev223, hq⟩ := bd hq
                                                              refine E_rs d_Lw_law_1114 ev223 ?_
                                                              refine E_aln 0 d_Lw_law_1115 rfl rfl ?_
                                                              refine E_iln 3 d_Lw_law_1116 rfl rfl ?_
                                                              refine E_ic (v := 2) d_Lw_law_1117 (by decide) ?_
                                                              refine E_iadd d_Lw_law_1118 ?_
                                                              obtain ⟨v224, ev224, hq⟩ := bd hq
                                                              refine E_rs d_Lw_law_1119 ev224 ?_
                                                              obtain ⟨q226, eq226, hq⟩ := bd hq
                                                              obtain ⟨p225, ep225, hq⟩ := bd hq
                                                              refine E_cV2I d_Lw_law_1120 ck_Lw_131 rfl rfl eq226 (Nat.le_of_ble_eq_true rfl) (Nat.le_of_ble_eq_true rfl) (t_Mo_likely (by omega) ep225) ?_
                                                              refine E_jeq (tgt := 1417) d_Lw_law_1123 (by decide) (fun c => ?_) (fun c => ?_)
                                                              · rw [if_pos c] at hq
                                                                refine E_inc (v := 6) (ls' := [(3, .int (x3 + 6)), (0, .ref a0), (1, .ref a1), (2, .ref a2)]) 3 d_Lw_law_1417 rfl (Nat.le_of_ble_eq_true rfl) (by decide) rfl ?_
                                                                refine E_goto (tgt := 18) d_Lw_law_1420 (by decide) ?_
                                                                exact E_sub (ks := [1, 2, 3, 0]) rfl <| ih _ _ _ _ _ _ _ _ (by first | assumption | omega) (by first | assumption | omega) hq
                                                              · rw [if_neg c] at hq
                                                                refine E_ic (v := 0) d_Lw_law_1126 (by decide) ?_
                                                                exact E_rZ d_Lw_law_1127 rfl hq
                                                            · rw [if_neg c27] at hq
                                                              by_cases c28 : (v2 &&& 63) = 28
                                                              · rw [if_pos c28] at hq
                                                                refine E_table (tgt := 1128) d_Lw_law_33 (by rw [c28]; decide) (fun _ _ => ⟨1095, by rw [c28]; decide, by decide⟩) ?_
                                                                refine E_aln 1 d_Lw_law_1128 rfl rfl ?_
                                                                refine E_aln 0 d_Lw_law_1129 rfl rfl ?_
                                                                refine E_iln 3 d_Lw_law_1130 rfl rfl ?_
                                                                refine E_ic (v := 1) d_Lw_law_1131 (by decide) ?_
                                                                refine E_iadd d_Lw_law_1132 ?_
                                                                obtain ⟨v227, ev227, hq⟩ := bd hq
                                                                refine E_rs d_Lw_law_1133 ev227 ?_
                                                                obtain ⟨q229, eq229, hq⟩ := bd hq
                                                                obtain ⟨p228, ep228, hq⟩ := bd hq
                                                                refine E_cV1I d_Lw_law_1134 ck_Lw_132 rfl rfl eq229 (Nat.le_of_ble_eq_true rfl) (Nat.le_of_ble_eq_true rfl) (t_Tc_salt (by omega) ep228) ?_
                                                                refine E_aln 2 d_Lw_law_1137 rfl rfl ?_
                                                                refine E_aln 0 d_Lw_law_1138 rfl rfl ?_
                                                                refine E_iln 3 d_Lw_law_1139 rfl rfl ?_
                                                                refine E_ic (v := 1) d_Lw_law_1140 (by decide) ?_
                                                                refine E_iadd d_Lw_law_1141 ?_
                                                                obtain ⟨v230, ev230, hq⟩ := bd hq
                                                                refine E_rs d_Lw_law_1142 ev230 ?_
                                                                obtain ⟨q232, eq232, hq⟩ := bd hq
                                                                obtain ⟨p231, ep231, hq⟩ := bd hq
                                                                refine E_cV1I d_Lw_law_1143 ck_Lw_135 rfl rfl eq232 (Nat.le_of_ble_eq_true rfl) (Nat.le_of_ble_eq_true rfl) (t_Mo_salt (by omega) ep231) ?_
                                                                refine E_jeq (tgt := 1417) d_Lw_law_1146 (by decide) (fun c => ?_) (fun c => ?_)
                                                                · rw [if_pos c] at hq
                                                                  refine E_inc (v := 6) (ls' := [(3, .int (x3 + 6)), (0, .ref a0), (1, .ref a1), (2, .ref a2)]) 3 d_Lw_law_1417 rfl (Nat.le_of_ble_eq_true rfl) (by decide) rfl ?_
                                                                  refine E_goto (tgt := 18) d_Lw_law_1420 (by decide) ?_
                                                                  exact E_sub (ks := [1, 2, 3, 0]) rfl <| ih _ _ _ _ _ _ _ _ (by first | assumption | omega) (by first | assumption | omega) hq
                                                                · rw [if_neg c] at hq
                                                                  refine E_ic (v := 0) d_Lw_law_1149 (by decide) ?_
                                                                  exact E_rZ d_Lw_law_1150 rfl hq
                                                              · rw [if_neg c28] at hq
                                                                by_cases c29 : (v2 &&& 63) = 29
                                                                · rw [if_pos c29] at hq
                                                                  refine E_table (tgt := 1151) d_Lw_law_33 (by rw [c29]; decide) (fun _ _ => ⟨1118, by rw [c29]; decide, by decide⟩) ?_
                                                                  refine E_aln 1 d_Lw_law_1151 rfl rfl ?_
                                                                  refine E_aln 0 d_Lw_law_1152 rfl rfl ?_
                                                                  refine E_iln 3 d_Lw_law_1153 rfl rfl ?_
                                                                  refine E_ic (v := 1) d_Lw_law_1154 (by decide) ?_
                                                                  refine E_iadd d_Lw_law_1155 ?_
                                                                  obtain ⟨v233, ev233, hq⟩ := bd hq
                                                                  refine E_rs d_Lw_law_1156 ev233 ?_
                                                                  obtain ⟨q235, eq235, hq⟩ := bd hq
                                                                  obtain ⟨p234, ep234, hq⟩ := bd hq
                                                                  refine E_cV1I d_Lw_law_1157 ck_Lw_136 rfl rfl eq235 (Nat.le_of_ble_eq_true rfl) (Nat.le_of_ble_eq_true rfl) (t_Tc_won (by omega) ep234) ?_
                                                                  refine E_aln 2 d_Lw_law_1160 rfl rfl ?_
                                                                  refine E_aln 0 d_Lw_law_1161 rfl rfl ?_
                                                                  refine E_iln 3 d_Lw_law_1162 rfl rfl ?_
                                                                  refine E_ic (v := 1) d_Lw_law_1163 (by decide) ?_
                                                                  refine E_iadd d_Lw_law_1164 ?_
                                                                  obtain ⟨v236, ev236, hq⟩ := bd hq
                                                                  refine E_rs d_Lw_law_1165 ev236 ?_
                                                                  obtain ⟨q238, eq238, hq⟩ := bd hq
                                                                  obtain ⟨p237, ep237, hq⟩ := bd hq
                                                                  refine E_cV1I d_Lw_law_1166 ck_Lw_139 rfl rfl eq238 (Nat.le_of_ble_eq_true rfl) (Nat.le_of_ble_eq_true rfl) (t_Mo_won (by omega) ep237) ?_
                                                                  refine E_jeq (tgt := 1417) d_Lw_law_1169 (by decide) (fun c => ?_) (fun c => ?_)
                                                                  · rw [if_pos c] at hq
                                                                    refine E_inc (v := 6) (ls' := [(3, .int (x3 + 6)), (0, .ref a0), (1, .ref a1), (2, .ref a2)]) 3 d_Lw_law_1417 rfl (Nat.le_of_ble_eq_true rfl) (by decide) rfl ?_
                                                                    refine E_goto (tgt := 18) d_Lw_law_1420 (by decide) ?_
                                                                    exact E_sub (ks := [1, 2, 3, 0]) rfl <| ih _ _ _ _ _ _ _ _ (by first | assumption | omega) (by first | assumption | omega) hq
                                                                  · rw [if_neg c] at hq
                                                                    refine E_ic (v := 0) d_Lw_law_1172 (by decide) ?_
                                                                    exact E_rZ d_Lw_law_1173 rfl hq
                                                                · rw [if_neg c29] at hq
                                                                  by_cases c30 : (v2 &&& 63) = 30
                                                                  · rw [if_pos c30] at hq
                                                                    refine E_table (tgt := 1174) d_Lw_law_33 (by rw [c30]; decide) (fun _ _ => ⟨1141, by rw [c30]; decide, by decide⟩) ?_
                                                                    refine E_aln 1 d_Lw_law_1174 rfl rfl ?_
                                                                    refine E_aln 0 d_Lw_law_1175 rfl rfl ?_
                                                                    refine E_iln 3 d_Lw_law_1176 rfl rfl ?_
                                                                    refine E_ic (v := 1) d_Lw_law_1177 (by decide) ?_
                                                                    refine E_iadd d_Lw_law_1178 ?_
                                                                    obtain ⟨v239, ev239, hq⟩ := bd hq
                                                                    refine E_rs d_Lw_law_1179 ev239 ?_
                                                                    refine E_aln 0 d_Lw_law_1180 rfl rfl ?_
                                                                    refine E_iln 3 d_Lw_law_1181 rfl rfl ?_
                                                                    refine E_ic (v := 2) d_Lw_law_1182 (by decide) ?_
                                                                    refine E_iadd d_Lw_law_1183 ?_
                                                                    obtain ⟨v240, ev240, hq⟩ := bd hq
                                                                    refine E_rs d_Lw_law_1184 ev240 ?_
                                                                    obtain ⟨q242, eq242, hq⟩ := bd hq
                                                                    obtain ⟨p241, ep241, hq⟩ := bd hq
                                                                    refine E_cV2I d_Lw_law_1185 ck_Lw_140 rfl rfl eq242 (Nat.le_of_ble_eq_true rfl) (Nat.le_of_ble_eq_true rfl) (t_Tc_ledger (by omega) ep241) ?_
                                                                    refine E_aln 2 d_Lw_law_1188 rfl rfl ?_
                                                                    refine E_aln 0 d_Lw_law_1189 rfl rfl ?_
                                                                    refine E_iln 3 d_Lw_law_1190 rfl rfl ?_
                                                                    refine E_ic (v := 1) d_Lw_law_1191 (by decide) ?_
                                                                    refine E_iadd d_Lw_law_1192 ?_
                                                                    obtain ⟨v243, ev243, hq⟩ := bd hq
                                                                    refine E_rs d_Lw_law_1193 ev243 ?_
                                                                    refine E_aln 0 d_Lw_law_1194 rfl rfl ?_
                                                                    refine E_iln 3 d_Lw_law_1195 rfl rfl ?_
                                                                    refine E_ic (v := 2) d_Lw_law_1196 (by decide) ?_
                                                                    refine E_iadd d_Lw_law_1197 ?_
                                                                    obtain ⟨v244, ev244, hq⟩ := bd hq
                                                                    refine E_rs d_Lw_law_1198 ev244 ?_
                                                                    obtain ⟨q246, eq246, hq⟩ := bd hq
                                                                    obtain ⟨p245, ep245, hq⟩ := bd hq
                                                                    refine E_cV2I d_Lw_law_1199 ck_Lw_144 rfl rfl eq246 (Nat.le_of_ble_eq_true rfl) (Nat.le_of_ble_eq_true rfl) (t_Mo_ledger (by omega) ep245) ?_
                                                                    refine E_jeq (tgt := 1417) d_Lw_law_1202 (by decide) (fun c => ?_) (fun c => ?_)
                                                                    · rw [if_pos c] at hq
                                                                      refine E_inc (v := 6) (ls' := [(3, .int (x3 + 6)), (0, .ref a0), (1, .ref a1), (2, .ref a2)]) 3 d_Lw_law_1417 rfl (Nat.le_of_ble_eq_true rfl) (by decide) rfl ?_
                                                                      refine E_goto (tgt := 18) d_Lw_law_1420 (by decide) ?_
                                                                      exact E_sub (ks := [1, 2, 3, 0]) rfl <| ih _ _ _ _ _ _ _ _ (by first | assumption | omega) (by first | assumption | omega) hq
                                                                    · rw [if_neg c] at hq
                                                                      refine E_ic (v := 0) d_Lw_law_1205 (by decide) ?_
                                                                      exact E_rZ d_Lw_law_1206 rfl hq
                                                                  · rw [if_neg c30] at hq
                                                                    by_cases c31 : (v2 &&& 63) = 31
                                                                    · rw [if_pos c31] at hq
                                                                      refine E_table (tgt := 1207) d_Lw_law_33 (by rw [c31]; decide) (fun _ _ => ⟨1174, by rw [c31]; decide, by decide⟩) ?_
                                                                      refine E_aln 1 d_Lw_law_1207 rfl rfl ?_
                                                                      refine E_aln 0 d_Lw_law_1208 rfl rfl ?_
                                                                      refine E_iln 3 d_Lw_law_1209 rfl rfl ?_
                                                                      refine E_ic (v := 1) d_Lw_law_1210 (by decide) ?_
                                                                      refine E_iadd d_Lw_law_1211 ?_
                                                                      obtain ⟨v247, ev247, hq⟩ := bd hq
                                                                      refine E_rs d_Lw_law_1212 ev247 ?_
                                                                      obtain ⟨q249, eq249, hq⟩ := bd hq
                                                                      obtain ⟨p248, ep248, hq⟩ := bd hq
                                                                      refine E_cV1I d_Lw_law_1213 ck_Lw_145 rfl rfl eq249 (Nat.le_of_ble_eq_true rfl) (Nat.le_of_ble_eq_true rfl) (t_Tc_altered (by omega) ep248) ?_
                                                                      refine E_aln 2 d_Lw_law_1216 rfl rfl ?_
                                                                      refine E_aln 0 d_Lw_law_1217 rfl rfl ?_
                                                                      refine E_iln 3 d_Lw_law_1218 rfl rfl ?_
                                                                      refine E_ic (v := 1) d_Lw_law_1219 (by decide) ?_
                                                                      refine E_iadd d_Lw_law_1220 ?_
                                                                      obtain ⟨v250, ev250, hq⟩ := bd hq
                                                                      refine E_rs d_Lw_law_1221 ev250 ?_
                                                                      obtain ⟨q252, eq252, hq⟩ := bd hq
                                                                      obtain ⟨p251, ep251, hq⟩ := bd hq
                                                                      refine E_cV1I d_Lw_law_1222 ck_Lw_148 rfl rfl eq252 (Nat.le_of_ble_eq_true rfl) (Nat.le_of_ble_eq_true rfl) (t_Mo_altered (by omega) ep251) ?_
                                                                      refine E_jeq (tgt := 1417) d_Lw_law_1225 (by decide) (fun c => ?_) (fun c => ?_)
                                                                      · rw [if_pos c] at hq
                                                                        refine E_inc (v := 6) (ls' := [(3, .int (x3 + 6)), (0, .ref a0), (1, .ref a1), (2, .ref a2)]) 3 d_Lw_law_1417 rfl (Nat.le_of_ble_eq_true rfl) (by decide) rfl ?_
                                                                        refine E_goto (tgt := 18) d_Lw_law_1420 (by decide) ?_
                                                                        exact E_sub (ks := [1, 2, 3, 0]) rfl <| ih _ _ _ _ _ _ _ _ (by first | assumption | omega) (by first | assumption | omega) hq
                                                                      · rw [if_neg c] at hq
                                                                        refine E_ic (v := 0) d_Lw_law_1228 (by decide) ?_
                                                                        exact E_rZ d_Lw_law_1229 rfl hq
                                                                    · rw [if_neg c31] at hq
                                                                      by_cases c32 : (v2 &&& 63) = 32
                                                                      · rw [if_pos c32] at hq
                                                                        refine E_table (tgt := 1230) d_Lw_law_33 (by rw [c32]; decide) (fun _ _ => ⟨1197, by rw [c32]; decide, by decide⟩) ?_
                                                                        refine E_aln 1 d_Lw_law_1230 rfl rfl ?_
                                                                        refine E_aln 0 d_Lw_law_1231 rfl rfl ?_
                                                                        refine E_iln 3 d_Lw_law_1232 rfl rfl ?_
                                                                        refine E_ic (v := 1) d_Lw_law_1233 (by decide) ?_
                                                                        refine E_iadd d_Lw_law_1234 ?_
                                                                        obtain ⟨v253, ev253, hq⟩ := bd hq
                                                                        refine E_rs d_Lw_law_1235 ev253 ?_
                                                                        refine E_aln 0 d_Lw_law_1236 rfl rfl ?_
                                                                        refine E_iln 3 d_Lw_law_1237 rfl rfl ?_
                                                                        refine E_ic (v := 2) d_Lw_law_1238 (by decide) ?_
                                                                        refine E_iadd d_Lw_law_1239 ?_
                                                                        obtain ⟨v254, ev254, hq⟩ := bd hq
                                                                        refine E_rs d_Lw_law_1240 ev254 ?_
                                                                        obtain ⟨q256, eq256, hq⟩ := bd hq
                                                                        obtain ⟨p255, ep255, hq⟩ := bd hq
                                                                        refine E_cV2I d_Lw_law_1241 ck_Lw_149 rfl rfl eq256 (Nat.le_of_ble_eq_true rfl) (Nat.le_of_ble_eq_true rfl) (t_Tc_years (by omega) ep255) ?_
                                                                        refine E_aln 2 d_Lw_law_1244 rfl rfl ?_
                                                                        refine E_aln 0 d_Lw_law_1245 rfl rfl ?_
                                                                        refine E_iln 3 d_Lw_law_1246 rfl rfl ?_
                                                                        refine E_ic (v := 1) d_Lw_law_1247 (by decide) ?_
                                                                        refine E_iadd d_Lw_law_1248 ?_
                                                                        obtain ⟨v257, ev257, hq⟩ := bd hq
                                                                        refine E_rs d_Lw_law_1249 ev257 ?_
                                                                        refine E_aln 0 d_Lw_law_1250 rfl rfl ?_
                                                                        refine E_iln 3 d_Lw_law_1251 rfl rfl ?_
                                                                        refine E_ic (v := 2) d_Lw_law_1252 (by decide) ?_
                                                                        refine E_iadd d_Lw_law_1253 ?_
                                                                        obtain ⟨v258, ev258, hq⟩ := bd hq
                                                                        refine E_rs d_Lw_law_1254 ev258 ?_
                                                                        obtain ⟨q260, eq260, hq⟩ := bd hq
                                                                        obtain ⟨p259, ep259, hq⟩ := bd hq
                                                                        refine E_cV2I d_Lw_law_1255 ck_Lw_152 rfl rfl eq260 (Nat.le_of_ble_eq_true rfl) (Nat.le_of_ble_eq_true rfl) (t_Mo_years (by omega) ep259) ?_
                                                                        refine E_jeq (tgt := 1417) d_Lw_law_1258 (by decide) (fun c => ?_) (fun c => ?_)
                                                                        · rw [if_pos c] at hq
                                                                          refine E_inc (v := 6) (ls' := [(3, .int (x3 + 6)), (0, .ref a0), (1, .ref a1), (2, .ref a2)]) 3 d_Lw_law_1417 rfl (Nat.le_of_ble_eq_true rfl) (by decide) rfl ?_
                                                                          refine E_goto (tgt := 18) d_Lw_law_1420 (by decide) ?_
                                                                          exact E_sub (ks := [1, 2, 3, 0]) rfl <| ih _ _ _ _ _ _ _ _ (by first | assumption | omega) (by first | assumption | omega) hq
                                                                        · rw [if_neg c] at hq
                                                                          refine E_ic (v := 0) d_Lw_law_1261 (by decide) ?_
                                                                          exact E_rZ d_Lw_law_1262 rfl hq
                                                                      · rw [if_neg c32] at hq
                                                                        by_cases c33 : (v2 &&& 63) = 33
                                                                        · rw [if_pos c33] at hq
                                                                          refine E_table (tgt := 1263) d_Lw_law_33 (by rw [c33]; decide) (fun _ _ => ⟨1230, by rw [c33]; decide, by decide⟩) ?_
                                                                          refine E_aln 1 d_Lw_law_1263 rfl rfl ?_
                                                                          refine E_aln 0 d_Lw_law_1264 rfl rfl ?_
                                                                          refine E_iln 3 d_Lw_law_1265 rfl rfl ?_
                                                                          refine E_ic (v := 1) d_Lw_law_1266 (by decide) ?_
                                                                          refine E_iadd d_Lw_law_1267 ?_
                                                                          obtain ⟨v261, ev261, hq⟩ := bd hq
                                                                          refine E_rs d_Lw_law_1268 ev261 ?_
                                                                          obtain ⟨q263, eq263, hq⟩ := bd hq
                                                                          obtain ⟨p262, ep262, hq⟩ := bd hq
                                                                          refine E_cV1I d_Lw_law_1269 ck_Lw_153 rfl rfl eq263 (Nat.le_of_ble_eq_true rfl) (Nat.le_of_ble_eq_true rfl) (t_Tc_dry (by omega) ep262) ?_
                                                                          refine E_aln 2 d_Lw_law_1272 rfl rfl ?_
                                                                          refine E_aln 0 d_Lw_law_1273 rfl rfl ?_
                                                                          refine E_iln 3 d_Lw_law_1274 rfl rfl ?_
                                                                          refine E_ic (v := 1) d_Lw_law_1275 (by decide) ?_
                                                                          refine E_iadd d_Lw_law_1276 ?_
                                                                          obtain ⟨v264, ev264, hq⟩ := bd hq
                                                                          refine E_rs d_Lw_law_1277 ev264 ?_
                                                                          obtain ⟨q266, eq266, hq⟩ := bd hq
                                                                          obtain ⟨p265, ep265, hq⟩ := bd hq
                                                                          refine E_cV1I d_Lw_law_1278 ck_Lw_156 rfl rfl eq266 (Nat.le_of_ble_eq_true rfl) (Nat.le_of_ble_eq_true rfl) (t_Mo_dry (by omega) ep265) ?_
                                                                          refine E_jeq (tgt := 1417) d_Lw_law_1281 (by decide) (fun c => ?_) (fun c => ?_)
                                                                          · rw [if_pos c] at hq
                                                                            refine E_inc (v := 6) (ls' := [(3, .int (x3 + 6)), (0, .ref a0), (1, .ref a1), (2, .ref a2)]) 3 d_Lw_law_1417 rfl (Nat.le_of_ble_eq_true rfl) (by decide) rfl ?_
                                                                            refine E_goto (tgt := 18) d_Lw_law_1420 (by decide) ?_
                                                                            exact E_sub (ks := [1, 2, 3, 0]) rfl <| ih _ _ _ _ _ _ _ _ (by first | assumption | omega) (by first | assumption | omega) hq
                                                                          · rw [if_neg c] at hq
                                                                            refine E_ic (v := 0) d_Lw_law_1284 (by decide) ?_
                                                                            exact E_rZ d_Lw_law_1285 rfl hq
                                                                        · rw [if_neg c33] at hq
                                                                          by_cases c34 : (v2 &&& 63) = 34
                                                                          · rw [if_pos c34] at hq
                                                                            refine E_table (tgt := 1286) d_Lw_law_33 (by rw [c34]; decide) (fun _ _ => ⟨1253, by rw [c34]; decide, by decide⟩) ?_
                                                                            refine E_aln 1 d_Lw_law_1286 rfl rfl ?_
                                                                            refine E_aln 0 d_Lw_law_1287 rfl rfl ?_
                                                                            refine E_iln 3 d_Lw_law_1288 rfl rfl ?_
                                                                            refine E_ic (v := 1) d_Lw_law_1289 (by decide) ?_
                                                                            refine E_iadd d_Lw_law_1290 ?_
                                                                            obtain ⟨v267, ev267, hq⟩ := bd hq
                                                                            refine E_rs d_Lw_law_1291 ev267 ?_
                                                                            refine E_aln 0 d_Lw_law_1292 rfl rfl ?_
                                                                            refine E_iln 3 d_Lw_law_1293 rfl rfl ?_
                                                                            refine E_ic (v := 2) d_Lw_law_1294 (by decide) ?_
                                                                            refine E_iadd d_Lw_law_1295 ?_
                                                                            obtain ⟨v268, ev268, hq⟩ := bd hq
                                                                            refine E_rs d_Lw_law_1296 ev268 ?_
                                                                            obtain ⟨q270, eq270, hq⟩ := bd hq
                                                                            obtain ⟨p269, ep269, hq⟩ := bd hq
                                                                            refine E_cV2I d_Lw_law_1297 ck_Lw_157 rfl rfl eq270 (Nat.le_of_ble_eq_true rfl) (Nat.le_of_ble_eq_true rfl) (t_Tc_votes (by omega) ep269) ?_
                                                                            refine E_aln 2 d_Lw_law_1300 rfl rfl ?_
                                                                            refine E_aln 0 d_Lw_law_1301 rfl rfl ?_
                                                                            refine E_iln 3 d_Lw_law_1302 rfl rfl ?_
                                                                            refine E_ic (v := 1) d_Lw_law_1303 (by decide) ?_
                                                                            refine E_iadd d_Lw_law_1304 ?_
                                                                            obtain ⟨v271, ev271, hq⟩ := bd hq
                                                                            refine E_rs d_Lw_law_1305 ev271 ?_
                                                                            refine E_aln 0 d_Lw_law_1306 rfl rfl ?_
                                                                            refine E_iln 3 d_Lw_law_1307 rfl rfl ?_
                                                                            refine E_ic (v := 2) d_Lw_law_1308 (by decide) ?_
                                                                            refine E_iadd d_Lw_law_1309 ?_
                                                                            obtain ⟨v272, ev272, hq⟩ := bd hq
                                                                            refine E_rs d_Lw_law_1310 ev272 ?_
                                                                            obtain ⟨q274, eq274, hq⟩ := bd hq
                                                                            obtain ⟨p273, ep273, hq⟩ := bd hq
                                                                            refine E_cV2I d_Lw_law_1311 ck_Lw_160 rfl rfl eq274 (Nat.le_of_ble_eq_true rfl) (Nat.le_of_ble_eq_true rfl) (t_Mo_votes (by omega) ep273) ?_
                                                                            refine E_jeq (tgt := 1417) d_Lw_law_1314 (by decide) (fun c => ?_) (fun c => ?_)
                                                                            · rw [if_pos c] at hq
                                                                              refine E_inc (v := 6) (ls' := [(3, .int (x3 + 6)), (0, .ref a0), (1, .ref a1), (2, .ref a2)]) 3 d_Lw_law_1417 rfl (Nat.le_of_ble_eq_true rfl) (by decide) rfl ?_
                                                                              refine E_goto (tgt := 18) d_Lw_law_1420 (by decide) ?_
                                                                              exact E_sub (ks := [1, 2, 3, 0]) rfl <| ih _ _ _ _ _ _ _ _ (by first | assumption | omega) (by first | assumption | omega) hq
                                                                            · rw [if_neg c] at hq
                                                                              refine E_ic (v := 0) d_Lw_law_1317 (by decide) ?_
                                                                              exact E_rZ d_Lw_law_1318 rfl hq
                                                                          · rw [if_neg c34] at hq
                                                                            by_cases c35 : (v2 &&& 63) = 35
                                                                            · rw [if_pos c35] at hq
                                                                              refine E_table (tgt := 1319) d_Lw_law_33 (by rw [c35]; decide) (fun _ _ => ⟨1286, by rw [c35]; decide, by decide⟩) ?_
                                                                              refine E_aln 1 d_Lw_law_1319 rfl rfl ?_
                                                                              refine E_aln 0 d_Lw_law_1320 rfl rfl ?_
                                                                              refine E_iln 3 d_Lw_law_1321 rfl rfl ?_
                                                                              refine E_ic (v := 1) d_Lw_law_1322 (by decide) ?_
                                                                              refine E_iadd d_Lw_law_1323 ?_
                                                                              obtain ⟨v275, ev275, hq⟩ := bd hq
                                                                              refine E_rs d_Lw_law_1324 ev275 ?_
                                                                              obtain ⟨q277, eq277, hq⟩ := bd hq
                                                                              obtain ⟨p276, ep276, hq⟩ := bd hq
                                                                              refine E_cV1I d_Lw_law_1325 ck_Lw_161 rfl rfl eq277 (Nat.le_of_ble_eq_true rfl) (Nat.le_of_ble_eq_true rfl) (t_Tc_game (by omega) ep276) ?_
                                                                              refine E_aln 2 d_Lw_law_1328 rfl rfl ?_
                                                                              refine E_aln 0 d_Lw_law_1329 rfl rfl ?_
                                                                              refine E_iln 3 d_Lw_law_1330 rfl rfl ?_
                                                                              refine E_ic (v := 1) d_Lw_law_1331 (by decide) ?_
                                                                              refine E_iadd d_Lw_law_1332 ?_
                                                                              obtain ⟨v278, ev278, hq⟩ := bd hq
                                                                              refine E_rs d_Lw_law_1333 ev278 ?_
                                                                              obtain ⟨q280, eq280, hq⟩ := bd hq
                                                                              obtain ⟨p279, ep279, hq⟩ := bd hq
                                                                              refine E_cV1I d_Lw_law_1334 ck_Lw_164 rfl rfl eq280 (Nat.le_of_ble_eq_true rfl) (Nat.le_of_ble_eq_true rfl) (t_Mo_game (by omega) ep279) ?_
                                                                              refine E_jeq (tgt := 1417) d_Lw_law_1337 (by decide) (fun c => ?_) (fun c => ?_)
                                                                              · rw [if_pos c] at hq
                                                                                refine E_inc (v := 6) (ls' := [(3, .int (x3 + 6)), (0, .ref a0), (1, .ref a1), (2, .ref a2)]) 3 d_Lw_law_1417 rfl (Nat.le_of_ble_eq_true rfl) (by decide) rfl ?_
                                                                                refine E_goto (tgt := 18) d_Lw_law_1420 (by decide) ?_
                                                                                exact E_sub (ks := [1, 2, 3, 0]) rfl <| ih _ _ _ _ _ _ _ _ (by first | assumption | omega) (by first | assumption | omega) hq
                                                                              · rw [if_neg c] at hq
                                                                                refine E_ic (v := 0) d_Lw_law_1340 (by decide) ?_
                                                                                exact E_rZ d_Lw_law_1341 rfl hq
                                                                            · rw [if_neg c35] at hq
                                                                              by_cases c36 : (v2 &&& 63) = 36
                                                                              · rw [if_pos c36] at hq
                                                                                refine E_table (tgt := 1342) d_Lw_law_33 (by rw [c36]; decide) (fun _ _ => ⟨1309, by rw [c36]; decide, by decide⟩) ?_
                                                                                refine E_aln 1 d_Lw_law_1342 rfl rfl ?_
                                                                                obtain ⟨q282, eq282, hq⟩ := bd hq
                                                                                obtain ⟨p281, ep281, hq⟩ := bd hq
                                                                                refine E_cV0I d_Lw_law_1343 ck_Lw_165 rfl rfl eq282 (Nat.le_of_ble_eq_true rfl) (Nat.le_of_ble_eq_true rfl) (t_Tc_undo (by omega) ep281) ?_
                                                                                refine E_aln 2 d_Lw_law_1346 rfl rfl ?_
                                                                                obtain ⟨q284, eq284, hq⟩ := bd hq
                                                                                obtain ⟨p283, ep283, hq⟩ := bd hq
                                                                                refine E_cV0I d_Lw_law_1347 ck_Lw_169 rfl rfl eq284 (Nat.le_of_ble_eq_true rfl) (Nat.le_of_ble_eq_true rfl) (t_Mo_undo (by omega) ep283) ?_
                                                                                refine E_jeq (tgt := 1417) d_Lw_law_1350 (by decide) (fun c => ?_) (fun c => ?_)
                                                                                · rw [if_pos c] at hq
                                                                                  refine E_inc (v := 6) (ls' := [(3, .int (x3 + 6)), (0, .ref a0), (1, .ref a1), (2, .ref a2)]) 3 d_Lw_law_1417 rfl (Nat.le_of_ble_eq_true rfl) (by decide) rfl ?_
                                                                                  refine E_goto (tgt := 18) d_Lw_law_1420 (by decide) ?_
                                                                                  exact E_sub (ks := [1, 2, 3, 0]) rfl <| ih _ _ _ _ _ _ _ _ (by first | assumption | omega) (by first | assumption | omega) hq
                                                                                · rw [if_neg c] at hq
                                                                                  refine E_ic (v := 0) d_Lw_law_1353 (by decide) ?_
                                                                                  exact E_rZ d_Lw_law_1354 rfl hq
                                                                              · rw [if_neg c36] at hq
                                                                                by_cases c37 : (v2 &&& 63) = 37
                                                                                · rw [if_pos c37] at hq
                                                                                  refine E_table (tgt := 1355) d_Lw_law_33 (by rw [c37]; decide) (fun _ _ => ⟨1322, by rw [c37]; decide, by decide⟩) ?_
                                                                                  refine E_aln 1 d_Lw_law_1355 rfl rfl ?_
                                                                                  refine E_aln 0 d_Lw_law_1356 rfl rfl ?_
                                                                                  refine E_iln 3 d_Lw_law_1357 rfl rfl ?_
                                                                                  refine E_ic (v := 1) d_Lw_law_1358 (by decide) ?_
                                                                                  refine E_iadd d_Lw_law_1359 ?_
                                                                                  obtain ⟨v285, ev285, hq⟩ := bd hq
                                                                                  refine E_rs d_Lw_law_1360 ev285 ?_
                                                                                  refine E_zeq (tgt := 1368) d_Lw_law_1361 (by decide) (fun c => ?_) (fun c => ?_)
                                                                                  · rw [if_pos c] at hq
                                                                                    refine E_ic (v := 0) d_Lw_law_1368 (by decide) ?_
                                                                                    exact t_Lw_law_1369 (by omega) (by first | assumption | omega) (by first | assumption | omega) ih hq
                                                                                  · rw [if_neg c] at hq
                                                                                    refine E_ic (v := 1) d_Lw_law_1364 (by decide) ?_
                                                                                    refine E_goto (tgt := 1369) d_Lw_law_1365 (by decide) ?_
                                                                                    exact t_Lw_law_1369 (by omega) (by first | assumption | omega) (by first | assumption | omega) ih hq
                                                                                · rw [if_neg c37] at hq
                                                                                  by_cases c38 : (v2 &&& 63) = 38
                                                                                  · rw [if_pos c38] at hq
                                                                                    refine E_table (tgt := 1394) d_Lw_law_33 (by rw [c38]; decide) (fun _ _ => ⟨1361, by rw [c38]; decide, by decide⟩) ?_
                                                                                    refine E_aln 1 d_Lw_law_1394 rfl rfl ?_
                                                                                    refine E_aln 0 d_Lw_law_1395 rfl rfl ?_
                                                                                    refine E_iln 3 d_Lw_law_1396 rfl rfl ?_
                                                                                    refine E_ic (v := 1) d_Lw_law_1397 (by decide) ?_
                                                                                    refine E_iadd d_Lw_law_1398 ?_
                                                                                    obtain ⟨v286, ev286, hq⟩ := bd hq
                                                                                    refine E_rs d_Lw_law_1399 ev286 ?_
                                                                                    obtain ⟨q288, eq288, hq⟩ := bd hq
                                                                                    obtain ⟨p287, ep287, hq⟩ := bd hq
                                                                                    refine E_cV1I d_Lw_law_1400 ck_Lw_175 rfl rfl eq288 (Nat.le_of_ble_eq_true rfl) (Nat.le_of_ble_eq_true rfl) (t_Tc_look (by omega) ep287) ?_
                                                                                    refine E_aln 2 d_Lw_law_1403 rfl rfl ?_
                                                                                    refine E_aln 0 d_Lw_law_1404 rfl rfl ?_
                                                                                    refine E_iln 3 d_Lw_law_1405 rfl rfl ?_
                                                                                    refine E_ic (v := 1) d_Lw_law_1406 (by decide) ?_
                                                                                    refine E_iadd d_Lw_law_1407 ?_
                                                                                    obtain ⟨v289, ev289, hq⟩ := bd hq
                                                                                    refine E_rs d_Lw_law_1408 ev289 ?_
                                                                                    obtain ⟨q291, eq291, hq⟩ := bd hq
                                                                                    obtain ⟨p290, ep290, hq⟩ := bd hq
                                                                                    refine E_cV1I d_Lw_law_1409 ck_Lw_178 rfl rfl eq291 (Nat.le_of_ble_eq_true rfl) (Nat.le_of_ble_eq_true rfl) (t_Mo_look (by omega) ep290) ?_
                                                                                    refine E_jeq (tgt := 1417) d_Lw_law_1412 (by decide) (fun c => ?_) (fun c => ?_)
                                                                                    · rw [if_pos c] at hq
                                                                                      refine E_inc (v := 6) (ls' := [(3, .int (x3 + 6)), (0, .ref a0), (1, .ref a1), (2, .ref a2)]) 3 d_Lw_law_1417 rfl (Nat.le_of_ble_eq_true rfl) (by decide) rfl ?_
                                                                                      refine E_goto (tgt := 18) d_Lw_law_1420 (by decide) ?_
                                                                                      exact E_sub (ks := [1, 2, 3, 0]) rfl <| ih _ _ _ _ _ _ _ _ (by first | assumption | omega) (by first | assumption | omega) hq
                                                                                    · rw [if_neg c] at hq
                                                                                      refine E_ic (v := 0) d_Lw_law_1415 (by decide) ?_
                                                                                      exact E_rZ d_Lw_law_1416 rfl hq
                                                                                  · rw [if_neg c38] at hq
                                                                                    refine E_table (tgt := 1417) d_Lw_law_33 (fun _ => by decide) (fun z1 z2 => (tab_out (l := [0, 1, 2, 3, 4, 5, 6, 7, 8, 9, 10, 11, 12, 13, 14, 15, 16, 17, 18, 19, 20, 21, 22, 23, 24, 25, 26, 27, 28, 29, 30, 31, 32, 33, 34, 35, 36, 37, 38]) ⟨(fun z => c0 (z.trans (by decide))), (fun z => c1 (z.trans (by decide))), (fun z => c2 (z.trans (by decide))), (fun z => c3 (z.trans (by decide))), (fun z => c4 (z.trans (by decide))), (fun z => c5 (z.trans (by decide))), (fun z => c6 (z.trans (by decide))), (fun z => c7 (z.trans (by decide))), (fun z => c8 (z.trans (by decide))), (fun z => c9 (z.trans (by decide))), (fun z => c10 (z.trans (by decide))), (fun z => c11 (z.trans (by decide))), (fun z => c12 (z.trans (by decide))), (fun z => c13 (z.trans (by decide))), (fun z => c14 (z.trans (by decide))), (fun z => c15 (z.trans (by decide))), (fun z => c16 (z.trans (by decide))), (fun z => c17 (z.trans (by decide))), (fun z => c18 (z.trans (by decide))), (fun z => c19 (z.trans (by decide))), (fun z => c20 (z.trans (by decide))), (fun z => c21 (z.trans (by decide))), (fun z => c22 (z.trans (by decide))), (fun z => c23 (z.trans (by decide))), (fun z => c24 (z.trans (by decide))), (fun z => c25 (z.trans (by decide))), (fun z => c26 (z.trans (by decide))), (fun z => c27 (z.trans (by decide))), (fun z => c28 (z.trans (by decide))), (fun z => c29 (z.trans (by decide))), (fun z => c30 (z.trans (by decide))), (fun z => c31 (z.trans (by decide))), (fun z => c32 (z.trans (by decide))), (fun z => c33 (z.trans (by decide))), (fun z => c34 (z.trans (by decide))), (fun z => c35 (z.trans (by decide))), (fun z => c36 (z.trans (by decide))), (fun z => c37 (z.trans (by decide))), (fun z => c38 (z.trans (by decide))), trivial⟩ (by decide) z1 z2).elim) ?_
                                                                                    refine E_inc (v := 6) (ls' := [(3, .int (x3 + 6)), (0, .ref a0), (1, .ref a1), (2, .ref a2)]) 3 d_Lw_law_1417 rfl (Nat.le_of_ble_eq_true rfl) (by decide) rfl ?_
                                                                                    refine E_goto (tgt := 18) d_Lw_law_1420 (by decide) ?_
                                                                                    exact E_sub (ks := [1, 2, 3, 0]) rfl <| ih _ _ _ _ _ _ _ _ (by first | assumption | omega) (by first | assumption | omega) hq
def f_Lw_law (a0 : Nat) (h : PH) : Option (Int32 × PH) :=
  (some (nw h (0, 8))).bind fun h1 =>
  (f_Tc_init (gN h)  h1).bind fun h2 =>
  (some (nw h2 (0, 9))).bind fun h3 =>
  (f_Mo_init (gN h2)  h3).bind fun h4 =>
  f_Lw_law_18 514 a0 (gN h) (gN h2) 0 h4
theorem t_Lw_law {d : Nat} (hd : 30 ≤ d) {mc ms : Nat} (hmc : 20230 ≤ mc) (hms : 982147 ≤ ms) {a0 : Nat} {h : PH} {r : Int32 × PH} (hq : f_Lw_law a0 h = some r) : E d mc ms m_Lw_law 0 [(0, .ref a0)] [] h (PI r) := by
  unfold f_Lw_law at hq
  obtain ⟨d, rfl⟩ : ∃ e, d = e + 1 := ⟨d - 1, by omega⟩
  obtain ⟨h1, eh1, hq⟩ := bd hq
  cases eh1
  refine E_new (mc' := mc - 1) (ms' := ms - 6) d_Lw_law_0 ln_Lw_7 (by omega) (by show _ + 6 ≤ _; omega) ?_
  refine E_dupr d_Lw_law_3 ?_
  obtain ⟨h2, eh2, hq⟩ := bd hq
  refine E_cI0VA (mc1 := 140) (ms1 := 4875) (mc2 := mc - 141) (ms2 := ms - 4881) d_Lw_law_4 ck_Lw_9 (Nat.le_of_ble_eq_true rfl) (Nat.le_of_ble_eq_true rfl) (by omega) (by omega) (t_Tc_init (by omega) (Nat.le_refl _) (Nat.le_refl _) eh2) ?_
  refine E_asn (ls' := [(1, .ref (gN h)), (0, .ref a0)]) d_Lw_law_7 (Nat.le_of_ble_eq_true rfl) rfl ?_
  obtain ⟨h3, eh3, hq⟩ := bd hq
  cases eh3
  refine E_new (mc' := mc - 142) (ms' := ms - 4955) d_Lw_law_8 ln_Lw_10 (by omega) (by show _ + 74 ≤ _; omega) ?_
  refine E_dupr d_Lw_law_11 ?_
  obtain ⟨h4, eh4, hq⟩ := bd hq
  refine E_cI0VA (mc1 := 42) (ms1 := 7788) (mc2 := mc - 184) (ms2 := ms - 12743) d_Lw_law_12 ck_Lw_12 (Nat.le_of_ble_eq_true rfl) (Nat.le_of_ble_eq_true rfl) (by omega) (by omega) (t_Mo_init (by omega) (Nat.le_refl _) (Nat.le_refl _) eh4) ?_
  refine E_asn (ls' := [(2, .ref (gN h2)), (1, .ref (gN h)), (0, .ref a0)]) d_Lw_law_15 (Nat.le_of_ble_eq_true rfl) rfl ?_
  refine E_ic (v := 0) d_Lw_law_16 (by decide) ?_
  refine E_isn (ls' := [(3, .int 0), (2, .ref (gN h2)), (1, .ref (gN h)), (0, .ref a0)]) d_Lw_law_17 (Nat.le_of_ble_eq_true rfl) rfl ?_
  exact E_sub (ks := [3, 2, 1, 0]) rfl <| t_Lw_law_18 (by omega) _ _ _ _ _ _ _ _ _ (by omega) (by omega) hq
