/-! The words that calls ask. By program. -/
def ab_HT : List (List (Nat × Nat × Nat × Nat)) := [[(0, 9, 12, 13), (0, 9, 15, 15)], [(0, 8, 11, 15), (0, 8, 14, 21)], [(0, 10, 13, 27)], [(0, 7, 10, 27), (0, 7, 14, 13)], [(0, 21, 24, 27), (0, 21, 28, 13)], [(0, 21, 24, 27), (0, 21, 28, 13)], [(0, 8, 11, 15)], [(0, 9, 12, 15), (0, 9, 15, 13)], [(0, 10, 13, 27), (0, 10, 17, 13)]]
/-- a method's handlers -/
def ab_hh (i : Nat) : List (Nat × Nat × Nat × Nat) := if 127 ≤ i ∧ i ≤ 135 then ab_HT.getD (i - 127) [] else []
def ab_kw (i : Nat) : Cond := if 127 ≤ i ∧ i ≤ 135 then .codeWith (ab_yn i) (ab_bc i) (ab_ml i) (ab_rt i) (ab_hh i) else .code (ab_yn i) (ab_bc i) (ab_ml i) (ab_rt i)
set_option maxRecDepth 100000 in
theorem kw_0 : ab_kw 0 ∈ lw_tbl := List.mem_append_right _ (List.mem_of_getElem? (i := 239) (by decide +kernel))
theorem im_0 : Cond.instanceMethod (ab_yn 0) ∈ lw_tbl := List.mem_append_right _ (List.mem_of_getElem? (i := 237) (by decide +kernel))
theorem se_0 : Cond.selects (ab_yn 0).cls (ab_yn 0) (ab_yn 0) ∈ lw_tbl := List.mem_append_right _ (List.mem_of_getElem? (i := 238) (by decide +kernel))
set_option maxRecDepth 100000 in
theorem kw_1 : ab_kw 1 ∈ lw_tbl := List.mem_append_right _ (List.mem_of_getElem? (i := 175) (by decide +kernel))
theorem im_1 : Cond.instanceMethod (ab_yn 1) ∈ lw_tbl := List.mem_append_right _ (List.mem_of_getElem? (i := 173) (by decide +kernel))
theorem se_1 : Cond.selects (ab_yn 1).cls (ab_yn 1) (ab_yn 1) ∈ lw_tbl := List.mem_append_right _ (List.mem_of_getElem? (i := 174) (by decide +kernel))
set_option maxRecDepth 100000 in
theorem kw_2 : ab_kw 2 ∈ lw_tbl := List.mem_append_right _ (List.mem_of_getElem? (i := 349) (by decide +kernel))
theorem im_2 : Cond.instanceMethod (ab_yn 2) ∈ lw_tbl := List.mem_append_right _ (List.mem_of_getElem? (i := 347) (by decide +kernel))
theorem se_2 : Cond.selects (ab_yn 2).cls (ab_yn 2) (ab_yn 2) ∈ lw_tbl := List.mem_append_right _ (List.mem_of_getElem? (i := 348) (by decide +kernel))
set_option maxRecDepth 100000 in
theorem kw_3 : ab_kw 3 ∈ lw_tbl := List.mem_append_right _ (List.mem_of_getElem? (i := 199) (by decide +kernel))
theorem im_3 : Cond.instanceMethod (ab_yn 3) ∈ lw_tbl := List.mem_append_right _ (List.mem_of_getElem? (i := 197) (by decide +kernel))
theorem se_3 : Cond.selects (ab_yn 3).cls (ab_yn 3) (ab_yn 3) ∈ lw_tbl := List.mem_append_right _ (List.mem_of_getElem? (i := 198) (by decide +kernel))
set_option maxRecDepth 100000 in
theorem kw_4 : ab_kw 4 ∈ lw_tbl := List.mem_append_right _ (List.mem_of_getElem? (i := 461) (by decide +kernel))
theorem im_4 : Cond.instanceMethod (ab_yn 4) ∈ lw_tbl := List.mem_append_right _ (List.mem_of_getElem? (i := 459) (by decide +kernel))
theorem se_4 : Cond.selects (ab_yn 4).cls (ab_yn 4) (ab_yn 4) ∈ lw_tbl := List.mem_append_right _ (List.mem_of_getElem? (i := 460) (by decide +kernel))
set_option maxRecDepth 100000 in
theorem kw_5 : ab_kw 5 ∈ lw_tbl := List.mem_append_right _ (List.mem_of_getElem? (i := 494) (by decide +kernel))
theorem im_5 : Cond.instanceMethod (ab_yn 5) ∈ lw_tbl := List.mem_append_right _ (List.mem_of_getElem? (i := 492) (by decide +kernel))
theorem se_5 : Cond.selects (ab_yn 5).cls (ab_yn 5) (ab_yn 5) ∈ lw_tbl := List.mem_append_right _ (List.mem_of_getElem? (i := 493) (by decide +kernel))
set_option maxRecDepth 100000 in
theorem kw_6 : ab_kw 6 ∈ lw_tbl := List.mem_append_right _ (List.mem_of_getElem? (i := 508) (by decide +kernel))
theorem im_6 : Cond.instanceMethod (ab_yn 6) ∈ lw_tbl := List.mem_append_right _ (List.mem_of_getElem? (i := 506) (by decide +kernel))
theorem se_6 : Cond.selects (ab_yn 6).cls (ab_yn 6) (ab_yn 6) ∈ lw_tbl := List.mem_append_right _ (List.mem_of_getElem? (i := 507) (by decide +kernel))
set_option maxRecDepth 100000 in
theorem kw_7 : ab_kw 7 ∈ lw_tbl := List.mem_append_right _ (List.mem_of_getElem? (i := 530) (by decide +kernel))
theorem im_7 : Cond.instanceMethod (ab_yn 7) ∈ lw_tbl := List.mem_append_right _ (List.mem_of_getElem? (i := 528) (by decide +kernel))
theorem se_7 : Cond.selects (ab_yn 7).cls (ab_yn 7) (ab_yn 7) ∈ lw_tbl := List.mem_append_right _ (List.mem_of_getElem? (i := 529) (by decide +kernel))
set_option maxRecDepth 100000 in
theorem kw_8 : ab_kw 8 ∈ lw_tbl := List.mem_append_right _ (List.mem_of_getElem? (i := 541) (by decide +kernel))
theorem im_8 : Cond.instanceMethod (ab_yn 8) ∈ lw_tbl := List.mem_append_right _ (List.mem_of_getElem? (i := 539) (by decide +kernel))
theorem se_8 : Cond.selects (ab_yn 8).cls (ab_yn 8) (ab_yn 8) ∈ lw_tbl := List.mem_append_right _ (List.mem_of_getElem? (i := 540) (by decide +kernel))
set_option maxRecDepth 100000 in
theorem kw_9 : ab_kw 9 ∈ lw_tbl := List.mem_append_right _ (List.mem_of_getElem? (i := 203) (by decide +kernel))
theorem im_9 : Cond.instanceMethod (ab_yn 9) ∈ lw_tbl := List.mem_append_right _ (List.mem_of_getElem? (i := 201) (by decide +kernel))
theorem se_9 : Cond.selects (ab_yn 9).cls (ab_yn 9) (ab_yn 9) ∈ lw_tbl := List.mem_append_right _ (List.mem_of_getElem? (i := 202) (by decide +kernel))
set_option maxRecDepth 100000 in
theorem kw_10 : ab_kw 10 ∈ lw_tbl := List.mem_append_right _ (List.mem_of_getElem? (i := 211) (by decide +kernel))
theorem im_10 : Cond.instanceMethod (ab_yn 10) ∈ lw_tbl := List.mem_append_right _ (List.mem_of_getElem? (i := 209) (by decide +kernel))
theorem se_10 : Cond.selects (ab_yn 10).cls (ab_yn 10) (ab_yn 10) ∈ lw_tbl := List.mem_append_right _ (List.mem_of_getElem? (i := 210) (by decide +kernel))
set_option maxRecDepth 100000 in
theorem kw_11 : ab_kw 11 ∈ lw_tbl := List.mem_append_right _ (List.mem_of_getElem? (i := 222) (by decide +kernel))
theorem im_11 : Cond.instanceMethod (ab_yn 11) ∈ lw_tbl := List.mem_append_right _ (List.mem_of_getElem? (i := 220) (by decide +kernel))
theorem se_11 : Cond.selects (ab_yn 11).cls (ab_yn 11) (ab_yn 11) ∈ lw_tbl := List.mem_append_right _ (List.mem_of_getElem? (i := 221) (by decide +kernel))
set_option maxRecDepth 100000 in
theorem kw_12 : ab_kw 12 ∈ lw_tbl := List.mem_append_right _ (List.mem_of_getElem? (i := 601) (by decide +kernel))
theorem im_12 : Cond.instanceMethod (ab_yn 12) ∈ lw_tbl := List.mem_append_right _ (List.mem_of_getElem? (i := 599) (by decide +kernel))
theorem se_12 : Cond.selects (ab_yn 12).cls (ab_yn 12) (ab_yn 12) ∈ lw_tbl := List.mem_append_right _ (List.mem_of_getElem? (i := 600) (by decide +kernel))
set_option maxRecDepth 100000 in
theorem kw_13 : ab_kw 13 ∈ lw_tbl := List.mem_append_right _ (List.mem_of_getElem? (i := 226) (by decide +kernel))
theorem im_13 : Cond.instanceMethod (ab_yn 13) ∈ lw_tbl := List.mem_append_right _ (List.mem_of_getElem? (i := 224) (by decide +kernel))
theorem se_13 : Cond.selects (ab_yn 13).cls (ab_yn 13) (ab_yn 13) ∈ lw_tbl := List.mem_append_right _ (List.mem_of_getElem? (i := 225) (by decide +kernel))
set_option maxRecDepth 100000 in
theorem kw_14 : ab_kw 14 ∈ lw_tbl := List.mem_append_right _ (List.mem_of_getElem? (i := 654) (by decide +kernel))
theorem im_14 : Cond.instanceMethod (ab_yn 14) ∈ lw_tbl := List.mem_append_right _ (List.mem_of_getElem? (i := 652) (by decide +kernel))
theorem se_14 : Cond.selects (ab_yn 14).cls (ab_yn 14) (ab_yn 14) ∈ lw_tbl := List.mem_append_right _ (List.mem_of_getElem? (i := 653) (by decide +kernel))
set_option maxRecDepth 100000 in
theorem kw_15 : ab_kw 15 ∈ lw_tbl := List.mem_append_right _ (List.mem_of_getElem? (i := 230) (by decide +kernel))
theorem im_15 : Cond.instanceMethod (ab_yn 15) ∈ lw_tbl := List.mem_append_right _ (List.mem_of_getElem? (i := 228) (by decide +kernel))
theorem se_15 : Cond.selects (ab_yn 15).cls (ab_yn 15) (ab_yn 15) ∈ lw_tbl := List.mem_append_right _ (List.mem_of_getElem? (i := 229) (by decide +kernel))
set_option maxRecDepth 100000 in
theorem kw_16 : ab_kw 16 ∈ lw_tbl := List.mem_append_right _ (List.mem_of_getElem? (i := 179) (by decide +kernel))
theorem im_16 : Cond.instanceMethod (ab_yn 16) ∈ lw_tbl := List.mem_append_right _ (List.mem_of_getElem? (i := 178) (by decide +kernel))
theorem se_16 : Cond.selects (ab_yn 16).cls (ab_yn 16) (ab_yn 16) ∈ lw_tbl := List.mem_append_left _ (List.mem_of_getElem? (i := 0) (by decide +kernel))
set_option maxRecDepth 100000 in
theorem kw_17 : ab_kw 17 ∈ lw_tbl := List.mem_append_right _ (List.mem_of_getElem? (i := 545) (by decide +kernel))
theorem im_17 : Cond.instanceMethod (ab_yn 17) ∈ lw_tbl := List.mem_append_right _ (List.mem_of_getElem? (i := 544) (by decide +kernel))
theorem se_17 : Cond.selects (ab_yn 17).cls (ab_yn 17) (ab_yn 17) ∈ lw_tbl := List.mem_append_left _ (List.mem_of_getElem? (i := 7) (by decide +kernel))
set_option maxRecDepth 100000 in
theorem kw_18 : ab_kw 18 ∈ lw_tbl := List.mem_append_right _ (List.mem_of_getElem? (i := 469) (by decide +kernel))
theorem im_18 : Cond.instanceMethod (ab_yn 18) ∈ lw_tbl := List.mem_append_right _ (List.mem_of_getElem? (i := 468) (by decide +kernel))
theorem se_18 : Cond.selects (ab_yn 18).cls (ab_yn 18) (ab_yn 18) ∈ lw_tbl := List.mem_append_left _ (List.mem_of_getElem? (i := 3) (by decide +kernel))
set_option maxRecDepth 100000 in
theorem kw_19 : ab_kw 19 ∈ lw_tbl := List.mem_append_right _ (List.mem_of_getElem? (i := 465) (by decide +kernel))
theorem im_19 : Cond.instanceMethod (ab_yn 19) ∈ lw_tbl := List.mem_append_right _ (List.mem_of_getElem? (i := 464) (by decide +kernel))
theorem se_19 : Cond.selects (ab_yn 19).cls (ab_yn 19) (ab_yn 19) ∈ lw_tbl := List.mem_append_left _ (List.mem_of_getElem? (i := 2) (by decide +kernel))
set_option maxRecDepth 100000 in
theorem kw_20 : ab_kw 20 ∈ lw_tbl := List.mem_append_right _ (List.mem_of_getElem? (i := 512) (by decide +kernel))
theorem im_20 : Cond.instanceMethod (ab_yn 20) ∈ lw_tbl := List.mem_append_right _ (List.mem_of_getElem? (i := 511) (by decide +kernel))
theorem se_20 : Cond.selects (ab_yn 20).cls (ab_yn 20) (ab_yn 20) ∈ lw_tbl := List.mem_append_left _ (List.mem_of_getElem? (i := 5) (by decide +kernel))
set_option maxRecDepth 100000 in
theorem kw_21 : ab_kw 21 ∈ lw_tbl := List.mem_append_right _ (List.mem_of_getElem? (i := 516) (by decide +kernel))
theorem im_21 : Cond.instanceMethod (ab_yn 21) ∈ lw_tbl := List.mem_append_right _ (List.mem_of_getElem? (i := 515) (by decide +kernel))
theorem se_21 : Cond.selects (ab_yn 21).cls (ab_yn 21) (ab_yn 21) ∈ lw_tbl := List.mem_append_left _ (List.mem_of_getElem? (i := 6) (by decide +kernel))
set_option maxRecDepth 100000 in
theorem kw_22 : ab_kw 22 ∈ lw_tbl := List.mem_append_right _ (List.mem_of_getElem? (i := 498) (by decide +kernel))
theorem im_22 : Cond.instanceMethod (ab_yn 22) ∈ lw_tbl := List.mem_append_right _ (List.mem_of_getElem? (i := 497) (by decide +kernel))
theorem se_22 : Cond.selects (ab_yn 22).cls (ab_yn 22) (ab_yn 22) ∈ lw_tbl := List.mem_append_left _ (List.mem_of_getElem? (i := 4) (by decide +kernel))
set_option maxRecDepth 100000 in
theorem kw_23 : ab_kw 23 ∈ lw_tbl := List.mem_append_right _ (List.mem_of_getElem? (i := 369) (by decide +kernel))
theorem sx_23 : Cond.static (ab_yn 23) ∈ lw_tbl := List.mem_append_right _ (List.mem_of_getElem? (i := 368) (by decide +kernel))
set_option maxRecDepth 100000 in
theorem kw_24 : ab_kw 24 ∈ lw_tbl := List.mem_append_right _ (List.mem_of_getElem? (i := 214) (by decide +kernel))
theorem sx_24 : Cond.static (ab_yn 24) ∈ lw_tbl := List.mem_append_right _ (List.mem_of_getElem? (i := 213) (by decide +kernel))
set_option maxRecDepth 100000 in
theorem kw_25 : ab_kw 25 ∈ lw_tbl := List.mem_append_right _ (List.mem_of_getElem? (i := 566) (by decide +kernel))
theorem sx_25 : Cond.static (ab_yn 25) ∈ lw_tbl := List.mem_append_right _ (List.mem_of_getElem? (i := 565) (by decide +kernel))
set_option maxRecDepth 100000 in
theorem kw_26 : ab_kw 26 ∈ lw_tbl := List.mem_append_right _ (List.mem_of_getElem? (i := 376) (by decide +kernel))
theorem sx_26 : Cond.static (ab_yn 26) ∈ lw_tbl := List.mem_append_right _ (List.mem_of_getElem? (i := 375) (by decide +kernel))
set_option maxRecDepth 100000 in
theorem kw_27 : ab_kw 27 ∈ lw_tbl := List.mem_append_right _ (List.mem_of_getElem? (i := 384) (by decide +kernel))
theorem sx_27 : Cond.static (ab_yn 27) ∈ lw_tbl := List.mem_append_right _ (List.mem_of_getElem? (i := 383) (by decide +kernel))
set_option maxRecDepth 100000 in
theorem kw_28 : ab_kw 28 ∈ lw_tbl := List.mem_append_right _ (List.mem_of_getElem? (i := 758) (by decide +kernel))
theorem im_28 : Cond.instanceMethod (ab_yn 28) ∈ lw_tbl := List.mem_append_right _ (List.mem_of_getElem? (i := 756) (by decide +kernel))
theorem se_28 : Cond.selects (ab_yn 28).cls (ab_yn 28) (ab_yn 28) ∈ lw_tbl := List.mem_append_right _ (List.mem_of_getElem? (i := 757) (by decide +kernel))
set_option maxRecDepth 100000 in
theorem kw_29 : ab_kw 29 ∈ lw_tbl := List.mem_append_right _ (List.mem_of_getElem? (i := 766) (by decide +kernel))
theorem im_29 : Cond.instanceMethod (ab_yn 29) ∈ lw_tbl := List.mem_append_right _ (List.mem_of_getElem? (i := 765) (by decide +kernel))
theorem se_29 : Cond.selects (ab_yn 29).cls (ab_yn 29) (ab_yn 29) ∈ lw_tbl := List.mem_append_left _ (List.mem_of_getElem? (i := 8) (by decide +kernel))
set_option maxRecDepth 100000 in
theorem kw_30 : ab_kw 30 ∈ lw_tbl := List.mem_append_right _ (List.mem_of_getElem? (i := 774) (by decide +kernel))
theorem im_30 : Cond.instanceMethod (ab_yn 30) ∈ lw_tbl := List.mem_append_right _ (List.mem_of_getElem? (i := 773) (by decide +kernel))
theorem se_30 : Cond.selects (ab_yn 30).cls (ab_yn 30) (ab_yn 30) ∈ lw_tbl := List.mem_append_left _ (List.mem_of_getElem? (i := 10) (by decide +kernel))
set_option maxRecDepth 100000 in
theorem kw_31 : ab_kw 31 ∈ lw_tbl := List.mem_append_right _ (List.mem_of_getElem? (i := 778) (by decide +kernel))
theorem im_31 : Cond.instanceMethod (ab_yn 31) ∈ lw_tbl := List.mem_append_right _ (List.mem_of_getElem? (i := 777) (by decide +kernel))
theorem se_31 : Cond.selects (ab_yn 31).cls (ab_yn 31) (ab_yn 31) ∈ lw_tbl := List.mem_append_left _ (List.mem_of_getElem? (i := 11) (by decide +kernel))
set_option maxRecDepth 100000 in
theorem kw_32 : ab_kw 32 ∈ lw_tbl := List.mem_append_right _ (List.mem_of_getElem? (i := 762) (by decide +kernel))
theorem im_32 : Cond.instanceMethod (ab_yn 32) ∈ lw_tbl := List.mem_append_right _ (List.mem_of_getElem? (i := 760) (by decide +kernel))
theorem se_32 : Cond.selects (ab_yn 32).cls (ab_yn 32) (ab_yn 32) ∈ lw_tbl := List.mem_append_right _ (List.mem_of_getElem? (i := 761) (by decide +kernel))
set_option maxRecDepth 100000 in
theorem kw_33 : ab_kw 33 ∈ lw_tbl := List.mem_append_right _ (List.mem_of_getElem? (i := 770) (by decide +kernel))
theorem im_33 : Cond.instanceMethod (ab_yn 33) ∈ lw_tbl := List.mem_append_right _ (List.mem_of_getElem? (i := 769) (by decide +kernel))
theorem se_33 : Cond.selects (ab_yn 33).cls (ab_yn 33) (ab_yn 33) ∈ lw_tbl := List.mem_append_left _ (List.mem_of_getElem? (i := 9) (by decide +kernel))
set_option maxRecDepth 100000 in
theorem kw_34 : ab_kw 34 ∈ lw_tbl := List.mem_append_right _ (List.mem_of_getElem? (i := 782) (by decide +kernel))
theorem im_34 : Cond.instanceMethod (ab_yn 34) ∈ lw_tbl := List.mem_append_right _ (List.mem_of_getElem? (i := 780) (by decide +kernel))
theorem se_34 : Cond.selects (ab_yn 34).cls (ab_yn 34) (ab_yn 34) ∈ lw_tbl := List.mem_append_right _ (List.mem_of_getElem? (i := 781) (by decide +kernel))
set_option maxRecDepth 100000 in
theorem kw_35 : ab_kw 35 ∈ lw_tbl := List.mem_append_right _ (List.mem_of_getElem? (i := 802) (by decide +kernel))
theorem im_35 : Cond.instanceMethod (ab_yn 35) ∈ lw_tbl := List.mem_append_right _ (List.mem_of_getElem? (i := 801) (by decide +kernel))
theorem se_35 : Cond.selects (ab_yn 35).cls (ab_yn 35) (ab_yn 35) ∈ lw_tbl := List.mem_append_left _ (List.mem_of_getElem? (i := 15) (by decide +kernel))
set_option maxRecDepth 100000 in
theorem kw_36 : ab_kw 36 ∈ lw_tbl := List.mem_append_right _ (List.mem_of_getElem? (i := 798) (by decide +kernel))
theorem im_36 : Cond.instanceMethod (ab_yn 36) ∈ lw_tbl := List.mem_append_right _ (List.mem_of_getElem? (i := 797) (by decide +kernel))
theorem se_36 : Cond.selects (ab_yn 36).cls (ab_yn 36) (ab_yn 36) ∈ lw_tbl := List.mem_append_left _ (List.mem_of_getElem? (i := 14) (by decide +kernel))
set_option maxRecDepth 100000 in
theorem kw_37 : ab_kw 37 ∈ lw_tbl := List.mem_append_right _ (List.mem_of_getElem? (i := 806) (by decide +kernel))
theorem im_37 : Cond.instanceMethod (ab_yn 37) ∈ lw_tbl := List.mem_append_right _ (List.mem_of_getElem? (i := 805) (by decide +kernel))
theorem se_37 : Cond.selects (ab_yn 37).cls (ab_yn 37) (ab_yn 37) ∈ lw_tbl := List.mem_append_left _ (List.mem_of_getElem? (i := 16) (by decide +kernel))
set_option maxRecDepth 100000 in
theorem kw_38 : ab_kw 38 ∈ lw_tbl := List.mem_append_right _ (List.mem_of_getElem? (i := 794) (by decide +kernel))
theorem im_38 : Cond.instanceMethod (ab_yn 38) ∈ lw_tbl := List.mem_append_right _ (List.mem_of_getElem? (i := 793) (by decide +kernel))
theorem se_38 : Cond.selects (ab_yn 38).cls (ab_yn 38) (ab_yn 38) ∈ lw_tbl := List.mem_append_left _ (List.mem_of_getElem? (i := 13) (by decide +kernel))
set_option maxRecDepth 100000 in
theorem kw_39 : ab_kw 39 ∈ lw_tbl := List.mem_append_right _ (List.mem_of_getElem? (i := 790) (by decide +kernel))
theorem im_39 : Cond.instanceMethod (ab_yn 39) ∈ lw_tbl := List.mem_append_right _ (List.mem_of_getElem? (i := 789) (by decide +kernel))
theorem se_39 : Cond.selects (ab_yn 39).cls (ab_yn 39) (ab_yn 39) ∈ lw_tbl := List.mem_append_left _ (List.mem_of_getElem? (i := 12) (by decide +kernel))
set_option maxRecDepth 100000 in
theorem kw_40 : ab_kw 40 ∈ lw_tbl := List.mem_append_right _ (List.mem_of_getElem? (i := 825) (by decide +kernel))
theorem im_40 : Cond.instanceMethod (ab_yn 40) ∈ lw_tbl := List.mem_append_right _ (List.mem_of_getElem? (i := 824) (by decide +kernel))
theorem se_40 : Cond.selects (ab_yn 40).cls (ab_yn 40) (ab_yn 40) ∈ lw_tbl := List.mem_append_left _ (List.mem_of_getElem? (i := 20) (by decide +kernel))
set_option maxRecDepth 100000 in
theorem kw_41 : ab_kw 41 ∈ lw_tbl := List.mem_append_right _ (List.mem_of_getElem? (i := 813) (by decide +kernel))
theorem sx_41 : Cond.static (ab_yn 41) ∈ lw_tbl := List.mem_append_right _ (List.mem_of_getElem? (i := 812) (by decide +kernel))
set_option maxRecDepth 100000 in
theorem kw_42 : ab_kw 42 ∈ lw_tbl := List.mem_append_right _ (List.mem_of_getElem? (i := 868) (by decide +kernel))
theorem im_42 : Cond.instanceMethod (ab_yn 42) ∈ lw_tbl := List.mem_append_right _ (List.mem_of_getElem? (i := 867) (by decide +kernel))
theorem se_42 : Cond.selects (ab_yn 42).cls (ab_yn 42) (ab_yn 42) ∈ lw_tbl := List.mem_append_left _ (List.mem_of_getElem? (i := 26) (by decide +kernel))
set_option maxRecDepth 100000 in
theorem kw_43 : ab_kw 43 ∈ lw_tbl := List.mem_append_right _ (List.mem_of_getElem? (i := 817) (by decide +kernel))
theorem im_43 : Cond.instanceMethod (ab_yn 43) ∈ lw_tbl := List.mem_append_right _ (List.mem_of_getElem? (i := 816) (by decide +kernel))
theorem se_43 : Cond.selects (ab_yn 43).cls (ab_yn 43) (ab_yn 43) ∈ lw_tbl := List.mem_append_left _ (List.mem_of_getElem? (i := 18) (by decide +kernel))
set_option maxRecDepth 100000 in
theorem kw_44 : ab_kw 44 ∈ lw_tbl := List.mem_append_right _ (List.mem_of_getElem? (i := 810) (by decide +kernel))
theorem im_44 : Cond.instanceMethod (ab_yn 44) ∈ lw_tbl := List.mem_append_right _ (List.mem_of_getElem? (i := 809) (by decide +kernel))
theorem se_44 : Cond.selects (ab_yn 44).cls (ab_yn 44) (ab_yn 44) ∈ lw_tbl := List.mem_append_left _ (List.mem_of_getElem? (i := 17) (by decide +kernel))
set_option maxRecDepth 100000 in
theorem kw_45 : ab_kw 45 ∈ lw_tbl := List.mem_append_right _ (List.mem_of_getElem? (i := 821) (by decide +kernel))
theorem im_45 : Cond.instanceMethod (ab_yn 45) ∈ lw_tbl := List.mem_append_right _ (List.mem_of_getElem? (i := 820) (by decide +kernel))
theorem se_45 : Cond.selects (ab_yn 45).cls (ab_yn 45) (ab_yn 45) ∈ lw_tbl := List.mem_append_left _ (List.mem_of_getElem? (i := 19) (by decide +kernel))
set_option maxRecDepth 100000 in
theorem kw_46 : ab_kw 46 ∈ lw_tbl := List.mem_append_right _ (List.mem_of_getElem? (i := 829) (by decide +kernel))
theorem im_46 : Cond.instanceMethod (ab_yn 46) ∈ lw_tbl := List.mem_append_right _ (List.mem_of_getElem? (i := 828) (by decide +kernel))
theorem se_46 : Cond.selects (ab_yn 46).cls (ab_yn 46) (ab_yn 46) ∈ lw_tbl := List.mem_append_left _ (List.mem_of_getElem? (i := 21) (by decide +kernel))
set_option maxRecDepth 100000 in
theorem kw_47 : ab_kw 47 ∈ lw_tbl := List.mem_append_right _ (List.mem_of_getElem? (i := 833) (by decide +kernel))
theorem im_47 : Cond.instanceMethod (ab_yn 47) ∈ lw_tbl := List.mem_append_right _ (List.mem_of_getElem? (i := 832) (by decide +kernel))
theorem se_47 : Cond.selects (ab_yn 47).cls (ab_yn 47) (ab_yn 47) ∈ lw_tbl := List.mem_append_left _ (List.mem_of_getElem? (i := 22) (by decide +kernel))
set_option maxRecDepth 100000 in
theorem kw_48 : ab_kw 48 ∈ lw_tbl := List.mem_append_right _ (List.mem_of_getElem? (i := 837) (by decide +kernel))
theorem im_48 : Cond.instanceMethod (ab_yn 48) ∈ lw_tbl := List.mem_append_right _ (List.mem_of_getElem? (i := 836) (by decide +kernel))
theorem se_48 : Cond.selects (ab_yn 48).cls (ab_yn 48) (ab_yn 48) ∈ lw_tbl := List.mem_append_left _ (List.mem_of_getElem? (i := 23) (by decide +kernel))
set_option maxRecDepth 100000 in
theorem kw_49 : ab_kw 49 ∈ lw_tbl := List.mem_append_right _ (List.mem_of_getElem? (i := 786) (by decide +kernel))
theorem im_49 : Cond.instanceMethod (ab_yn 49) ∈ lw_tbl := List.mem_append_right _ (List.mem_of_getElem? (i := 784) (by decide +kernel))
theorem se_49 : Cond.selects (ab_yn 49).cls (ab_yn 49) (ab_yn 49) ∈ lw_tbl := List.mem_append_right _ (List.mem_of_getElem? (i := 785) (by decide +kernel))
set_option maxRecDepth 100000 in
theorem kw_50 : ab_kw 50 ∈ lw_tbl := List.mem_append_right _ (List.mem_of_getElem? (i := 841) (by decide +kernel))
theorem im_50 : Cond.instanceMethod (ab_yn 50) ∈ lw_tbl := List.mem_append_right _ (List.mem_of_getElem? (i := 839) (by decide +kernel))
theorem se_50 : Cond.selects (ab_yn 50).cls (ab_yn 50) (ab_yn 50) ∈ lw_tbl := List.mem_append_right _ (List.mem_of_getElem? (i := 840) (by decide +kernel))
set_option maxRecDepth 100000 in
theorem kw_51 : ab_kw 51 ∈ lw_tbl := List.mem_append_right _ (List.mem_of_getElem? (i := 849) (by decide +kernel))
theorem im_51 : Cond.instanceMethod (ab_yn 51) ∈ lw_tbl := List.mem_append_right _ (List.mem_of_getElem? (i := 848) (by decide +kernel))
theorem se_51 : Cond.selects (ab_yn 51).cls (ab_yn 51) (ab_yn 51) ∈ lw_tbl := List.mem_append_left _ (List.mem_of_getElem? (i := 24) (by decide +kernel))
set_option maxRecDepth 100000 in
theorem kw_52 : ab_kw 52 ∈ lw_tbl := List.mem_append_right _ (List.mem_of_getElem? (i := 852) (by decide +kernel))
theorem sx_52 : Cond.static (ab_yn 52) ∈ lw_tbl := List.mem_append_right _ (List.mem_of_getElem? (i := 851) (by decide +kernel))
set_option maxRecDepth 100000 in
theorem kw_53 : ab_kw 53 ∈ lw_tbl := List.mem_append_right _ (List.mem_of_getElem? (i := 845) (by decide +kernel))
theorem im_53 : Cond.instanceMethod (ab_yn 53) ∈ lw_tbl := List.mem_append_right _ (List.mem_of_getElem? (i := 843) (by decide +kernel))
theorem se_53 : Cond.selects (ab_yn 53).cls (ab_yn 53) (ab_yn 53) ∈ lw_tbl := List.mem_append_right _ (List.mem_of_getElem? (i := 844) (by decide +kernel))
set_option maxRecDepth 100000 in
theorem kw_54 : ab_kw 54 ∈ lw_tbl := List.mem_append_right _ (List.mem_of_getElem? (i := 856) (by decide +kernel))
theorem im_54 : Cond.instanceMethod (ab_yn 54) ∈ lw_tbl := List.mem_append_right _ (List.mem_of_getElem? (i := 854) (by decide +kernel))
theorem se_54 : Cond.selects (ab_yn 54).cls (ab_yn 54) (ab_yn 54) ∈ lw_tbl := List.mem_append_right _ (List.mem_of_getElem? (i := 855) (by decide +kernel))
set_option maxRecDepth 100000 in
theorem kw_55 : ab_kw 55 ∈ lw_tbl := List.mem_append_right _ (List.mem_of_getElem? (i := 864) (by decide +kernel))
theorem im_55 : Cond.instanceMethod (ab_yn 55) ∈ lw_tbl := List.mem_append_right _ (List.mem_of_getElem? (i := 863) (by decide +kernel))
theorem se_55 : Cond.selects (ab_yn 55).cls (ab_yn 55) (ab_yn 55) ∈ lw_tbl := List.mem_append_left _ (List.mem_of_getElem? (i := 25) (by decide +kernel))
set_option maxRecDepth 100000 in
theorem kw_56 : ab_kw 56 ∈ lw_tbl := List.mem_append_right _ (List.mem_of_getElem? (i := 860) (by decide +kernel))
theorem im_56 : Cond.instanceMethod (ab_yn 56) ∈ lw_tbl := List.mem_append_right _ (List.mem_of_getElem? (i := 858) (by decide +kernel))
theorem se_56 : Cond.selects (ab_yn 56).cls (ab_yn 56) (ab_yn 56) ∈ lw_tbl := List.mem_append_right _ (List.mem_of_getElem? (i := 859) (by decide +kernel))
set_option maxRecDepth 100000 in
theorem kw_57 : ab_kw 57 ∈ lw_tbl := List.mem_append_right _ (List.mem_of_getElem? (i := 872) (by decide +kernel))
theorem im_57 : Cond.instanceMethod (ab_yn 57) ∈ lw_tbl := List.mem_append_right _ (List.mem_of_getElem? (i := 870) (by decide +kernel))
theorem se_57 : Cond.selects (ab_yn 57).cls (ab_yn 57) (ab_yn 57) ∈ lw_tbl := List.mem_append_right _ (List.mem_of_getElem? (i := 871) (by decide +kernel))
set_option maxRecDepth 100000 in
theorem kw_58 : ab_kw 58 ∈ lw_tbl := List.mem_append_right _ (List.mem_of_getElem? (i := 888) (by decide +kernel))
theorem im_58 : Cond.instanceMethod (ab_yn 58) ∈ lw_tbl := List.mem_append_right _ (List.mem_of_getElem? (i := 887) (by decide +kernel))
theorem se_58 : Cond.selects (ab_yn 58).cls (ab_yn 58) (ab_yn 58) ∈ lw_tbl := List.mem_append_left _ (List.mem_of_getElem? (i := 29) (by decide +kernel))
set_option maxRecDepth 100000 in
theorem kw_59 : ab_kw 59 ∈ lw_tbl := List.mem_append_right _ (List.mem_of_getElem? (i := 904) (by decide +kernel))
theorem im_59 : Cond.instanceMethod (ab_yn 59) ∈ lw_tbl := List.mem_append_right _ (List.mem_of_getElem? (i := 903) (by decide +kernel))
theorem se_59 : Cond.selects (ab_yn 59).cls (ab_yn 59) (ab_yn 59) ∈ lw_tbl := List.mem_append_left _ (List.mem_of_getElem? (i := 33) (by decide +kernel))
set_option maxRecDepth 100000 in
theorem kw_60 : ab_kw 60 ∈ lw_tbl := List.mem_append_right _ (List.mem_of_getElem? (i := 900) (by decide +kernel))
theorem im_60 : Cond.instanceMethod (ab_yn 60) ∈ lw_tbl := List.mem_append_right _ (List.mem_of_getElem? (i := 899) (by decide +kernel))
theorem se_60 : Cond.selects (ab_yn 60).cls (ab_yn 60) (ab_yn 60) ∈ lw_tbl := List.mem_append_left _ (List.mem_of_getElem? (i := 32) (by decide +kernel))
set_option maxRecDepth 100000 in
theorem kw_61 : ab_kw 61 ∈ lw_tbl := List.mem_append_right _ (List.mem_of_getElem? (i := 896) (by decide +kernel))
theorem im_61 : Cond.instanceMethod (ab_yn 61) ∈ lw_tbl := List.mem_append_right _ (List.mem_of_getElem? (i := 895) (by decide +kernel))
theorem se_61 : Cond.selects (ab_yn 61).cls (ab_yn 61) (ab_yn 61) ∈ lw_tbl := List.mem_append_left _ (List.mem_of_getElem? (i := 31) (by decide +kernel))
set_option maxRecDepth 100000 in
theorem kw_62 : ab_kw 62 ∈ lw_tbl := List.mem_append_right _ (List.mem_of_getElem? (i := 884) (by decide +kernel))
theorem im_62 : Cond.instanceMethod (ab_yn 62) ∈ lw_tbl := List.mem_append_right _ (List.mem_of_getElem? (i := 883) (by decide +kernel))
theorem se_62 : Cond.selects (ab_yn 62).cls (ab_yn 62) (ab_yn 62) ∈ lw_tbl := List.mem_append_left _ (List.mem_of_getElem? (i := 28) (by decide +kernel))
set_option maxRecDepth 100000 in
theorem kw_63 : ab_kw 63 ∈ lw_tbl := List.mem_append_right _ (List.mem_of_getElem? (i := 892) (by decide +kernel))
theorem im_63 : Cond.instanceMethod (ab_yn 63) ∈ lw_tbl := List.mem_append_right _ (List.mem_of_getElem? (i := 891) (by decide +kernel))
theorem se_63 : Cond.selects (ab_yn 63).cls (ab_yn 63) (ab_yn 63) ∈ lw_tbl := List.mem_append_left _ (List.mem_of_getElem? (i := 30) (by decide +kernel))
set_option maxRecDepth 100000 in
theorem kw_64 : ab_kw 64 ∈ lw_tbl := List.mem_append_right _ (List.mem_of_getElem? (i := 880) (by decide +kernel))
theorem im_64 : Cond.instanceMethod (ab_yn 64) ∈ lw_tbl := List.mem_append_right _ (List.mem_of_getElem? (i := 879) (by decide +kernel))
theorem se_64 : Cond.selects (ab_yn 64).cls (ab_yn 64) (ab_yn 64) ∈ lw_tbl := List.mem_append_left _ (List.mem_of_getElem? (i := 27) (by decide +kernel))
set_option maxRecDepth 100000 in
theorem kw_65 : ab_kw 65 ∈ lw_tbl := List.mem_append_right _ (List.mem_of_getElem? (i := 876) (by decide +kernel))
theorem im_65 : Cond.instanceMethod (ab_yn 65) ∈ lw_tbl := List.mem_append_right _ (List.mem_of_getElem? (i := 874) (by decide +kernel))
theorem se_65 : Cond.selects (ab_yn 65).cls (ab_yn 65) (ab_yn 65) ∈ lw_tbl := List.mem_append_right _ (List.mem_of_getElem? (i := 875) (by decide +kernel))
set_option maxRecDepth 100000 in
theorem kw_66 : ab_kw 66 ∈ lw_tbl := List.mem_append_right _ (List.mem_of_getElem? (i := 908) (by decide +kernel))
theorem im_66 : Cond.instanceMethod (ab_yn 66) ∈ lw_tbl := List.mem_append_right _ (List.mem_of_getElem? (i := 906) (by decide +kernel))
theorem se_66 : Cond.selects (ab_yn 66).cls (ab_yn 66) (ab_yn 66) ∈ lw_tbl := List.mem_append_right _ (List.mem_of_getElem? (i := 907) (by decide +kernel))
set_option maxRecDepth 100000 in
theorem kw_67 : ab_kw 67 ∈ lw_tbl := List.mem_append_right _ (List.mem_of_getElem? (i := 912) (by decide +kernel))
theorem im_67 : Cond.instanceMethod (ab_yn 67) ∈ lw_tbl := List.mem_append_right _ (List.mem_of_getElem? (i := 910) (by decide +kernel))
theorem se_67 : Cond.selects (ab_yn 67).cls (ab_yn 67) (ab_yn 67) ∈ lw_tbl := List.mem_append_right _ (List.mem_of_getElem? (i := 911) (by decide +kernel))
set_option maxRecDepth 100000 in
theorem kw_68 : ab_kw 68 ∈ lw_tbl := List.mem_append_right _ (List.mem_of_getElem? (i := 916) (by decide +kernel))
theorem im_68 : Cond.instanceMethod (ab_yn 68) ∈ lw_tbl := List.mem_append_right _ (List.mem_of_getElem? (i := 914) (by decide +kernel))
theorem se_68 : Cond.selects (ab_yn 68).cls (ab_yn 68) (ab_yn 68) ∈ lw_tbl := List.mem_append_right _ (List.mem_of_getElem? (i := 915) (by decide +kernel))
set_option maxRecDepth 100000 in
theorem kw_69 : ab_kw 69 ∈ lw_tbl := List.mem_append_right _ (List.mem_of_getElem? (i := 932) (by decide +kernel))
theorem im_69 : Cond.instanceMethod (ab_yn 69) ∈ lw_tbl := List.mem_append_right _ (List.mem_of_getElem? (i := 931) (by decide +kernel))
theorem se_69 : Cond.selects (ab_yn 69).cls (ab_yn 69) (ab_yn 69) ∈ lw_tbl := List.mem_append_left _ (List.mem_of_getElem? (i := 36) (by decide +kernel))
set_option maxRecDepth 100000 in
theorem kw_70 : ab_kw 70 ∈ lw_tbl := List.mem_append_right _ (List.mem_of_getElem? (i := 936) (by decide +kernel))
theorem im_70 : Cond.instanceMethod (ab_yn 70) ∈ lw_tbl := List.mem_append_right _ (List.mem_of_getElem? (i := 935) (by decide +kernel))
theorem se_70 : Cond.selects (ab_yn 70).cls (ab_yn 70) (ab_yn 70) ∈ lw_tbl := List.mem_append_left _ (List.mem_of_getElem? (i := 37) (by decide +kernel))
set_option maxRecDepth 100000 in
theorem kw_71 : ab_kw 71 ∈ lw_tbl := List.mem_append_right _ (List.mem_of_getElem? (i := 928) (by decide +kernel))
theorem im_71 : Cond.instanceMethod (ab_yn 71) ∈ lw_tbl := List.mem_append_right _ (List.mem_of_getElem? (i := 927) (by decide +kernel))
theorem se_71 : Cond.selects (ab_yn 71).cls (ab_yn 71) (ab_yn 71) ∈ lw_tbl := List.mem_append_left _ (List.mem_of_getElem? (i := 35) (by decide +kernel))
set_option maxRecDepth 100000 in
theorem kw_72 : ab_kw 72 ∈ lw_tbl := List.mem_append_right _ (List.mem_of_getElem? (i := 940) (by decide +kernel))
theorem im_72 : Cond.instanceMethod (ab_yn 72) ∈ lw_tbl := List.mem_append_right _ (List.mem_of_getElem? (i := 939) (by decide +kernel))
theorem se_72 : Cond.selects (ab_yn 72).cls (ab_yn 72) (ab_yn 72) ∈ lw_tbl := List.mem_append_left _ (List.mem_of_getElem? (i := 38) (by decide +kernel))
set_option maxRecDepth 100000 in
theorem kw_73 : ab_kw 73 ∈ lw_tbl := List.mem_append_right _ (List.mem_of_getElem? (i := 924) (by decide +kernel))
theorem im_73 : Cond.instanceMethod (ab_yn 73) ∈ lw_tbl := List.mem_append_right _ (List.mem_of_getElem? (i := 923) (by decide +kernel))
theorem se_73 : Cond.selects (ab_yn 73).cls (ab_yn 73) (ab_yn 73) ∈ lw_tbl := List.mem_append_left _ (List.mem_of_getElem? (i := 34) (by decide +kernel))
set_option maxRecDepth 100000 in
theorem kw_74 : ab_kw 74 ∈ lw_tbl := List.mem_append_right _ (List.mem_of_getElem? (i := 920) (by decide +kernel))
theorem im_74 : Cond.instanceMethod (ab_yn 74) ∈ lw_tbl := List.mem_append_right _ (List.mem_of_getElem? (i := 918) (by decide +kernel))
theorem se_74 : Cond.selects (ab_yn 74).cls (ab_yn 74) (ab_yn 74) ∈ lw_tbl := List.mem_append_right _ (List.mem_of_getElem? (i := 919) (by decide +kernel))
set_option maxRecDepth 100000 in
theorem kw_75 : ab_kw 75 ∈ lw_tbl := List.mem_append_right _ (List.mem_of_getElem? (i := 944) (by decide +kernel))
theorem im_75 : Cond.instanceMethod (ab_yn 75) ∈ lw_tbl := List.mem_append_right _ (List.mem_of_getElem? (i := 942) (by decide +kernel))
theorem se_75 : Cond.selects (ab_yn 75).cls (ab_yn 75) (ab_yn 75) ∈ lw_tbl := List.mem_append_right _ (List.mem_of_getElem? (i := 943) (by decide +kernel))
set_option maxRecDepth 100000 in
theorem kw_76 : ab_kw 76 ∈ lw_tbl := List.mem_append_right _ (List.mem_of_getElem? (i := 948) (by decide +kernel))
theorem im_76 : Cond.instanceMethod (ab_yn 76) ∈ lw_tbl := List.mem_append_right _ (List.mem_of_getElem? (i := 946) (by decide +kernel))
theorem se_76 : Cond.selects (ab_yn 76).cls (ab_yn 76) (ab_yn 76) ∈ lw_tbl := List.mem_append_right _ (List.mem_of_getElem? (i := 947) (by decide +kernel))
set_option maxRecDepth 100000 in
theorem kw_77 : ab_kw 77 ∈ lw_tbl := List.mem_append_right _ (List.mem_of_getElem? (i := 952) (by decide +kernel))
theorem im_77 : Cond.instanceMethod (ab_yn 77) ∈ lw_tbl := List.mem_append_right _ (List.mem_of_getElem? (i := 950) (by decide +kernel))
theorem se_77 : Cond.selects (ab_yn 77).cls (ab_yn 77) (ab_yn 77) ∈ lw_tbl := List.mem_append_right _ (List.mem_of_getElem? (i := 951) (by decide +kernel))
set_option maxRecDepth 100000 in
theorem kw_78 : ab_kw 78 ∈ lw_tbl := List.mem_append_right _ (List.mem_of_getElem? (i := 437) (by decide +kernel))
theorem im_78 : Cond.instanceMethod (ab_yn 78) ∈ lw_tbl := List.mem_append_right _ (List.mem_of_getElem? (i := 435) (by decide +kernel))
theorem se_78 : Cond.selects (ab_yn 78).cls (ab_yn 78) (ab_yn 78) ∈ lw_tbl := List.mem_append_right _ (List.mem_of_getElem? (i := 436) (by decide +kernel))
set_option maxRecDepth 100000 in
theorem kw_79 : ab_kw 79 ∈ lw_tbl := List.mem_append_right _ (List.mem_of_getElem? (i := 415) (by decide +kernel))
theorem im_79 : Cond.instanceMethod (ab_yn 79) ∈ lw_tbl := List.mem_append_right _ (List.mem_of_getElem? (i := 413) (by decide +kernel))
theorem se_79 : Cond.selects (ab_yn 79).cls (ab_yn 79) (ab_yn 79) ∈ lw_tbl := List.mem_append_right _ (List.mem_of_getElem? (i := 414) (by decide +kernel))
set_option maxRecDepth 100000 in
theorem kw_80 : ab_kw 80 ∈ lw_tbl := List.mem_append_right _ (List.mem_of_getElem? (i := 427) (by decide +kernel))
theorem im_80 : Cond.instanceMethod (ab_yn 80) ∈ lw_tbl := List.mem_append_right _ (List.mem_of_getElem? (i := 425) (by decide +kernel))
theorem se_80 : Cond.selects (ab_yn 80).cls (ab_yn 80) (ab_yn 80) ∈ lw_tbl := List.mem_append_right _ (List.mem_of_getElem? (i := 426) (by decide +kernel))
set_option maxRecDepth 100000 in
theorem kw_81 : ab_kw 81 ∈ lw_tbl := List.mem_append_right _ (List.mem_of_getElem? (i := 521) (by decide +kernel))
theorem im_81 : Cond.instanceMethod (ab_yn 81) ∈ lw_tbl := List.mem_append_right _ (List.mem_of_getElem? (i := 519) (by decide +kernel))
theorem se_81 : Cond.selects (ab_yn 81).cls (ab_yn 81) (ab_yn 81) ∈ lw_tbl := List.mem_append_right _ (List.mem_of_getElem? (i := 520) (by decide +kernel))
set_option maxRecDepth 100000 in
theorem kw_82 : ab_kw 82 ∈ lw_tbl := List.mem_append_right _ (List.mem_of_getElem? (i := 534) (by decide +kernel))
theorem im_82 : Cond.instanceMethod (ab_yn 82) ∈ lw_tbl := List.mem_append_right _ (List.mem_of_getElem? (i := 532) (by decide +kernel))
theorem se_82 : Cond.selects (ab_yn 82).cls (ab_yn 82) (ab_yn 82) ∈ lw_tbl := List.mem_append_right _ (List.mem_of_getElem? (i := 533) (by decide +kernel))
set_option maxRecDepth 100000 in
theorem kw_83 : ab_kw 83 ∈ lw_tbl := List.mem_append_right _ (List.mem_of_getElem? (i := 408) (by decide +kernel))
theorem im_83 : Cond.instanceMethod (ab_yn 83) ∈ lw_tbl := List.mem_append_right _ (List.mem_of_getElem? (i := 406) (by decide +kernel))
theorem se_83 : Cond.selects (ab_yn 83).cls (ab_yn 83) (ab_yn 83) ∈ lw_tbl := List.mem_append_right _ (List.mem_of_getElem? (i := 407) (by decide +kernel))
set_option maxRecDepth 100000 in
theorem kw_84 : ab_kw 84 ∈ lw_tbl := List.mem_append_right _ (List.mem_of_getElem? (i := 404) (by decide +kernel))
theorem im_84 : Cond.instanceMethod (ab_yn 84) ∈ lw_tbl := List.mem_append_right _ (List.mem_of_getElem? (i := 402) (by decide +kernel))
theorem se_84 : Cond.selects (ab_yn 84).cls (ab_yn 84) (ab_yn 84) ∈ lw_tbl := List.mem_append_right _ (List.mem_of_getElem? (i := 403) (by decide +kernel))
set_option maxRecDepth 100000 in
theorem kw_85 : ab_kw 85 ∈ lw_tbl := List.mem_append_right _ (List.mem_of_getElem? (i := 354) (by decide +kernel))
theorem im_85 : Cond.instanceMethod (ab_yn 85) ∈ lw_tbl := List.mem_append_right _ (List.mem_of_getElem? (i := 352) (by decide +kernel))
theorem se_85 : Cond.selects (ab_yn 85).cls (ab_yn 85) (ab_yn 85) ∈ lw_tbl := List.mem_append_right _ (List.mem_of_getElem? (i := 353) (by decide +kernel))
set_option maxRecDepth 100000 in
theorem kw_86 : ab_kw 86 ∈ lw_tbl := List.mem_append_right _ (List.mem_of_getElem? (i := 419) (by decide +kernel))
theorem im_86 : Cond.instanceMethod (ab_yn 86) ∈ lw_tbl := List.mem_append_right _ (List.mem_of_getElem? (i := 417) (by decide +kernel))
theorem se_86 : Cond.selects (ab_yn 86).cls (ab_yn 86) (ab_yn 86) ∈ lw_tbl := List.mem_append_right _ (List.mem_of_getElem? (i := 418) (by decide +kernel))
set_option maxRecDepth 100000 in
theorem kw_87 : ab_kw 87 ∈ lw_tbl := List.mem_append_right _ (List.mem_of_getElem? (i := 423) (by decide +kernel))
theorem im_87 : Cond.instanceMethod (ab_yn 87) ∈ lw_tbl := List.mem_append_right _ (List.mem_of_getElem? (i := 421) (by decide +kernel))
theorem se_87 : Cond.selects (ab_yn 87).cls (ab_yn 87) (ab_yn 87) ∈ lw_tbl := List.mem_append_right _ (List.mem_of_getElem? (i := 422) (by decide +kernel))
set_option maxRecDepth 100000 in
theorem kw_88 : ab_kw 88 ∈ lw_tbl := List.mem_append_right _ (List.mem_of_getElem? (i := 389) (by decide +kernel))
theorem im_88 : Cond.instanceMethod (ab_yn 88) ∈ lw_tbl := List.mem_append_right _ (List.mem_of_getElem? (i := 387) (by decide +kernel))
theorem se_88 : Cond.selects (ab_yn 88).cls (ab_yn 88) (ab_yn 88) ∈ lw_tbl := List.mem_append_right _ (List.mem_of_getElem? (i := 388) (by decide +kernel))
set_option maxRecDepth 100000 in
theorem kw_89 : ab_kw 89 ∈ lw_tbl := List.mem_append_right _ (List.mem_of_getElem? (i := 393) (by decide +kernel))
theorem im_89 : Cond.instanceMethod (ab_yn 89) ∈ lw_tbl := List.mem_append_right _ (List.mem_of_getElem? (i := 391) (by decide +kernel))
theorem se_89 : Cond.selects (ab_yn 89).cls (ab_yn 89) (ab_yn 89) ∈ lw_tbl := List.mem_append_right _ (List.mem_of_getElem? (i := 392) (by decide +kernel))
set_option maxRecDepth 100000 in
theorem kw_90 : ab_kw 90 ∈ lw_tbl := List.mem_append_right _ (List.mem_of_getElem? (i := 400) (by decide +kernel))
theorem im_90 : Cond.instanceMethod (ab_yn 90) ∈ lw_tbl := List.mem_append_right _ (List.mem_of_getElem? (i := 398) (by decide +kernel))
theorem se_90 : Cond.selects (ab_yn 90).cls (ab_yn 90) (ab_yn 90) ∈ lw_tbl := List.mem_append_right _ (List.mem_of_getElem? (i := 399) (by decide +kernel))
set_option maxRecDepth 100000 in
theorem kw_91 : ab_kw 91 ∈ lw_tbl := List.mem_append_right _ (List.mem_of_getElem? (i := 433) (by decide +kernel))
theorem im_91 : Cond.instanceMethod (ab_yn 91) ∈ lw_tbl := List.mem_append_right _ (List.mem_of_getElem? (i := 431) (by decide +kernel))
theorem se_91 : Cond.selects (ab_yn 91).cls (ab_yn 91) (ab_yn 91) ∈ lw_tbl := List.mem_append_right _ (List.mem_of_getElem? (i := 432) (by decide +kernel))
set_option maxRecDepth 100000 in
theorem kw_92 : ab_kw 92 ∈ lw_tbl := List.mem_append_right _ (List.mem_of_getElem? (i := 183) (by decide +kernel))
theorem im_92 : Cond.instanceMethod (ab_yn 92) ∈ lw_tbl := List.mem_append_right _ (List.mem_of_getElem? (i := 181) (by decide +kernel))
theorem se_92 : Cond.selects (ab_yn 92).cls (ab_yn 92) (ab_yn 92) ∈ lw_tbl := List.mem_append_right _ (List.mem_of_getElem? (i := 182) (by decide +kernel))
set_option maxRecDepth 100000 in
theorem kw_93 : ab_kw 93 ∈ lw_tbl := List.mem_append_right _ (List.mem_of_getElem? (i := 187) (by decide +kernel))
theorem im_93 : Cond.instanceMethod (ab_yn 93) ∈ lw_tbl := List.mem_append_right _ (List.mem_of_getElem? (i := 185) (by decide +kernel))
theorem se_93 : Cond.selects (ab_yn 93).cls (ab_yn 93) (ab_yn 93) ∈ lw_tbl := List.mem_append_right _ (List.mem_of_getElem? (i := 186) (by decide +kernel))
set_option maxRecDepth 100000 in
theorem kw_94 : ab_kw 94 ∈ lw_tbl := List.mem_append_right _ (List.mem_of_getElem? (i := 207) (by decide +kernel))
theorem im_94 : Cond.instanceMethod (ab_yn 94) ∈ lw_tbl := List.mem_append_right _ (List.mem_of_getElem? (i := 205) (by decide +kernel))
theorem se_94 : Cond.selects (ab_yn 94).cls (ab_yn 94) (ab_yn 94) ∈ lw_tbl := List.mem_append_right _ (List.mem_of_getElem? (i := 206) (by decide +kernel))
set_option maxRecDepth 100000 in
theorem kw_95 : ab_kw 95 ∈ lw_tbl := List.mem_append_right _ (List.mem_of_getElem? (i := 550) (by decide +kernel))
theorem im_95 : Cond.instanceMethod (ab_yn 95) ∈ lw_tbl := List.mem_append_right _ (List.mem_of_getElem? (i := 548) (by decide +kernel))
theorem se_95 : Cond.selects (ab_yn 95).cls (ab_yn 95) (ab_yn 95) ∈ lw_tbl := List.mem_append_right _ (List.mem_of_getElem? (i := 549) (by decide +kernel))
set_option maxRecDepth 100000 in
theorem kw_96 : ab_kw 96 ∈ lw_tbl := List.mem_append_right _ (List.mem_of_getElem? (i := 586) (by decide +kernel))
theorem im_96 : Cond.instanceMethod (ab_yn 96) ∈ lw_tbl := List.mem_append_right _ (List.mem_of_getElem? (i := 584) (by decide +kernel))
theorem se_96 : Cond.selects (ab_yn 96).cls (ab_yn 96) (ab_yn 96) ∈ lw_tbl := List.mem_append_right _ (List.mem_of_getElem? (i := 585) (by decide +kernel))
set_option maxRecDepth 100000 in
theorem kw_97 : ab_kw 97 ∈ lw_tbl := List.mem_append_right _ (List.mem_of_getElem? (i := 555) (by decide +kernel))
theorem im_97 : Cond.instanceMethod (ab_yn 97) ∈ lw_tbl := List.mem_append_right _ (List.mem_of_getElem? (i := 553) (by decide +kernel))
theorem se_97 : Cond.selects (ab_yn 97).cls (ab_yn 97) (ab_yn 97) ∈ lw_tbl := List.mem_append_right _ (List.mem_of_getElem? (i := 554) (by decide +kernel))
set_option maxRecDepth 100000 in
theorem kw_98 : ab_kw 98 ∈ lw_tbl := List.mem_append_right _ (List.mem_of_getElem? (i := 562) (by decide +kernel))
theorem im_98 : Cond.instanceMethod (ab_yn 98) ∈ lw_tbl := List.mem_append_right _ (List.mem_of_getElem? (i := 560) (by decide +kernel))
theorem se_98 : Cond.selects (ab_yn 98).cls (ab_yn 98) (ab_yn 98) ∈ lw_tbl := List.mem_append_right _ (List.mem_of_getElem? (i := 561) (by decide +kernel))
set_option maxRecDepth 100000 in
theorem kw_99 : ab_kw 99 ∈ lw_tbl := List.mem_append_right _ (List.mem_of_getElem? (i := 590) (by decide +kernel))
theorem im_99 : Cond.instanceMethod (ab_yn 99) ∈ lw_tbl := List.mem_append_right _ (List.mem_of_getElem? (i := 588) (by decide +kernel))
theorem se_99 : Cond.selects (ab_yn 99).cls (ab_yn 99) (ab_yn 99) ∈ lw_tbl := List.mem_append_right _ (List.mem_of_getElem? (i := 589) (by decide +kernel))
set_option maxRecDepth 100000 in
theorem kw_100 : ab_kw 100 ∈ lw_tbl := List.mem_append_right _ (List.mem_of_getElem? (i := 594) (by decide +kernel))
theorem im_100 : Cond.instanceMethod (ab_yn 100) ∈ lw_tbl := List.mem_append_right _ (List.mem_of_getElem? (i := 592) (by decide +kernel))
theorem se_100 : Cond.selects (ab_yn 100).cls (ab_yn 100) (ab_yn 100) ∈ lw_tbl := List.mem_append_right _ (List.mem_of_getElem? (i := 593) (by decide +kernel))
set_option maxRecDepth 100000 in
theorem kw_101 : ab_kw 101 ∈ lw_tbl := List.mem_append_right _ (List.mem_of_getElem? (i := 570) (by decide +kernel))
theorem im_101 : Cond.instanceMethod (ab_yn 101) ∈ lw_tbl := List.mem_append_right _ (List.mem_of_getElem? (i := 568) (by decide +kernel))
theorem se_101 : Cond.selects (ab_yn 101).cls (ab_yn 101) (ab_yn 101) ∈ lw_tbl := List.mem_append_right _ (List.mem_of_getElem? (i := 569) (by decide +kernel))
set_option maxRecDepth 100000 in
theorem kw_102 : ab_kw 102 ∈ lw_tbl := List.mem_append_right _ (List.mem_of_getElem? (i := 577) (by decide +kernel))
theorem im_102 : Cond.instanceMethod (ab_yn 102) ∈ lw_tbl := List.mem_append_right _ (List.mem_of_getElem? (i := 575) (by decide +kernel))
theorem se_102 : Cond.selects (ab_yn 102).cls (ab_yn 102) (ab_yn 102) ∈ lw_tbl := List.mem_append_right _ (List.mem_of_getElem? (i := 576) (by decide +kernel))
set_option maxRecDepth 100000 in
theorem kw_103 : ab_kw 103 ∈ lw_tbl := List.mem_append_right _ (List.mem_of_getElem? (i := 582) (by decide +kernel))
theorem im_103 : Cond.instanceMethod (ab_yn 103) ∈ lw_tbl := List.mem_append_right _ (List.mem_of_getElem? (i := 580) (by decide +kernel))
theorem se_103 : Cond.selects (ab_yn 103).cls (ab_yn 103) (ab_yn 103) ∈ lw_tbl := List.mem_append_right _ (List.mem_of_getElem? (i := 581) (by decide +kernel))
set_option maxRecDepth 100000 in
theorem kw_104 : ab_kw 104 ∈ lw_tbl := List.mem_append_right _ (List.mem_of_getElem? (i := 245) (by decide +kernel))
theorem sx_104 : Cond.static (ab_yn 104) ∈ lw_tbl := List.mem_append_right _ (List.mem_of_getElem? (i := 244) (by decide +kernel))
set_option maxRecDepth 100000 in
theorem kw_105 : ab_kw 105 ∈ lw_tbl := List.mem_append_right _ (List.mem_of_getElem? (i := 248) (by decide +kernel))
theorem sx_105 : Cond.static (ab_yn 105) ∈ lw_tbl := List.mem_append_right _ (List.mem_of_getElem? (i := 247) (by decide +kernel))
set_option maxRecDepth 100000 in
theorem kw_106 : ab_kw 106 ∈ lw_tbl := List.mem_append_right _ (List.mem_of_getElem? (i := 242) (by decide +kernel))
theorem sx_106 : Cond.static (ab_yn 106) ∈ lw_tbl := List.mem_append_right _ (List.mem_of_getElem? (i := 241) (by decide +kernel))
set_option maxRecDepth 100000 in
theorem kw_107 : ab_kw 107 ∈ lw_tbl := List.mem_append_right _ (List.mem_of_getElem? (i := 337) (by decide +kernel))
theorem im_107 : Cond.instanceMethod (ab_yn 107) ∈ lw_tbl := List.mem_append_right _ (List.mem_of_getElem? (i := 335) (by decide +kernel))
theorem se_107 : Cond.selects (ab_yn 107).cls (ab_yn 107) (ab_yn 107) ∈ lw_tbl := List.mem_append_right _ (List.mem_of_getElem? (i := 336) (by decide +kernel))
set_option maxRecDepth 100000 in
theorem kw_108 : ab_kw 108 ∈ lw_tbl := List.mem_append_right _ (List.mem_of_getElem? (i := 195) (by decide +kernel))
theorem im_108 : Cond.instanceMethod (ab_yn 108) ∈ lw_tbl := List.mem_append_right _ (List.mem_of_getElem? (i := 193) (by decide +kernel))
theorem se_108 : Cond.selects (ab_yn 108).cls (ab_yn 108) (ab_yn 108) ∈ lw_tbl := List.mem_append_right _ (List.mem_of_getElem? (i := 194) (by decide +kernel))
set_option maxRecDepth 100000 in
theorem kw_109 : ab_kw 109 ∈ lw_tbl := List.mem_append_right _ (List.mem_of_getElem? (i := 381) (by decide +kernel))
theorem im_109 : Cond.instanceMethod (ab_yn 109) ∈ lw_tbl := List.mem_append_right _ (List.mem_of_getElem? (i := 379) (by decide +kernel))
theorem se_109 : Cond.selects (ab_yn 109).cls (ab_yn 109) (ab_yn 109) ∈ lw_tbl := List.mem_append_right _ (List.mem_of_getElem? (i := 380) (by decide +kernel))
set_option maxRecDepth 100000 in
theorem kw_110 : ab_kw 110 ∈ lw_tbl := List.mem_append_right _ (List.mem_of_getElem? (i := 341) (by decide +kernel))
theorem im_110 : Cond.instanceMethod (ab_yn 110) ∈ lw_tbl := List.mem_append_right _ (List.mem_of_getElem? (i := 339) (by decide +kernel))
theorem se_110 : Cond.selects (ab_yn 110).cls (ab_yn 110) (ab_yn 110) ∈ lw_tbl := List.mem_append_right _ (List.mem_of_getElem? (i := 340) (by decide +kernel))
set_option maxRecDepth 100000 in
theorem kw_111 : ab_kw 111 ∈ lw_tbl := List.mem_append_right _ (List.mem_of_getElem? (i := 366) (by decide +kernel))
theorem im_111 : Cond.instanceMethod (ab_yn 111) ∈ lw_tbl := List.mem_append_right _ (List.mem_of_getElem? (i := 364) (by decide +kernel))
theorem se_111 : Cond.selects (ab_yn 111).cls (ab_yn 111) (ab_yn 111) ∈ lw_tbl := List.mem_append_right _ (List.mem_of_getElem? (i := 365) (by decide +kernel))
set_option maxRecDepth 100000 in
theorem kw_112 : ab_kw 112 ∈ lw_tbl := List.mem_append_right _ (List.mem_of_getElem? (i := 362) (by decide +kernel))
theorem im_112 : Cond.instanceMethod (ab_yn 112) ∈ lw_tbl := List.mem_append_right _ (List.mem_of_getElem? (i := 360) (by decide +kernel))
theorem se_112 : Cond.selects (ab_yn 112).cls (ab_yn 112) (ab_yn 112) ∈ lw_tbl := List.mem_append_right _ (List.mem_of_getElem? (i := 361) (by decide +kernel))
set_option maxRecDepth 100000 in
theorem kw_113 : ab_kw 113 ∈ lw_tbl := List.mem_append_right _ (List.mem_of_getElem? (i := 373) (by decide +kernel))
theorem im_113 : Cond.instanceMethod (ab_yn 113) ∈ lw_tbl := List.mem_append_right _ (List.mem_of_getElem? (i := 371) (by decide +kernel))
theorem se_113 : Cond.selects (ab_yn 113).cls (ab_yn 113) (ab_yn 113) ∈ lw_tbl := List.mem_append_right _ (List.mem_of_getElem? (i := 372) (by decide +kernel))
set_option maxRecDepth 100000 in
theorem kw_114 : ab_kw 114 ∈ lw_tbl := List.mem_append_right _ (List.mem_of_getElem? (i := 358) (by decide +kernel))
theorem im_114 : Cond.instanceMethod (ab_yn 114) ∈ lw_tbl := List.mem_append_right _ (List.mem_of_getElem? (i := 356) (by decide +kernel))
theorem se_114 : Cond.selects (ab_yn 114).cls (ab_yn 114) (ab_yn 114) ∈ lw_tbl := List.mem_append_right _ (List.mem_of_getElem? (i := 357) (by decide +kernel))
set_option maxRecDepth 100000 in
theorem kw_115 : ab_kw 115 ∈ lw_tbl := List.mem_append_right _ (List.mem_of_getElem? (i := 218) (by decide +kernel))
theorem im_115 : Cond.instanceMethod (ab_yn 115) ∈ lw_tbl := List.mem_append_right _ (List.mem_of_getElem? (i := 216) (by decide +kernel))
theorem se_115 : Cond.selects (ab_yn 115).cls (ab_yn 115) (ab_yn 115) ∈ lw_tbl := List.mem_append_right _ (List.mem_of_getElem? (i := 217) (by decide +kernel))
set_option maxRecDepth 100000 in
theorem kw_116 : ab_kw 116 ∈ lw_tbl := List.mem_append_right _ (List.mem_of_getElem? (i := 191) (by decide +kernel))
theorem im_116 : Cond.instanceMethod (ab_yn 116) ∈ lw_tbl := List.mem_append_right _ (List.mem_of_getElem? (i := 189) (by decide +kernel))
theorem se_116 : Cond.selects (ab_yn 116).cls (ab_yn 116) (ab_yn 116) ∈ lw_tbl := List.mem_append_right _ (List.mem_of_getElem? (i := 190) (by decide +kernel))
set_option maxRecDepth 100000 in
theorem kw_117 : ab_kw 117 ∈ lw_tbl := List.mem_append_right _ (List.mem_of_getElem? (i := 632) (by decide +kernel))
theorem im_117 : Cond.instanceMethod (ab_yn 117) ∈ lw_tbl := List.mem_append_right _ (List.mem_of_getElem? (i := 630) (by decide +kernel))
theorem se_117 : Cond.selects (ab_yn 117).cls (ab_yn 117) (ab_yn 117) ∈ lw_tbl := List.mem_append_right _ (List.mem_of_getElem? (i := 631) (by decide +kernel))
set_option maxRecDepth 100000 in
theorem kw_118 : ab_kw 118 ∈ lw_tbl := List.mem_append_right _ (List.mem_of_getElem? (i := 606) (by decide +kernel))
theorem im_118 : Cond.instanceMethod (ab_yn 118) ∈ lw_tbl := List.mem_append_right _ (List.mem_of_getElem? (i := 604) (by decide +kernel))
theorem se_118 : Cond.selects (ab_yn 118).cls (ab_yn 118) (ab_yn 118) ∈ lw_tbl := List.mem_append_right _ (List.mem_of_getElem? (i := 605) (by decide +kernel))
set_option maxRecDepth 100000 in
theorem kw_119 : ab_kw 119 ∈ lw_tbl := List.mem_append_right _ (List.mem_of_getElem? (i := 610) (by decide +kernel))
theorem im_119 : Cond.instanceMethod (ab_yn 119) ∈ lw_tbl := List.mem_append_right _ (List.mem_of_getElem? (i := 608) (by decide +kernel))
theorem se_119 : Cond.selects (ab_yn 119).cls (ab_yn 119) (ab_yn 119) ∈ lw_tbl := List.mem_append_right _ (List.mem_of_getElem? (i := 609) (by decide +kernel))
set_option maxRecDepth 100000 in
theorem kw_120 : ab_kw 120 ∈ lw_tbl := List.mem_append_right _ (List.mem_of_getElem? (i := 616) (by decide +kernel))
theorem im_120 : Cond.instanceMethod (ab_yn 120) ∈ lw_tbl := List.mem_append_right _ (List.mem_of_getElem? (i := 614) (by decide +kernel))
theorem se_120 : Cond.selects (ab_yn 120).cls (ab_yn 120) (ab_yn 120) ∈ lw_tbl := List.mem_append_right _ (List.mem_of_getElem? (i := 615) (by decide +kernel))
set_option maxRecDepth 100000 in
theorem kw_121 : ab_kw 121 ∈ lw_tbl := List.mem_append_right _ (List.mem_of_getElem? (i := 637) (by decide +kernel))
theorem im_121 : Cond.instanceMethod (ab_yn 121) ∈ lw_tbl := List.mem_append_right _ (List.mem_of_getElem? (i := 635) (by decide +kernel))
theorem se_121 : Cond.selects (ab_yn 121).cls (ab_yn 121) (ab_yn 121) ∈ lw_tbl := List.mem_append_right _ (List.mem_of_getElem? (i := 636) (by decide +kernel))
set_option maxRecDepth 100000 in
theorem kw_122 : ab_kw 122 ∈ lw_tbl := List.mem_append_right _ (List.mem_of_getElem? (i := 642) (by decide +kernel))
theorem im_122 : Cond.instanceMethod (ab_yn 122) ∈ lw_tbl := List.mem_append_right _ (List.mem_of_getElem? (i := 640) (by decide +kernel))
theorem se_122 : Cond.selects (ab_yn 122).cls (ab_yn 122) (ab_yn 122) ∈ lw_tbl := List.mem_append_right _ (List.mem_of_getElem? (i := 641) (by decide +kernel))
set_option maxRecDepth 100000 in
theorem kw_123 : ab_kw 123 ∈ lw_tbl := List.mem_append_right _ (List.mem_of_getElem? (i := 647) (by decide +kernel))
theorem im_123 : Cond.instanceMethod (ab_yn 123) ∈ lw_tbl := List.mem_append_right _ (List.mem_of_getElem? (i := 645) (by decide +kernel))
theorem se_123 : Cond.selects (ab_yn 123).cls (ab_yn 123) (ab_yn 123) ∈ lw_tbl := List.mem_append_right _ (List.mem_of_getElem? (i := 646) (by decide +kernel))
set_option maxRecDepth 100000 in
theorem kw_124 : ab_kw 124 ∈ lw_tbl := List.mem_append_right _ (List.mem_of_getElem? (i := 620) (by decide +kernel))
theorem im_124 : Cond.instanceMethod (ab_yn 124) ∈ lw_tbl := List.mem_append_right _ (List.mem_of_getElem? (i := 618) (by decide +kernel))
theorem se_124 : Cond.selects (ab_yn 124).cls (ab_yn 124) (ab_yn 124) ∈ lw_tbl := List.mem_append_right _ (List.mem_of_getElem? (i := 619) (by decide +kernel))
set_option maxRecDepth 100000 in
theorem kw_125 : ab_kw 125 ∈ lw_tbl := List.mem_append_right _ (List.mem_of_getElem? (i := 624) (by decide +kernel))
theorem im_125 : Cond.instanceMethod (ab_yn 125) ∈ lw_tbl := List.mem_append_right _ (List.mem_of_getElem? (i := 622) (by decide +kernel))
theorem se_125 : Cond.selects (ab_yn 125).cls (ab_yn 125) (ab_yn 125) ∈ lw_tbl := List.mem_append_right _ (List.mem_of_getElem? (i := 623) (by decide +kernel))
set_option maxRecDepth 100000 in
theorem kw_126 : ab_kw 126 ∈ lw_tbl := List.mem_append_right _ (List.mem_of_getElem? (i := 628) (by decide +kernel))
theorem im_126 : Cond.instanceMethod (ab_yn 126) ∈ lw_tbl := List.mem_append_right _ (List.mem_of_getElem? (i := 626) (by decide +kernel))
theorem se_126 : Cond.selects (ab_yn 126).cls (ab_yn 126) (ab_yn 126) ∈ lw_tbl := List.mem_append_right _ (List.mem_of_getElem? (i := 627) (by decide +kernel))
set_option maxRecDepth 100000 in
theorem kw_127 : ab_kw 127 ∈ lw_tbl := List.mem_append_right _ (List.mem_of_getElem? (i := 233) (by decide +kernel))
theorem sx_127 : Cond.static (ab_yn 127) ∈ lw_tbl := List.mem_append_right _ (List.mem_of_getElem? (i := 232) (by decide +kernel))
set_option maxRecDepth 100000 in
theorem kw_128 : ab_kw 128 ∈ lw_tbl := List.mem_append_right _ (List.mem_of_getElem? (i := 344) (by decide +kernel))
theorem sx_128 : Cond.static (ab_yn 128) ∈ lw_tbl := List.mem_append_right _ (List.mem_of_getElem? (i := 343) (by decide +kernel))
set_option maxRecDepth 100000 in
theorem kw_129 : ab_kw 129 ∈ lw_tbl := List.mem_append_right _ (List.mem_of_getElem? (i := 456) (by decide +kernel))
theorem sx_129 : Cond.static (ab_yn 129) ∈ lw_tbl := List.mem_append_right _ (List.mem_of_getElem? (i := 455) (by decide +kernel))
set_option maxRecDepth 100000 in
theorem kw_130 : ab_kw 130 ∈ lw_tbl := List.mem_append_right _ (List.mem_of_getElem? (i := 490) (by decide +kernel))
theorem sx_130 : Cond.static (ab_yn 130) ∈ lw_tbl := List.mem_append_right _ (List.mem_of_getElem? (i := 489) (by decide +kernel))
set_option maxRecDepth 100000 in
theorem kw_131 : ab_kw 131 ∈ lw_tbl := List.mem_append_right _ (List.mem_of_getElem? (i := 504) (by decide +kernel))
theorem sx_131 : Cond.static (ab_yn 131) ∈ lw_tbl := List.mem_append_right _ (List.mem_of_getElem? (i := 503) (by decide +kernel))
set_option maxRecDepth 100000 in
theorem kw_132 : ab_kw 132 ∈ lw_tbl := List.mem_append_right _ (List.mem_of_getElem? (i := 526) (by decide +kernel))
theorem sx_132 : Cond.static (ab_yn 132) ∈ lw_tbl := List.mem_append_right _ (List.mem_of_getElem? (i := 525) (by decide +kernel))
set_option maxRecDepth 100000 in
theorem kw_133 : ab_kw 133 ∈ lw_tbl := List.mem_append_right _ (List.mem_of_getElem? (i := 537) (by decide +kernel))
theorem sx_133 : Cond.static (ab_yn 133) ∈ lw_tbl := List.mem_append_right _ (List.mem_of_getElem? (i := 536) (by decide +kernel))
set_option maxRecDepth 100000 in
theorem kw_134 : ab_kw 134 ∈ lw_tbl := List.mem_append_right _ (List.mem_of_getElem? (i := 597) (by decide +kernel))
theorem sx_134 : Cond.static (ab_yn 134) ∈ lw_tbl := List.mem_append_right _ (List.mem_of_getElem? (i := 596) (by decide +kernel))
set_option maxRecDepth 100000 in
theorem kw_135 : ab_kw 135 ∈ lw_tbl := List.mem_append_right _ (List.mem_of_getElem? (i := 650) (by decide +kernel))
theorem sx_135 : Cond.static (ab_yn 135) ∈ lw_tbl := List.mem_append_right _ (List.mem_of_getElem? (i := 649) (by decide +kernel))
set_option maxRecDepth 100000 in
theorem kw_137 : ab_kw 137 ∈ lw_tbl := List.mem_append_right _ (List.mem_of_getElem? (i := 105) (by decide +kernel))
theorem sx_137 : Cond.static (ab_yn 137) ∈ lw_tbl := List.mem_append_right _ (List.mem_of_getElem? (i := 104) (by decide +kernel))
