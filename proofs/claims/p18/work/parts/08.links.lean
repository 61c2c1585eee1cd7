theorem mh_wsI {ws : List Cond} (ps : List Nat) (hp : ws = ps.filterMap (fun i => tables_1[i]?)) (h : ws.all goodWord = true) : ∀ w ∈ ws, w ∈ mh_base := by
  intro w hw
  have h1 := List.all_eq_true.mp h w hw
  rw [hp] at hw
  obtain ⟨i, -, hi⟩ := List.mem_filterMap.mp hw
  exact mh_b (List.mem_append_right _ (List.mem_of_getElem? hi)) h1
set_option maxRecDepth 100000 in
theorem cF_0 : mh_cF 0 RX0 TX0 2 := ⟨rfl, mh_wsI [85, 87] (by decide +kernel) (by decide +kernel), ⟨tyX0, tyX0_ok⟩, nmX0⟩
set_option maxRecDepth 100000 in
theorem cF_1 : mh_cF 1 RX1 TX1 11 := ⟨rfl, mh_wsI [229, 231, 233, 235, 237, 239, 241, 243, 245, 247, 249] (by decide +kernel) (by decide +kernel), ⟨tyX1, tyX1_ok⟩, nmX1⟩
set_option maxRecDepth 100000 in
theorem cF_2 : mh_cF 2 RX2 TX2 1 := ⟨rfl, mh_wsI [177] (by decide +kernel) (by decide +kernel), ⟨tyX2, tyX2_ok⟩, nmX2⟩
set_option maxRecDepth 100000 in
theorem cF_3 : mh_cF 3 RX3 TX3 6 := ⟨rfl, mh_wsI [157, 159, 161, 163, 165, 167] (by decide +kernel) (by decide +kernel), ⟨tyX3, tyX3_ok⟩, nmX3⟩
set_option maxRecDepth 100000 in
theorem cF_4 : mh_cF 4 RX4 TX4 5 := ⟨rfl, mh_wsI [264, 266, 268, 270, 272] (by decide +kernel) (by decide +kernel), ⟨tyX4, tyX4_ok⟩, nmX4⟩
set_option maxRecDepth 100000 in
theorem cF_5 : mh_cF 5 RX5 TX5 6 := ⟨rfl, mh_wsI [126, 128, 130, 132, 134, 136] (by decide +kernel) (by decide +kernel), ⟨tyX5, tyX5_ok⟩, nmX5⟩
set_option maxRecDepth 100000 in
theorem cF_6 : mh_cF 6 RX6 TX6 3 := ⟨rfl, mh_wsI [102, 104, 106] (by decide +kernel) (by decide +kernel), ⟨tyX6, tyX6_ok⟩, nmX6⟩
set_option maxRecDepth 100000 in
theorem cF_7 : mh_cF 7 RX7 TX7 2 := ⟨rfl, mh_wsI [191, 193] (by decide +kernel) (by decide +kernel), ⟨tyX7, tyX7_ok⟩, nmX7⟩
set_option maxRecDepth 100000 in
theorem cF_8 : mh_cF 8 RX8 TX8 8 := ⟨rfl, mh_wsI [59, 61, 63, 65, 67, 69, 71, 73] (by decide +kernel) (by decide +kernel), ⟨tyX8, tyX8_ok⟩, nmX8⟩
set_option maxRecDepth 100000 in
theorem cF_9 : mh_cF 9 RX9 TX9 14 := ⟨rfl, mh_wsI [289, 291, 293, 295, 297, 299, 301, 303, 305, 307, 309, 311, 313, 315] (by decide +kernel) (by decide +kernel), ⟨tyX9, tyX9_ok⟩, nmX9⟩
set_option maxRecDepth 100000 in
theorem cF_10 : mh_cF 10 RX10 TX10 67 := ⟨rfl, mh_wsI [893, 895, 897, 899, 901, 903, 905, 907, 909, 911, 913, 915, 917, 919, 921, 923, 925, 927, 929, 931, 933, 935, 937, 939, 941, 943, 945, 947, 949, 951, 953, 955, 957, 959, 961, 963, 965, 967, 969, 971, 973, 975, 977, 979, 981, 983, 985, 987, 989, 991, 993, 995, 997, 999, 1001, 1003, 1005, 1007, 1009, 1011, 1013, 1015, 1017, 1019, 1021, 1023, 1025] (by decide +kernel) (by decide +kernel), ⟨tyX10, tyX10_ok⟩, nmX10⟩
def mM_X0_pass : mh_Mt := (yX0_pass, cX0_pass, 3, none)
set_option maxRecDepth 100000 in
theorem mt_X0_pass : Cond.code mM_X0_pass.1 mM_X0_pass.2.1 mM_X0_pass.2.2.1 mM_X0_pass.2.2.2 ∈ tables_1 := List.mem_of_getElem? (i := 515) rfl
theorem mc_X0_pass : mh_cd mM_X0_pass 2 := ⟨mh_b (List.mem_append_right _ (List.mem_of_getElem? (i := 3) (by decide +kernel))) (by decide +kernel), mh_b (List.mem_append_right _ mt_X0_pass) (by decide +kernel), ⟨by decide +kernel, by decide +kernel, by decide +kernel⟩, by decide +kernel⟩
def mM_X0_comeAndDry : mh_Mt := (yX0_comeAndDry, cX0_comeAndDry, 6, none)
set_option maxRecDepth 100000 in
theorem mt_X0_comeAndDry : Cond.code mM_X0_comeAndDry.1 mM_X0_comeAndDry.2.1 mM_X0_comeAndDry.2.2.1 mM_X0_comeAndDry.2.2.2 ∈ tables_1 := List.mem_of_getElem? (i := 519) rfl
theorem mc_X0_comeAndDry : mh_cd mM_X0_comeAndDry 2 := ⟨mh_b (List.mem_append_right _ (List.mem_of_getElem? (i := 3) (by decide +kernel))) (by decide +kernel), mh_b (List.mem_append_right _ mt_X0_comeAndDry) (by decide +kernel), ⟨by decide +kernel, by decide +kernel, by decide +kernel⟩, by decide +kernel⟩
def mM_X0_runDown : mh_Mt := (yX0_runDown, cX0_runDown, 6, none)
set_option maxRecDepth 100000 in
theorem mt_X0_runDown : Cond.code mM_X0_runDown.1 mM_X0_runDown.2.1 mM_X0_runDown.2.2.1 mM_X0_runDown.2.2.2 ∈ tables_1 := List.mem_of_getElem? (i := 558) rfl
theorem mc_X0_runDown : mh_cd mM_X0_runDown 1 := ⟨mh_b (List.mem_append_right _ (List.mem_of_getElem? (i := 3) (by decide +kernel))) (by decide +kernel), mh_b (List.mem_append_right _ mt_X0_runDown) (by decide +kernel), ⟨by decide +kernel, by decide +kernel, by decide +kernel⟩, by decide +kernel⟩
def mM_X0_lowestBeside : mh_Mt := (yX0_lowestBeside, cX0_lowestBeside, 4, (some .int))
set_option maxRecDepth 100000 in
theorem mt_X0_lowestBeside : Cond.code mM_X0_lowestBeside.1 mM_X0_lowestBeside.2.1 mM_X0_lowestBeside.2.2.1 mM_X0_lowestBeside.2.2.2 ∈ tables_1 := List.mem_of_getElem? (i := 566) rfl
theorem mc_X0_lowestBeside : mh_cd mM_X0_lowestBeside 1 := ⟨mh_b (List.mem_append_right _ (List.mem_of_getElem? (i := 3) (by decide +kernel))) (by decide +kernel), mh_b (List.mem_append_right _ mt_X0_lowestBeside) (by decide +kernel), ⟨by decide +kernel, by decide +kernel, by decide +kernel⟩, by decide +kernel⟩
def mM_X1_clear : mh_Mt := (yX1_clear, cX1_clear, 1, none)
set_option maxRecDepth 100000 in
theorem mt_X1_clear : Cond.code mM_X1_clear.1 mM_X1_clear.2.1 mM_X1_clear.2.2.1 mM_X1_clear.2.2.2 ∈ tables_1 := List.mem_of_getElem? (i := 358) rfl
theorem mc_X1_clear : mh_cd mM_X1_clear 0 := ⟨mh_b (List.mem_append_right _ (List.mem_of_getElem? (i := 9) (by decide +kernel))) (by decide +kernel), mh_b (List.mem_append_right _ mt_X1_clear) (by decide +kernel), ⟨by decide +kernel, by decide +kernel, by decide +kernel⟩, by decide +kernel⟩
def mM_X1_put : mh_Mt := (yX1_put, cX1_put, 2, none)
set_option maxRecDepth 100000 in
theorem mt_X1_put : Cond.code mM_X1_put.1 mM_X1_put.2.1 mM_X1_put.2.2.1 mM_X1_put.2.2.2 ∈ tables_1 := List.mem_of_getElem? (i := 473) rfl
theorem mc_X1_put : mh_cd mM_X1_put 1 := ⟨mh_b (List.mem_append_right _ (List.mem_of_getElem? (i := 9) (by decide +kernel))) (by decide +kernel), mh_b (List.mem_append_right _ mt_X1_put) (by decide +kernel), ⟨by decide +kernel, by decide +kernel, by decide +kernel⟩, by decide +kernel⟩
def mM_X1_putJump : mh_Mt := (yX1_putJump, cX1_putJump, 2, (some .int))
set_option maxRecDepth 100000 in
theorem mt_X1_putJump : Cond.code mM_X1_putJump.1 mM_X1_putJump.2.1 mM_X1_putJump.2.2.1 mM_X1_putJump.2.2.2 ∈ tables_1 := List.mem_of_getElem? (i := 494) rfl
theorem mc_X1_putJump : mh_cd mM_X1_putJump 1 := ⟨mh_b (List.mem_append_right _ (List.mem_of_getElem? (i := 9) (by decide +kernel))) (by decide +kernel), mh_b (List.mem_append_right _ mt_X1_putJump) (by decide +kernel), ⟨by decide +kernel, by decide +kernel, by decide +kernel⟩, by decide +kernel⟩
def mM_X1_land : mh_Mt := (yX1_land, cX1_land, 2, none)
set_option maxRecDepth 100000 in
theorem mt_X1_land : Cond.code mM_X1_land.1 mM_X1_land.2.1 mM_X1_land.2.2.1 mM_X1_land.2.2.2 ∈ tables_1 := List.mem_of_getElem? (i := 499) rfl
theorem mc_X1_land : mh_cd mM_X1_land 1 := ⟨mh_b (List.mem_append_right _ (List.mem_of_getElem? (i := 9) (by decide +kernel))) (by decide +kernel), mh_b (List.mem_append_right _ mt_X1_land) (by decide +kernel), ⟨by decide +kernel, by decide +kernel, by decide +kernel⟩, by decide +kernel⟩
def mM_X1_addClause : mh_Mt := (yX1_addClause, cX1_addClause, 4, none)
set_option maxRecDepth 100000 in
theorem mt_X1_addClause : Cond.code mM_X1_addClause.1 mM_X1_addClause.2.1 mM_X1_addClause.2.2.1 mM_X1_addClause.2.2.2 ∈ tables_1 := List.mem_of_getElem? (i := 504) rfl
theorem mc_X1_addClause : mh_cd mM_X1_addClause 3 := ⟨mh_b (List.mem_append_right _ (List.mem_of_getElem? (i := 9) (by decide +kernel))) (by decide +kernel), mh_b (List.mem_append_right _ mt_X1_addClause) (by decide +kernel), ⟨by decide +kernel, by decide +kernel, by decide +kernel⟩, by decide +kernel⟩
def mM_X1_see : mh_Mt := (yX1_see, cX1_see, 3, none)
set_option maxRecDepth 100000 in
theorem mt_X1_see : Cond.code mM_X1_see.1 mM_X1_see.2.1 mM_X1_see.2.2.1 mM_X1_see.2.2.2 ∈ tables_1 := List.mem_of_getElem? (i := 523) rfl
theorem mc_X1_see : mh_cd mM_X1_see 2 := ⟨mh_b (List.mem_append_right _ (List.mem_of_getElem? (i := 9) (by decide +kernel))) (by decide +kernel), mh_b (List.mem_append_right _ mt_X1_see) (by decide +kernel), ⟨by decide +kernel, by decide +kernel, by decide +kernel⟩, by decide +kernel⟩
def mM_X1_mist : mh_Mt := (yX1_mist, cX1_mist, 3, (some .int))
set_option maxRecDepth 100000 in
theorem mt_X1_mist : Cond.code mM_X1_mist.1 mM_X1_mist.2.1 mM_X1_mist.2.2.1 mM_X1_mist.2.2.2 ∈ tables_1 := List.mem_of_getElem? (i := 575) rfl
theorem mc_X1_mist : mh_cd mM_X1_mist 2 := ⟨mh_b (List.mem_append_right _ (List.mem_of_getElem? (i := 9) (by decide +kernel))) (by decide +kernel), mh_b (List.mem_append_right _ mt_X1_mist) (by decide +kernel), ⟨by decide +kernel, by decide +kernel, by decide +kernel⟩, by decide +kernel⟩
def mM_X1_top : mh_Mt := (yX1_top, cX1_top, 4, (some .int))
set_option maxRecDepth 100000 in
theorem mt_X1_top : Cond.code mM_X1_top.1 mM_X1_top.2.1 mM_X1_top.2.2.1 mM_X1_top.2.2.2 ∈ tables_1 := List.mem_of_getElem? (i := 581) rfl
theorem mc_X1_top : mh_cd mM_X1_top 2 := ⟨mh_b (List.mem_append_right _ (List.mem_of_getElem? (i := 9) (by decide +kernel))) (by decide +kernel), mh_b (List.mem_append_right _ mt_X1_top) (by decide +kernel), ⟨by decide +kernel, by decide +kernel, by decide +kernel⟩, by decide +kernel⟩
def mM_X1_yards : mh_Mt := (yX1_yards, cX1_yards, 3, (some .int))
set_option maxRecDepth 100000 in
theorem mt_X1_yards : Cond.code mM_X1_yards.1 mM_X1_yards.2.1 mM_X1_yards.2.2.1 mM_X1_yards.2.2.2 ∈ tables_1 := List.mem_of_getElem? (i := 589) rfl
theorem mc_X1_yards : mh_cd mM_X1_yards 2 := ⟨mh_b (List.mem_append_right _ (List.mem_of_getElem? (i := 9) (by decide +kernel))) (by decide +kernel), mh_b (List.mem_append_right _ mt_X1_yards) (by decide +kernel), ⟨by decide +kernel, by decide +kernel, by decide +kernel⟩, by decide +kernel⟩
def mM_X1_saysMist : mh_Mt := (yX1_saysMist, cX1_saysMist, 4, (some .boolean))
set_option maxRecDepth 100000 in
theorem mt_X1_saysMist : Cond.code mM_X1_saysMist.1 mM_X1_saysMist.2.1 mM_X1_saysMist.2.2.1 mM_X1_saysMist.2.2.2 ∈ tables_1 := List.mem_of_getElem? (i := 737) rfl
theorem mc_X1_saysMist : mh_cd mM_X1_saysMist 3 := ⟨mh_b (List.mem_append_right _ (List.mem_of_getElem? (i := 9) (by decide +kernel))) (by decide +kernel), mh_b (List.mem_append_right _ mt_X1_saysMist) (by decide +kernel), ⟨by decide +kernel, by decide +kernel, by decide +kernel⟩, by decide +kernel⟩
def mM_X1_worth : mh_Mt := (yX1_worth, cX1_worth, 3, (some .int))
set_option maxRecDepth 100000 in
theorem mt_X1_worth : Cond.code mM_X1_worth.1 mM_X1_worth.2.1 mM_X1_worth.2.2.1 mM_X1_worth.2.2.2 ∈ tables_1 := List.mem_of_getElem? (i := 536) rfl
theorem mc_X1_worth : mh_cd mM_X1_worth 1 := ⟨mh_b (List.mem_append_right _ (List.mem_of_getElem? (i := 9) (by decide +kernel))) (by decide +kernel), mh_b (List.mem_append_right _ mt_X1_worth) (by decide +kernel), ⟨by decide +kernel, by decide +kernel, by decide +kernel⟩, by decide +kernel⟩
def mM_X1_most : mh_Mt := (yX1_most, cX1_most, 1, (some .int))
set_option maxRecDepth 100000 in
theorem mt_X1_most : Cond.code mM_X1_most.1 mM_X1_most.2.1 mM_X1_most.2.2.1 mM_X1_most.2.2.2 ∈ tables_1 := List.mem_of_getElem? (i := 548) rfl
theorem mc_X1_most : mh_cd mM_X1_most 1 := ⟨mh_b (List.mem_append_right _ (List.mem_of_getElem? (i := 9) (by decide +kernel))) (by decide +kernel), mh_b (List.mem_append_right _ mt_X1_most) (by decide +kernel), ⟨by decide +kernel, by decide +kernel, by decide +kernel⟩, by decide +kernel⟩
def mM_X1_run : mh_Mt := (yX1_run, cX1_run, 10, (some .int))
set_option maxRecDepth 100000 in
theorem mt_X1_run : Cond.code mM_X1_run.1 mM_X1_run.2.1 mM_X1_run.2.2.1 mM_X1_run.2.2.2 ∈ tables_1 := List.mem_of_getElem? (i := 540) rfl
theorem mc_X1_run : mh_cd mM_X1_run 2 := ⟨mh_b (List.mem_append_right _ (List.mem_of_getElem? (i := 9) (by decide +kernel))) (by decide +kernel), mh_b (List.mem_append_right _ mt_X1_run) (by decide +kernel), ⟨by decide +kernel, by decide +kernel, by decide +kernel⟩, by decide +kernel⟩
def mM_X1_combine : mh_Mt := (yX1_combine, cX1_combine, 3, (some .int))
set_option maxRecDepth 100000 in
theorem mt_X1_combine : Cond.code mM_X1_combine.1 mM_X1_combine.2.1 mM_X1_combine.2.2.1 mM_X1_combine.2.2.2 ∈ tables_1 := List.mem_of_getElem? (i := 545) rfl
theorem mc_X1_combine : mh_cd mM_X1_combine 3 := ⟨mh_b (List.mem_append_right _ (List.mem_of_getElem? (i := 9) (by decide +kernel))) (by decide +kernel), mh_b (List.mem_append_right _ mt_X1_combine) (by decide +kernel), ⟨by decide +kernel, by decide +kernel, by decide +kernel⟩, by decide +kernel⟩
def mM_X2_all : mh_Mt := (yX2_all, cX2_all, 6, (some .long))
set_option maxRecDepth 100000 in
theorem mt_X2_all : Cond.code mM_X2_all.1 mM_X2_all.2.1 mM_X2_all.2.2.1 mM_X2_all.2.2.2 ∈ tables_1 := List.mem_of_getElem? (i := 779) rfl
theorem mc_X2_all : mh_cd mM_X2_all 2 := ⟨mh_b (List.mem_append_right _ (List.mem_of_getElem? (i := 7) (by decide +kernel))) (by decide +kernel), mh_b (List.mem_append_right _ mt_X2_all) (by decide +kernel), ⟨by decide +kernel, by decide +kernel, by decide +kernel⟩, by decide +kernel⟩
def mM_X2_breaking : mh_Mt := (yX2_breaking, cX2_breaking, 7, (some .long))
set_option maxRecDepth 100000 in
theorem mt_X2_breaking : Cond.code mM_X2_breaking.1 mM_X2_breaking.2.1 mM_X2_breaking.2.2.1 mM_X2_breaking.2.2.2 ∈ tables_1 := List.mem_of_getElem? (i := 768) rfl
theorem mc_X2_breaking : mh_cd mM_X2_breaking 3 := ⟨mh_b (List.mem_append_right _ (List.mem_of_getElem? (i := 7) (by decide +kernel))) (by decide +kernel), mh_b (List.mem_append_right _ mt_X2_breaking) (by decide +kernel), ⟨by decide +kernel, by decide +kernel, by decide +kernel⟩, by decide +kernel⟩
def mM_X2_push : mh_Mt := (yX2_push, cX2_push, 4, none)
set_option maxRecDepth 100000 in
theorem mt_X2_push : Cond.code mM_X2_push.1 mM_X2_push.2.1 mM_X2_push.2.2.1 mM_X2_push.2.2.2 ∈ tables_1 := List.mem_of_getElem? (i := 775) rfl
theorem mc_X2_push : mh_cd mM_X2_push 1 := ⟨mh_b (List.mem_append_right _ (List.mem_of_getElem? (i := 7) (by decide +kernel))) (by decide +kernel), mh_b (List.mem_append_right _ mt_X2_push) (by decide +kernel), ⟨by decide +kernel, by decide +kernel, by decide +kernel⟩, by decide +kernel⟩
def mM_X3_eveningNumber : mh_Mt := (yX3_eveningNumber, cX3_eveningNumber, 3, (some .int))
set_option maxRecDepth 100000 in
theorem mt_X3_eveningNumber : Cond.code mM_X3_eveningNumber.1 mM_X3_eveningNumber.2.1 mM_X3_eveningNumber.2.2.1 mM_X3_eveningNumber.2.2.2 ∈ tables_1 := List.mem_of_getElem? (i := 719) rfl
theorem mc_X3_eveningNumber : mh_cd mM_X3_eveningNumber 2 := ⟨mh_b (List.mem_append_right _ (List.mem_of_getElem? (i := 6) (by decide +kernel))) (by decide +kernel), mh_b (List.mem_append_right _ mt_X3_eveningNumber) (by decide +kernel), ⟨by decide +kernel, by decide +kernel, by decide +kernel⟩, by decide +kernel⟩
def mM_X3_cost : mh_Mt := (yX3_cost, cX3_cost, 6, (some .int))
set_option maxRecDepth 100000 in
theorem mt_X3_cost : Cond.code mM_X3_cost.1 mM_X3_cost.2.1 mM_X3_cost.2.2.1 mM_X3_cost.2.2.2 ∈ tables_1 := List.mem_of_getElem? (i := 723) rfl
theorem mc_X3_cost : mh_cd mM_X3_cost 4 := ⟨mh_b (List.mem_append_right _ (List.mem_of_getElem? (i := 6) (by decide +kernel))) (by decide +kernel), mh_b (List.mem_append_right _ mt_X3_cost) (by decide +kernel), ⟨by decide +kernel, by decide +kernel, by decide +kernel⟩, by decide +kernel⟩
def mM_X3_lineCost : mh_Mt := (yX3_lineCost, cX3_lineCost, 8, (some .int))
set_option maxRecDepth 100000 in
theorem mt_X3_lineCost : Cond.code mM_X3_lineCost.1 mM_X3_lineCost.2.1 mM_X3_lineCost.2.2.1 mM_X3_lineCost.2.2.2 ∈ tables_1 := List.mem_of_getElem? (i := 715) rfl
theorem mc_X3_lineCost : mh_cd mM_X3_lineCost 4 := ⟨mh_b (List.mem_append_right _ (List.mem_of_getElem? (i := 6) (by decide +kernel))) (by decide +kernel), mh_b (List.mem_append_right _ mt_X3_lineCost) (by decide +kernel), ⟨by decide +kernel, by decide +kernel, by decide +kernel⟩, by decide +kernel⟩
def mM_X3_bestLine : mh_Mt := (yX3_bestLine, cX3_bestLine, 8, (some .int))
set_option maxRecDepth 100000 in
theorem mt_X3_bestLine : Cond.code mM_X3_bestLine.1 mM_X3_bestLine.2.1 mM_X3_bestLine.2.2.1 mM_X3_bestLine.2.2.2 ∈ tables_1 := List.mem_of_getElem? (i := 710) rfl
theorem mc_X3_bestLine : mh_cd mM_X3_bestLine 3 := ⟨mh_b (List.mem_append_right _ (List.mem_of_getElem? (i := 6) (by decide +kernel))) (by decide +kernel), mh_b (List.mem_append_right _ mt_X3_bestLine) (by decide +kernel), ⟨by decide +kernel, by decide +kernel, by decide +kernel⟩, by decide +kernel⟩
def mM_X3_isAlike : mh_Mt := (yX3_isAlike, cX3_isAlike, 6, (some .boolean))
set_option maxRecDepth 100000 in
theorem mt_X3_isAlike : Cond.code mM_X3_isAlike.1 mM_X3_isAlike.2.1 mM_X3_isAlike.2.2.1 mM_X3_isAlike.2.2.2 ∈ tables_1 := List.mem_of_getElem? (i := 747) rfl
theorem mc_X3_isAlike : mh_cd mM_X3_isAlike 5 := ⟨mh_b (List.mem_append_right _ (List.mem_of_getElem? (i := 6) (by decide +kernel))) (by decide +kernel), mh_b (List.mem_append_right _ mt_X3_isAlike) (by decide +kernel), ⟨by decide +kernel, by decide +kernel, by decide +kernel⟩, by decide +kernel⟩
def mM_X3_sendCost : mh_Mt := (yX3_sendCost, cX3_sendCost, 7, (some .int))
set_option maxRecDepth 100000 in
theorem mt_X3_sendCost : Cond.code mM_X3_sendCost.1 mM_X3_sendCost.2.1 mM_X3_sendCost.2.2.1 mM_X3_sendCost.2.2.2 ∈ tables_1 := List.mem_of_getElem? (i := 759) rfl
theorem mc_X3_sendCost : mh_cd mM_X3_sendCost 3 := ⟨mh_b (List.mem_append_right _ (List.mem_of_getElem? (i := 6) (by decide +kernel))) (by decide +kernel), mh_b (List.mem_append_right _ mt_X3_sendCost) (by decide +kernel), ⟨by decide +kernel, by decide +kernel, by decide +kernel⟩, by decide +kernel⟩
def mM_X4_read : mh_Mt := (yX4_read, cX4_read, 4, (some .int))
set_option maxRecDepth 100000 in
theorem mt_X4_read : Cond.code mM_X4_read.1 mM_X4_read.2.1 mM_X4_read.2.2.1 mM_X4_read.2.2.2 ∈ tables_1 := List.mem_of_getElem? (i := 351) rfl
theorem mc_X4_read : mh_cd mM_X4_read 2 := ⟨mh_b (List.mem_append_right _ (List.mem_of_getElem? (i := 11) (by decide +kernel))) (by decide +kernel), mh_b (List.mem_append_right _ mt_X4_read) (by decide +kernel), ⟨by decide +kernel, by decide +kernel, by decide +kernel⟩, by decide +kernel⟩
def mM_X4_sign : mh_Mt := (yX4_sign, cX4_sign, 1, (some .int))
set_option maxRecDepth 100000 in
theorem mt_X4_sign : Cond.code mM_X4_sign.1 mM_X4_sign.2.1 mM_X4_sign.2.2.1 mM_X4_sign.2.2.2 ∈ tables_1 := List.mem_of_getElem? (i := 366) rfl
theorem mc_X4_sign : mh_cd mM_X4_sign 0 := ⟨mh_b (List.mem_append_right _ (List.mem_of_getElem? (i := 11) (by decide +kernel))) (by decide +kernel), mh_b (List.mem_append_right _ mt_X4_sign) (by decide +kernel), ⟨by decide +kernel, by decide +kernel, by decide +kernel⟩, by decide +kernel⟩
def mM_X4_fail : mh_Mt := (yX4_fail, cX4_fail, 2, (some .boolean))
set_option maxRecDepth 100000 in
theorem mt_X4_fail : Cond.code mM_X4_fail.1 mM_X4_fail.2.1 mM_X4_fail.2.2.1 mM_X4_fail.2.2.2 ∈ tables_1 := List.mem_of_getElem? (i := 446) rfl
theorem mc_X4_fail : mh_cd mM_X4_fail 1 := ⟨mh_b (List.mem_append_right _ (List.mem_of_getElem? (i := 11) (by decide +kernel))) (by decide +kernel), mh_b (List.mem_append_right _ mt_X4_fail) (by decide +kernel), ⟨by decide +kernel, by decide +kernel, by decide +kernel⟩, by decide +kernel⟩
def mM_X4_take : mh_Mt := (yX4_take, cX4_take, 2, (some .boolean))
set_option maxRecDepth 100000 in
theorem mt_X4_take : Cond.code mM_X4_take.1 mM_X4_take.2.1 mM_X4_take.2.2.1 mM_X4_take.2.2.2 ∈ tables_1 := List.mem_of_getElem? (i := 462) rfl
theorem mc_X4_take : mh_cd mM_X4_take 1 := ⟨mh_b (List.mem_append_right _ (List.mem_of_getElem? (i := 11) (by decide +kernel))) (by decide +kernel), mh_b (List.mem_append_right _ mt_X4_take) (by decide +kernel), ⟨by decide +kernel, by decide +kernel, by decide +kernel⟩, by decide +kernel⟩
def mM_X4_readClause : mh_Mt := (yX4_readClause, cX4_readClause, 4, (some .boolean))
set_option maxRecDepth 100000 in
theorem mt_X4_readClause : Cond.code mM_X4_readClause.1 mM_X4_readClause.2.1 mM_X4_readClause.2.2.1 mM_X4_readClause.2.2.2 ∈ tables_1 := List.mem_of_getElem? (i := 362) rfl
theorem mc_X4_readClause : mh_cd mM_X4_readClause 0 := ⟨mh_b (List.mem_append_right _ (List.mem_of_getElem? (i := 11) (by decide +kernel))) (by decide +kernel), mh_b (List.mem_append_right _ mt_X4_readClause) (by decide +kernel), ⟨by decide +kernel, by decide +kernel, by decide +kernel⟩, by decide +kernel⟩
def mM_X4_readChoice : mh_Mt := (yX4_readChoice, cX4_readChoice, 3, (some .boolean))
set_option maxRecDepth 100000 in
theorem mt_X4_readChoice : Cond.code mM_X4_readChoice.1 mM_X4_readChoice.2.1 mM_X4_readChoice.2.2.1 mM_X4_readChoice.2.2.2 ∈ tables_1 := List.mem_of_getElem? (i := 478) rfl
theorem mc_X4_readChoice : mh_cd mM_X4_readChoice 1 := ⟨mh_b (List.mem_append_right _ (List.mem_of_getElem? (i := 11) (by decide +kernel))) (by decide +kernel), mh_b (List.mem_append_right _ mt_X4_readChoice) (by decide +kernel), ⟨by decide +kernel, by decide +kernel, by decide +kernel⟩, by decide +kernel⟩
def mM_X4_readPart : mh_Mt := (yX4_readPart, cX4_readPart, 3, (some .boolean))
set_option maxRecDepth 100000 in
theorem mt_X4_readPart : Cond.code mM_X4_readPart.1 mM_X4_readPart.2.1 mM_X4_readPart.2.2.1 mM_X4_readPart.2.2.2 ∈ tables_1 := List.mem_of_getElem? (i := 482) rfl
theorem mc_X4_readPart : mh_cd mM_X4_readPart 1 := ⟨mh_b (List.mem_append_right _ (List.mem_of_getElem? (i := 11) (by decide +kernel))) (by decide +kernel), mh_b (List.mem_append_right _ mt_X4_readPart) (by decide +kernel), ⟨by decide +kernel, by decide +kernel, by decide +kernel⟩, by decide +kernel⟩
def mM_X4_readPiece : mh_Mt := (yX4_readPiece, cX4_readPiece, 3, (some .boolean))
set_option maxRecDepth 100000 in
theorem mt_X4_readPiece : Cond.code mM_X4_readPiece.1 mM_X4_readPiece.2.1 mM_X4_readPiece.2.2.1 mM_X4_readPiece.2.2.2 ∈ tables_1 := List.mem_of_getElem? (i := 486) rfl
theorem mc_X4_readPiece : mh_cd mM_X4_readPiece 1 := ⟨mh_b (List.mem_append_right _ (List.mem_of_getElem? (i := 11) (by decide +kernel))) (by decide +kernel), mh_b (List.mem_append_right _ mt_X4_readPiece) (by decide +kernel), ⟨by decide +kernel, by decide +kernel, by decide +kernel⟩, by decide +kernel⟩
def mM_X4_readCompared : mh_Mt := (yX4_readCompared, cX4_readCompared, 3, (some .boolean))
set_option maxRecDepth 100000 in
theorem mt_X4_readCompared : Cond.code mM_X4_readCompared.1 mM_X4_readCompared.2.1 mM_X4_readCompared.2.2.1 mM_X4_readCompared.2.2.2 ∈ tables_1 := List.mem_of_getElem? (i := 490) rfl
theorem mc_X4_readCompared : mh_cd mM_X4_readCompared 1 := ⟨mh_b (List.mem_append_right _ (List.mem_of_getElem? (i := 11) (by decide +kernel))) (by decide +kernel), mh_b (List.mem_append_right _ mt_X4_readCompared) (by decide +kernel), ⟨by decide +kernel, by decide +kernel, by decide +kernel⟩, by decide +kernel⟩
def mM_X4_readSum : mh_Mt := (yX4_readSum, cX4_readSum, 3, (some .boolean))
set_option maxRecDepth 100000 in
theorem mt_X4_readSum : Cond.code mM_X4_readSum.1 mM_X4_readSum.2.1 mM_X4_readSum.2.2.1 mM_X4_readSum.2.2.2 ∈ tables_1 := List.mem_of_getElem? (i := 450) rfl
theorem mc_X4_readSum : mh_cd mM_X4_readSum 1 := ⟨mh_b (List.mem_append_right _ (List.mem_of_getElem? (i := 11) (by decide +kernel))) (by decide +kernel), mh_b (List.mem_append_right _ mt_X4_readSum) (by decide +kernel), ⟨by decide +kernel, by decide +kernel, by decide +kernel⟩, by decide +kernel⟩
def mM_X4_readTerm : mh_Mt := (yX4_readTerm, cX4_readTerm, 3, (some .boolean))
set_option maxRecDepth 100000 in
theorem mt_X4_readTerm : Cond.code mM_X4_readTerm.1 mM_X4_readTerm.2.1 mM_X4_readTerm.2.2.1 mM_X4_readTerm.2.2.2 ∈ tables_1 := List.mem_of_getElem? (i := 454) rfl
theorem mc_X4_readTerm : mh_cd mM_X4_readTerm 1 := ⟨mh_b (List.mem_append_right _ (List.mem_of_getElem? (i := 11) (by decide +kernel))) (by decide +kernel), mh_b (List.mem_append_right _ mt_X4_readTerm) (by decide +kernel), ⟨by decide +kernel, by decide +kernel, by decide +kernel⟩, by decide +kernel⟩
def mM_X4_readFactor : mh_Mt := (yX4_readFactor, cX4_readFactor, 4, (some .boolean))
set_option maxRecDepth 100000 in
theorem mt_X4_readFactor : Cond.code mM_X4_readFactor.1 mM_X4_readFactor.2.1 mM_X4_readFactor.2.2.1 mM_X4_readFactor.2.2.2 ∈ tables_1 := List.mem_of_getElem? (i := 458) rfl
theorem mc_X4_readFactor : mh_cd mM_X4_readFactor 1 := ⟨mh_b (List.mem_append_right _ (List.mem_of_getElem? (i := 11) (by decide +kernel))) (by decide +kernel), mh_b (List.mem_append_right _ mt_X4_readFactor) (by decide +kernel), ⟨by decide +kernel, by decide +kernel, by decide +kernel⟩, by decide +kernel⟩
def mM_X4_readNumber : mh_Mt := (yX4_readNumber, cX4_readNumber, 3, (some .boolean))
set_option maxRecDepth 100000 in
theorem mt_X4_readNumber : Cond.code mM_X4_readNumber.1 mM_X4_readNumber.2.1 mM_X4_readNumber.2.2.1 mM_X4_readNumber.2.2.2 ∈ tables_1 := List.mem_of_getElem? (i := 469) rfl
theorem mc_X4_readNumber : mh_cd mM_X4_readNumber 0 := ⟨mh_b (List.mem_append_right _ (List.mem_of_getElem? (i := 11) (by decide +kernel))) (by decide +kernel), mh_b (List.mem_append_right _ mt_X4_readNumber) (by decide +kernel), ⟨by decide +kernel, by decide +kernel, by decide +kernel⟩, by decide +kernel⟩
def mM_X4_isDigit : mh_Mt := (yX4_isDigit, cX4_isDigit, 1, (some .boolean))
set_option maxRecDepth 100000 in
theorem mt_X4_isDigit : Cond.code mM_X4_isDigit.1 mM_X4_isDigit.2.1 mM_X4_isDigit.2.2.1 mM_X4_isDigit.2.2.2 ∈ tables_1 := List.mem_of_getElem? (i := 465) rfl
theorem mc_X4_isDigit : mh_cd mM_X4_isDigit 1 := ⟨mh_b (List.mem_append_right _ (List.mem_of_getElem? (i := 11) (by decide +kernel))) (by decide +kernel), mh_b (List.mem_append_right _ mt_X4_isDigit) (by decide +kernel), ⟨by decide +kernel, by decide +kernel, by decide +kernel⟩, by decide +kernel⟩
def mM_X5_isTold : mh_Mt := (yX5_isTold, cX5_isTold, 2, (some .boolean))
set_option maxRecDepth 100000 in
theorem mt_X5_isTold : Cond.code mM_X5_isTold.1 mM_X5_isTold.2.1 mM_X5_isTold.2.2.1 mM_X5_isTold.2.2.2 ∈ tables_1 := List.mem_of_getElem? (i := 666) rfl
theorem mc_X5_isTold : mh_cd mM_X5_isTold 1 := ⟨mh_b (List.mem_append_right _ (List.mem_of_getElem? (i := 5) (by decide +kernel))) (by decide +kernel), mh_b (List.mem_append_right _ mt_X5_isTold) (by decide +kernel), ⟨by decide +kernel, by decide +kernel, by decide +kernel⟩, by decide +kernel⟩
def mM_X5_meet : mh_Mt := (yX5_meet, cX5_meet, 3, (some .boolean))
set_option maxRecDepth 100000 in
theorem mt_X5_meet : Cond.code mM_X5_meet.1 mM_X5_meet.2.1 mM_X5_meet.2.2.1 mM_X5_meet.2.2.2 ∈ tables_1 := List.mem_of_getElem? (i := 689) rfl
theorem mc_X5_meet : mh_cd mM_X5_meet 2 := ⟨mh_b (List.mem_append_right _ (List.mem_of_getElem? (i := 5) (by decide +kernel))) (by decide +kernel), mh_b (List.mem_append_right _ mt_X5_meet) (by decide +kernel), ⟨by decide +kernel, by decide +kernel, by decide +kernel⟩, by decide +kernel⟩
def mM_X5_look : mh_Mt := (yX5_look, cX5_look, 4, none)
set_option maxRecDepth 100000 in
theorem mt_X5_look : Cond.code mM_X5_look.1 mM_X5_look.2.1 mM_X5_look.2.2.1 mM_X5_look.2.2.2 ∈ tables_1 := List.mem_of_getElem? (i := 662) rfl
theorem mc_X5_look : mh_cd mM_X5_look 2 := ⟨mh_b (List.mem_append_right _ (List.mem_of_getElem? (i := 5) (by decide +kernel))) (by decide +kernel), mh_b (List.mem_append_right _ mt_X5_look) (by decide +kernel), ⟨by decide +kernel, by decide +kernel, by decide +kernel⟩, by decide +kernel⟩
def mM_X5_leave : mh_Mt := (yX5_leave, cX5_leave, 3, none)
set_option maxRecDepth 100000 in
theorem mt_X5_leave : Cond.code mM_X5_leave.1 mM_X5_leave.2.1 mM_X5_leave.2.2.1 mM_X5_leave.2.2.2 ∈ tables_1 := List.mem_of_getElem? (i := 655) rfl
theorem mc_X5_leave : mh_cd mM_X5_leave 2 := ⟨mh_b (List.mem_append_right _ (List.mem_of_getElem? (i := 5) (by decide +kernel))) (by decide +kernel), mh_b (List.mem_append_right _ mt_X5_leave) (by decide +kernel), ⟨by decide +kernel, by decide +kernel, by decide +kernel⟩, by decide +kernel⟩
def mM_X5_isAt : mh_Mt := (yX5_isAt, cX5_isAt, 3, (some .boolean))
set_option maxRecDepth 100000 in
theorem mt_X5_isAt : Cond.code mM_X5_isAt.1 mM_X5_isAt.2.1 mM_X5_isAt.2.2.1 mM_X5_isAt.2.2.2 ∈ tables_1 := List.mem_of_getElem? (i := 676) rfl
theorem mc_X5_isAt : mh_cd mM_X5_isAt 2 := ⟨mh_b (List.mem_append_right _ (List.mem_of_getElem? (i := 5) (by decide +kernel))) (by decide +kernel), mh_b (List.mem_append_right _ mt_X5_isAt) (by decide +kernel), ⟨by decide +kernel, by decide +kernel, by decide +kernel⟩, by decide +kernel⟩
def mM_X5_go : mh_Mt := (yX5_go, cX5_go, 5, (some .int))
set_option maxRecDepth 100000 in
theorem mt_X5_go : Cond.code mM_X5_go.1 mM_X5_go.2.1 mM_X5_go.2.2.1 mM_X5_go.2.2.2 ∈ tables_1 := List.mem_of_getElem? (i := 671) rfl
theorem mc_X5_go : mh_cd mM_X5_go 3 := ⟨mh_b (List.mem_append_right _ (List.mem_of_getElem? (i := 5) (by decide +kernel))) (by decide +kernel), mh_b (List.mem_append_right _ mt_X5_go) (by decide +kernel), ⟨by decide +kernel, by decide +kernel, by decide +kernel⟩, by decide +kernel⟩
def mM_X5_goIn : mh_Mt := (yX5_goIn, cX5_goIn, 5, none)
set_option maxRecDepth 100000 in
theorem mt_X5_goIn : Cond.code mM_X5_goIn.1 mM_X5_goIn.2.1 mM_X5_goIn.2.2.1 mM_X5_goIn.2.2.2 ∈ tables_1 := List.mem_of_getElem? (i := 680) rfl
theorem mc_X5_goIn : mh_cd mM_X5_goIn 1 := ⟨mh_b (List.mem_append_right _ (List.mem_of_getElem? (i := 5) (by decide +kernel))) (by decide +kernel), mh_b (List.mem_append_right _ mt_X5_goIn) (by decide +kernel), ⟨by decide +kernel, by decide +kernel, by decide +kernel⟩, by decide +kernel⟩
def mM_X6_look : mh_Mt := (yX6_look, cX6_look, 5, none)
set_option maxRecDepth 100000 in
theorem mt_X6_look : Cond.code mM_X6_look.1 mM_X6_look.2.1 mM_X6_look.2.2.1 mM_X6_look.2.2.2 ∈ tables_1 := List.mem_of_getElem? (i := 601) rfl
theorem mc_X6_look : mh_cd mM_X6_look 2 := ⟨mh_b (List.mem_append_right _ (List.mem_of_getElem? (i := 4) (by decide +kernel))) (by decide +kernel), mh_b (List.mem_append_right _ mt_X6_look) (by decide +kernel), ⟨by decide +kernel, by decide +kernel, by decide +kernel⟩, by decide +kernel⟩
def mM_X7_put : mh_Mt := (yX7_put, cX7_put, 3, none)
set_option maxRecDepth 100000 in
theorem mt_X7_put : Cond.code mM_X7_put.1 mM_X7_put.2.1 mM_X7_put.2.2.1 mM_X7_put.2.2.2 ∈ tables_1 := List.mem_of_getElem? (i := 343) rfl
theorem mc_X7_put : mh_cd mM_X7_put 1 := ⟨mh_b (List.mem_append_right _ (List.mem_of_getElem? (i := 8) (by decide +kernel))) (by decide +kernel), mh_b (List.mem_append_right _ mt_X7_put) (by decide +kernel), ⟨by decide +kernel, by decide +kernel, by decide +kernel⟩, by decide +kernel⟩
def mM_X7_sign : mh_Mt := (yX7_sign, cX7_sign, 2, (some .int))
set_option maxRecDepth 100000 in
theorem mt_X7_sign : Cond.code mM_X7_sign.1 mM_X7_sign.2.1 mM_X7_sign.2.2.1 mM_X7_sign.2.2.2 ∈ tables_1 := List.mem_of_getElem? (i := 813) rfl
theorem mc_X7_sign : mh_cd mM_X7_sign 1 := ⟨mh_b (List.mem_append_right _ (List.mem_of_getElem? (i := 8) (by decide +kernel))) (by decide +kernel), mh_b (List.mem_append_right _ mt_X7_sign) (by decide +kernel), ⟨by decide +kernel, by decide +kernel, by decide +kernel⟩, by decide +kernel⟩
def mM_X7_number : mh_Mt := (yX7_number, cX7_number, 4, (some .int))
set_option maxRecDepth 100000 in
theorem mt_X7_number : Cond.code mM_X7_number.1 mM_X7_number.2.1 mM_X7_number.2.2.1 mM_X7_number.2.2.2 ∈ tables_1 := List.mem_of_getElem? (i := 809) rfl
theorem mc_X7_number : mh_cd mM_X7_number 1 := ⟨mh_b (List.mem_append_right _ (List.mem_of_getElem? (i := 8) (by decide +kernel))) (by decide +kernel), mh_b (List.mem_append_right _ mt_X7_number) (by decide +kernel), ⟨by decide +kernel, by decide +kernel, by decide +kernel⟩, by decide +kernel⟩
def mM_X8_copyFrom : mh_Mt := (yX8_copyFrom, cX8_copyFrom, 2, none)
set_option maxRecDepth 100000 in
theorem mt_X8_copyFrom : Cond.code mM_X8_copyFrom.1 mM_X8_copyFrom.2.1 mM_X8_copyFrom.2.2.1 mM_X8_copyFrom.2.2.2 ∈ tables_1 := List.mem_of_getElem? (i := 611) rfl
theorem mc_X8_copyFrom : mh_cd mM_X8_copyFrom 1 := ⟨mh_b (List.mem_append_right _ (List.mem_of_getElem? (i := 2) (by decide +kernel))) (by decide +kernel), mh_b (List.mem_append_right _ mt_X8_copyFrom) (by decide +kernel), ⟨by decide +kernel, by decide +kernel, by decide +kernel⟩, by decide +kernel⟩
def mM_X8_windOf : mh_Mt := (yX8_windOf, cX8_windOf, 2, (some .int))
set_option maxRecDepth 100000 in
theorem mt_X8_windOf : Cond.code mM_X8_windOf.1 mM_X8_windOf.2.1 mM_X8_windOf.2.2.1 mM_X8_windOf.2.2.2 ∈ tables_1 := List.mem_of_getElem? (i := 527) rfl
theorem mc_X8_windOf : mh_cd mM_X8_windOf 1 := ⟨mh_b (List.mem_append_right _ (List.mem_of_getElem? (i := 2) (by decide +kernel))) (by decide +kernel), mh_b (List.mem_append_right _ mt_X8_windOf) (by decide +kernel), ⟨by decide +kernel, by decide +kernel, by decide +kernel⟩, by decide +kernel⟩
def mM_X8_drawWind : mh_Mt := (yX8_drawWind, cX8_drawWind, 1, none)
set_option maxRecDepth 100000 in
theorem mt_X8_drawWind : Cond.code mM_X8_drawWind.1 mM_X8_drawWind.2.1 mM_X8_drawWind.2.2.1 mM_X8_drawWind.2.2.2 ∈ tables_1 := List.mem_of_getElem? (i := 792) rfl
theorem mc_X8_drawWind : mh_cd mM_X8_drawWind 0 := ⟨mh_b (List.mem_append_right _ (List.mem_of_getElem? (i := 2) (by decide +kernel))) (by decide +kernel), mh_b (List.mem_append_right _ mt_X8_drawWind) (by decide +kernel), ⟨by decide +kernel, by decide +kernel, by decide +kernel⟩, by decide +kernel⟩
def mM_X8_level : mh_Mt := (yX8_level, cX8_level, 3, (some .int))
set_option maxRecDepth 100000 in
theorem mt_X8_level : Cond.code mM_X8_level.1 mM_X8_level.2.1 mM_X8_level.2.2.1 mM_X8_level.2.2.2 ∈ tables_1 := List.mem_of_getElem? (i := 562) rfl
theorem mc_X8_level : mh_cd mM_X8_level 1 := ⟨mh_b (List.mem_append_right _ (List.mem_of_getElem? (i := 2) (by decide +kernel))) (by decide +kernel), mh_b (List.mem_append_right _ mt_X8_level) (by decide +kernel), ⟨by decide +kernel, by decide +kernel, by decide +kernel⟩, by decide +kernel⟩
def mM_X8_treesBeside : mh_Mt := (yX8_treesBeside, cX8_treesBeside, 4, (some .int))
set_option maxRecDepth 100000 in
theorem mt_X8_treesBeside : Cond.code mM_X8_treesBeside.1 mM_X8_treesBeside.2.1 mM_X8_treesBeside.2.2.1 mM_X8_treesBeside.2.2.2 ∈ tables_1 := List.mem_of_getElem? (i := 532) rfl
theorem mc_X8_treesBeside : mh_cd mM_X8_treesBeside 1 := ⟨mh_b (List.mem_append_right _ (List.mem_of_getElem? (i := 2) (by decide +kernel))) (by decide +kernel), mh_b (List.mem_append_right _ mt_X8_treesBeside) (by decide +kernel), ⟨by decide +kernel, by decide +kernel, by decide +kernel⟩, by decide +kernel⟩
def mM_X9_ground : mh_Mt := (yX9_ground, cX9_ground, 6, (some .boolean))
set_option maxRecDepth 100000 in
theorem mt_X9_ground : Cond.code mM_X9_ground.1 mM_X9_ground.2.1 mM_X9_ground.2.2.1 mM_X9_ground.2.2.2 ∈ tables_1 := List.mem_of_getElem? (i := 321) rfl
theorem mc_X9_ground : mh_cd mM_X9_ground 4 := ⟨mh_b (List.mem_append_right _ (List.mem_of_getElem? (i := 1) (by decide +kernel))) (by decide +kernel), mh_b (List.mem_append_right _ mt_X9_ground) (by decide +kernel), ⟨by decide +kernel, by decide +kernel, by decide +kernel⟩, by decide +kernel⟩
def mM_X9_air : mh_Mt := (yX9_air, cX9_air, 6, (some .boolean))
set_option maxRecDepth 100000 in
theorem mt_X9_air : Cond.code mM_X9_air.1 mM_X9_air.2.1 mM_X9_air.2.2.1 mM_X9_air.2.2.2 ∈ tables_1 := List.mem_of_getElem? (i := 331) rfl
theorem mc_X9_air : mh_cd mM_X9_air 4 := ⟨mh_b (List.mem_append_right _ (List.mem_of_getElem? (i := 1) (by decide +kernel))) (by decide +kernel), mh_b (List.mem_append_right _ mt_X9_air) (by decide +kernel), ⟨by decide +kernel, by decide +kernel, by decide +kernel⟩, by decide +kernel⟩
def mM_X9_wind : mh_Mt := (yX9_wind, cX9_wind, 3, (some .boolean))
set_option maxRecDepth 100000 in
theorem mt_X9_wind : Cond.code mM_X9_wind.1 mM_X9_wind.2.1 mM_X9_wind.2.2.1 mM_X9_wind.2.2.2 ∈ tables_1 := List.mem_of_getElem? (i := 335) rfl
theorem mc_X9_wind : mh_cd mM_X9_wind 2 := ⟨mh_b (List.mem_append_right _ (List.mem_of_getElem? (i := 1) (by decide +kernel))) (by decide +kernel), mh_b (List.mem_append_right _ mt_X9_wind) (by decide +kernel), ⟨by decide +kernel, by decide +kernel, by decide +kernel⟩, by decide +kernel⟩
def mM_X9_feed : mh_Mt := (yX9_feed, cX9_feed, 6, (some .int))
set_option maxRecDepth 100000 in
theorem mt_X9_feed : Cond.code mM_X9_feed.1 mM_X9_feed.2.1 mM_X9_feed.2.2.1 mM_X9_feed.2.2.2 ∈ tables_1 := List.mem_of_getElem? (i := 339) rfl
theorem mc_X9_feed : mh_cd mM_X9_feed 5 := ⟨mh_b (List.mem_append_right _ (List.mem_of_getElem? (i := 1) (by decide +kernel))) (by decide +kernel), mh_b (List.mem_append_right _ mt_X9_feed) (by decide +kernel), ⟨by decide +kernel, by decide +kernel, by decide +kernel⟩, by decide +kernel⟩
def mM_X9_law : mh_Mt := (yX9_law, cX9_law, 4, (some .int))
set_option maxRecDepth 100000 in
theorem mt_X9_law : Cond.code mM_X9_law.1 mM_X9_law.2.1 mM_X9_law.2.2.1 mM_X9_law.2.2.2 ∈ tables_1 := List.mem_of_getElem? (i := 347) rfl
theorem mc_X9_law : mh_cd mM_X9_law 1 := ⟨mh_b (List.mem_append_right _ (List.mem_of_getElem? (i := 1) (by decide +kernel))) (by decide +kernel), mh_b (List.mem_append_right _ mt_X9_law) (by decide +kernel), ⟨by decide +kernel, by decide +kernel, by decide +kernel⟩, by decide +kernel⟩
def mM_X9_steps : mh_Mt := (yX9_steps, cX9_steps, 4, (some .int))
set_option maxRecDepth 100000 in
theorem mt_X9_steps : Cond.code mM_X9_steps.1 mM_X9_steps.2.1 mM_X9_steps.2.2.1 mM_X9_steps.2.2.2 ∈ tables_1 := List.mem_of_getElem? (i := 508) rfl
theorem mc_X9_steps : mh_cd mM_X9_steps 1 := ⟨mh_b (List.mem_append_right _ (List.mem_of_getElem? (i := 1) (by decide +kernel))) (by decide +kernel), mh_b (List.mem_append_right _ mt_X9_steps) (by decide +kernel), ⟨by decide +kernel, by decide +kernel, by decide +kernel⟩, by decide +kernel⟩
def mM_X9_cell : mh_Mt := (yX9_cell, cX9_cell, 5, (some .int))
set_option maxRecDepth 100000 in
theorem mt_X9_cell : Cond.code mM_X9_cell.1 mM_X9_cell.2.1 mM_X9_cell.2.2.1 mM_X9_cell.2.2.2 ∈ tables_1 := List.mem_of_getElem? (i := 571) rfl
theorem mc_X9_cell : mh_cd mM_X9_cell 3 := ⟨mh_b (List.mem_append_right _ (List.mem_of_getElem? (i := 1) (by decide +kernel))) (by decide +kernel), mh_b (List.mem_append_right _ mt_X9_cell) (by decide +kernel), ⟨by decide +kernel, by decide +kernel, by decide +kernel⟩, by decide +kernel⟩
def mM_X9_sums : mh_Mt := (yX9_sums, cX9_sums, 2, (some .int))
set_option maxRecDepth 100000 in
theorem mt_X9_sums : Cond.code mM_X9_sums.1 mM_X9_sums.2.1 mM_X9_sums.2.2.1 mM_X9_sums.2.2.2 ∈ tables_1 := List.mem_of_getElem? (i := 594) rfl
theorem mc_X9_sums : mh_cd mM_X9_sums 1 := ⟨mh_b (List.mem_append_right _ (List.mem_of_getElem? (i := 1) (by decide +kernel))) (by decide +kernel), mh_b (List.mem_append_right _ mt_X9_sums) (by decide +kernel), ⟨by decide +kernel, by decide +kernel, by decide +kernel⟩, by decide +kernel⟩
def mM_X9_night : mh_Mt := (yX9_night, cX9_night, 9, (some .int))
set_option maxRecDepth 100000 in
theorem mt_X9_night : Cond.code mM_X9_night.1 mM_X9_night.2.1 mM_X9_night.2.2.1 mM_X9_night.2.2.2 ∈ tables_1 := List.mem_of_getElem? (i := 607) rfl
theorem mc_X9_night : mh_cd mM_X9_night 2 := ⟨mh_b (List.mem_append_right _ (List.mem_of_getElem? (i := 1) (by decide +kernel))) (by decide +kernel), mh_b (List.mem_append_right _ mt_X9_night) (by decide +kernel), ⟨by decide +kernel, by decide +kernel, by decide +kernel⟩, by decide +kernel⟩
def mM_X9_sun : mh_Mt := (yX9_sun, cX9_sun, 8, (some .int))
set_option maxRecDepth 100000 in
theorem mt_X9_sun : Cond.code mM_X9_sun.1 mM_X9_sun.2.1 mM_X9_sun.2.2.1 mM_X9_sun.2.2.2 ∈ tables_1 := List.mem_of_getElem? (i := 618) rfl
theorem mc_X9_sun : mh_cd mM_X9_sun 4 := ⟨mh_b (List.mem_append_right _ (List.mem_of_getElem? (i := 1) (by decide +kernel))) (by decide +kernel), mh_b (List.mem_append_right _ mt_X9_sun) (by decide +kernel), ⟨by decide +kernel, by decide +kernel, by decide +kernel⟩, by decide +kernel⟩
def mM_X9_band : mh_Mt := (yX9_band, cX9_band, 5, (some .int))
set_option maxRecDepth 100000 in
theorem mt_X9_band : Cond.code mM_X9_band.1 mM_X9_band.2.1 mM_X9_band.2.2.1 mM_X9_band.2.2.2 ∈ tables_1 := List.mem_of_getElem? (i := 622) rfl
theorem mc_X9_band : mh_cd mM_X9_band 2 := ⟨mh_b (List.mem_append_right _ (List.mem_of_getElem? (i := 1) (by decide +kernel))) (by decide +kernel), mh_b (List.mem_append_right _ mt_X9_band) (by decide +kernel), ⟨by decide +kernel, by decide +kernel, by decide +kernel⟩, by decide +kernel⟩
def mM_X9_works : mh_Mt := (yX9_works, cX9_works, 6, (some .int))
set_option maxRecDepth 100000 in
theorem mt_X9_works : Cond.code mM_X9_works.1 mM_X9_works.2.1 mM_X9_works.2.2.1 mM_X9_works.2.2.2 ∈ tables_1 := List.mem_of_getElem? (i := 630) rfl
theorem mc_X9_works : mh_cd mM_X9_works 4 := ⟨mh_b (List.mem_append_right _ (List.mem_of_getElem? (i := 1) (by decide +kernel))) (by decide +kernel), mh_b (List.mem_append_right _ mt_X9_works) (by decide +kernel), ⟨by decide +kernel, by decide +kernel, by decide +kernel⟩, by decide +kernel⟩
def mM_X9_dam : mh_Mt := (yX9_dam, cX9_dam, 7, (some .int))
set_option maxRecDepth 100000 in
theorem mt_X9_dam : Cond.code mM_X9_dam.1 mM_X9_dam.2.1 mM_X9_dam.2.2.1 mM_X9_dam.2.2.2 ∈ tables_1 := List.mem_of_getElem? (i := 643) rfl
theorem mc_X9_dam : mh_cd mM_X9_dam 3 := ⟨mh_b (List.mem_append_right _ (List.mem_of_getElem? (i := 1) (by decide +kernel))) (by decide +kernel), mh_b (List.mem_append_right _ mt_X9_dam) (by decide +kernel), ⟨by decide +kernel, by decide +kernel, by decide +kernel⟩, by decide +kernel⟩
def mM_X9_road : mh_Mt := (yX9_road, cX9_road, 6, (some .boolean))
set_option maxRecDepth 100000 in
theorem mt_X9_road : Cond.code mM_X9_road.1 mM_X9_road.2.1 mM_X9_road.2.2.1 mM_X9_road.2.2.2 ∈ tables_1 := List.mem_of_getElem? (i := 647) rfl
theorem mc_X9_road : mh_cd mM_X9_road 5 := ⟨mh_b (List.mem_append_right _ (List.mem_of_getElem? (i := 1) (by decide +kernel))) (by decide +kernel), mh_b (List.mem_append_right _ mt_X9_road) (by decide +kernel), ⟨by decide +kernel, by decide +kernel, by decide +kernel⟩, by decide +kernel⟩
def mM_X9_soonest : mh_Mt := (yX9_soonest, cX9_soonest, 7, (some .int))
set_option maxRecDepth 100000 in
theorem mt_X9_soonest : Cond.code mM_X9_soonest.1 mM_X9_soonest.2.1 mM_X9_soonest.2.2.1 mM_X9_soonest.2.2.2 ∈ tables_1 := List.mem_of_getElem? (i := 651) rfl
theorem mc_X9_soonest : mh_cd mM_X9_soonest 4 := ⟨mh_b (List.mem_append_right _ (List.mem_of_getElem? (i := 1) (by decide +kernel))) (by decide +kernel), mh_b (List.mem_append_right _ mt_X9_soonest) (by decide +kernel), ⟨by decide +kernel, by decide +kernel, by decide +kernel⟩, by decide +kernel⟩
def mM_X9_edge : mh_Mt := (yX9_edge, cX9_edge, 7, (some .int))
set_option maxRecDepth 100000 in
theorem mt_X9_edge : Cond.code mM_X9_edge.1 mM_X9_edge.2.1 mM_X9_edge.2.2.1 mM_X9_edge.2.2.2 ∈ tables_1 := List.mem_of_getElem? (i := 685) rfl
theorem mc_X9_edge : mh_cd mM_X9_edge 1 := ⟨mh_b (List.mem_append_right _ (List.mem_of_getElem? (i := 1) (by decide +kernel))) (by decide +kernel), mh_b (List.mem_append_right _ mt_X9_edge) (by decide +kernel), ⟨by decide +kernel, by decide +kernel, by decide +kernel⟩, by decide +kernel⟩
def mM_X9_was : mh_Mt := (yX9_was, cX9_was, 7, (some .int))
set_option maxRecDepth 100000 in
theorem mt_X9_was : Cond.code mM_X9_was.1 mM_X9_was.2.1 mM_X9_was.2.2.1 mM_X9_was.2.2.2 ∈ tables_1 := List.mem_of_getElem? (i := 696) rfl
theorem mc_X9_was : mh_cd mM_X9_was 5 := ⟨mh_b (List.mem_append_right _ (List.mem_of_getElem? (i := 1) (by decide +kernel))) (by decide +kernel), mh_b (List.mem_append_right _ mt_X9_was) (by decide +kernel), ⟨by decide +kernel, by decide +kernel, by decide +kernel⟩, by decide +kernel⟩
def mM_X9_line : mh_Mt := (yX9_line, cX9_line, 6, (some .int))
set_option maxRecDepth 100000 in
theorem mt_X9_line : Cond.code mM_X9_line.1 mM_X9_line.2.1 mM_X9_line.2.2.1 mM_X9_line.2.2.2 ∈ tables_1 := List.mem_of_getElem? (i := 703) rfl
theorem mc_X9_line : mh_cd mM_X9_line 4 := ⟨mh_b (List.mem_append_right _ (List.mem_of_getElem? (i := 1) (by decide +kernel))) (by decide +kernel), mh_b (List.mem_append_right _ mt_X9_line) (by decide +kernel), ⟨by decide +kernel, by decide +kernel, by decide +kernel⟩, by decide +kernel⟩
def mM_X9_tells : mh_Mt := (yX9_tells, cX9_tells, 7, (some .int))
set_option maxRecDepth 100000 in
theorem mt_X9_tells : Cond.code mM_X9_tells.1 mM_X9_tells.2.1 mM_X9_tells.2.2.1 mM_X9_tells.2.2.2 ∈ tables_1 := List.mem_of_getElem? (i := 728) rfl
theorem mc_X9_tells : mh_cd mM_X9_tells 2 := ⟨mh_b (List.mem_append_right _ (List.mem_of_getElem? (i := 1) (by decide +kernel))) (by decide +kernel), mh_b (List.mem_append_right _ mt_X9_tells) (by decide +kernel), ⟨by decide +kernel, by decide +kernel, by decide +kernel⟩, by decide +kernel⟩
def mM_X9_held : mh_Mt := (yX9_held, cX9_held, 6, (some .int))
set_option maxRecDepth 100000 in
theorem mt_X9_held : Cond.code mM_X9_held.1 mM_X9_held.2.1 mM_X9_held.2.2.1 mM_X9_held.2.2.2 ∈ tables_1 := List.mem_of_getElem? (i := 733) rfl
theorem mc_X9_held : mh_cd mM_X9_held 2 := ⟨mh_b (List.mem_append_right _ (List.mem_of_getElem? (i := 1) (by decide +kernel))) (by decide +kernel), mh_b (List.mem_append_right _ mt_X9_held) (by decide +kernel), ⟨by decide +kernel, by decide +kernel, by decide +kernel⟩, by decide +kernel⟩
def mM_X9_odds : mh_Mt := (yX9_odds, cX9_odds, 10, (some .int))
set_option maxRecDepth 100000 in
theorem mt_X9_odds : Cond.code mM_X9_odds.1 mM_X9_odds.2.1 mM_X9_odds.2.2.1 mM_X9_odds.2.2.2 ∈ tables_1 := List.mem_of_getElem? (i := 743) rfl
theorem mc_X9_odds : mh_cd mM_X9_odds 5 := ⟨mh_b (List.mem_append_right _ (List.mem_of_getElem? (i := 1) (by decide +kernel))) (by decide +kernel), mh_b (List.mem_append_right _ mt_X9_odds) (by decide +kernel), ⟨by decide +kernel, by decide +kernel, by decide +kernel⟩, by decide +kernel⟩
def mM_X9_when : mh_Mt := (yX9_when, cX9_when, 8, (some .int))
set_option maxRecDepth 100000 in
theorem mt_X9_when : Cond.code mM_X9_when.1 mM_X9_when.2.1 mM_X9_when.2.2.1 mM_X9_when.2.2.2 ∈ tables_1 := List.mem_of_getElem? (i := 755) rfl
theorem mc_X9_when : mh_cd mM_X9_when 3 := ⟨mh_b (List.mem_append_right _ (List.mem_of_getElem? (i := 1) (by decide +kernel))) (by decide +kernel), mh_b (List.mem_append_right _ mt_X9_when) (by decide +kernel), ⟨by decide +kernel, by decide +kernel, by decide +kernel⟩, by decide +kernel⟩
def mM_X9_lid : mh_Mt := (yX9_lid, cX9_lid, 5, (some .long))
set_option maxRecDepth 100000 in
theorem mt_X9_lid : Cond.code mM_X9_lid.1 mM_X9_lid.2.1 mM_X9_lid.2.2.1 mM_X9_lid.2.2.2 ∈ tables_1 := List.mem_of_getElem? (i := 763) rfl
theorem mc_X9_lid : mh_cd mM_X9_lid 4 := ⟨mh_b (List.mem_append_right _ (List.mem_of_getElem? (i := 1) (by decide +kernel))) (by decide +kernel), mh_b (List.mem_append_right _ mt_X9_lid) (by decide +kernel), ⟨by decide +kernel, by decide +kernel, by decide +kernel⟩, by decide +kernel⟩
def mM_X9_seed : mh_Mt := (yX9_seed, cX9_seed, 2, (some .boolean))
set_option maxRecDepth 100000 in
theorem mt_X9_seed : Cond.code mM_X9_seed.1 mM_X9_seed.2.1 mM_X9_seed.2.2.1 mM_X9_seed.2.2.2 ∈ tables_1 := List.mem_of_getElem? (i := 783) rfl
theorem mc_X9_seed : mh_cd mM_X9_seed 1 := ⟨mh_b (List.mem_append_right _ (List.mem_of_getElem? (i := 1) (by decide +kernel))) (by decide +kernel), mh_b (List.mem_append_right _ mt_X9_seed) (by decide +kernel), ⟨by decide +kernel, by decide +kernel, by decide +kernel⟩, by decide +kernel⟩
def mM_X9_draw : mh_Mt := (yX9_draw, cX9_draw, 4, (some .int))
set_option maxRecDepth 100000 in
theorem mt_X9_draw : Cond.code mM_X9_draw.1 mM_X9_draw.2.1 mM_X9_draw.2.2.1 mM_X9_draw.2.2.2 ∈ tables_1 := List.mem_of_getElem? (i := 788) rfl
theorem mc_X9_draw : mh_cd mM_X9_draw 1 := ⟨mh_b (List.mem_append_right _ (List.mem_of_getElem? (i := 1) (by decide +kernel))) (by decide +kernel), mh_b (List.mem_append_right _ mt_X9_draw) (by decide +kernel), ⟨by decide +kernel, by decide +kernel, by decide +kernel⟩, by decide +kernel⟩
def mM_X9_keep : mh_Mt := (yX9_keep, cX9_keep, 1, (some .int))
set_option maxRecDepth 100000 in
theorem mt_X9_keep : Cond.code mM_X9_keep.1 mM_X9_keep.2.1 mM_X9_keep.2.2.1 mM_X9_keep.2.2.2 ∈ tables_1 := List.mem_of_getElem? (i := 797) rfl
theorem mc_X9_keep : mh_cd mM_X9_keep 0 := ⟨mh_b (List.mem_append_right _ (List.mem_of_getElem? (i := 1) (by decide +kernel))) (by decide +kernel), mh_b (List.mem_append_right _ mt_X9_keep) (by decide +kernel), ⟨by decide +kernel, by decide +kernel, by decide +kernel⟩, by decide +kernel⟩
def mM_X9_undo : mh_Mt := (yX9_undo, cX9_undo, 1, (some .boolean))
set_option maxRecDepth 100000 in
theorem mt_X9_undo : Cond.code mM_X9_undo.1 mM_X9_undo.2.1 mM_X9_undo.2.2.1 mM_X9_undo.2.2.2 ∈ tables_1 := List.mem_of_getElem? (i := 801) rfl
theorem mc_X9_undo : mh_cd mM_X9_undo 0 := ⟨mh_b (List.mem_append_right _ (List.mem_of_getElem? (i := 1) (by decide +kernel))) (by decide +kernel), mh_b (List.mem_append_right _ mt_X9_undo) (by decide +kernel), ⟨by decide +kernel, by decide +kernel, by decide +kernel⟩, by decide +kernel⟩
def mM_X9_check : mh_Mt := (yX9_check, cX9_check, 4, (some .int))
set_option maxRecDepth 100000 in
theorem mt_X9_check : Cond.code mM_X9_check.1 mM_X9_check.2.1 mM_X9_check.2.2.1 mM_X9_check.2.2.2 ∈ tables_1 := List.mem_of_getElem? (i := 805) rfl
theorem mc_X9_check : mh_cd mM_X9_check 2 := ⟨mh_b (List.mem_append_right _ (List.mem_of_getElem? (i := 1) (by decide +kernel))) (by decide +kernel), mh_b (List.mem_append_right _ mt_X9_check) (by decide +kernel), ⟨by decide +kernel, by decide +kernel, by decide +kernel⟩, by decide +kernel⟩
def mM_X9_count : mh_Mt := (yX9_count, cX9_count, 2, (some .int))
set_option maxRecDepth 100000 in
theorem mt_X9_count : Cond.code mM_X9_count.1 mM_X9_count.2.1 mM_X9_count.2.2.1 mM_X9_count.2.2.2 ∈ tables_1 := List.mem_of_getElem? (i := 818) rfl
theorem mc_X9_count : mh_cd mM_X9_count 1 := ⟨mh_b (List.mem_append_right _ (List.mem_of_getElem? (i := 1) (by decide +kernel))) (by decide +kernel), mh_b (List.mem_append_right _ mt_X9_count) (by decide +kernel), ⟨by decide +kernel, by decide +kernel, by decide +kernel⟩, by decide +kernel⟩
def mM_X9_isWithin : mh_Mt := (yX9_isWithin, cX9_isWithin, 2, (some .boolean))
set_option maxRecDepth 100000 in
theorem mt_X9_isWithin : Cond.code mM_X9_isWithin.1 mM_X9_isWithin.2.1 mM_X9_isWithin.2.2.1 mM_X9_isWithin.2.2.2 ∈ tables_1 := List.mem_of_getElem? (i := 327) rfl
theorem mc_X9_isWithin : mh_cd mM_X9_isWithin 2 := ⟨mh_b (List.mem_append_right _ (List.mem_of_getElem? (i := 1) (by decide +kernel))) (by decide +kernel), mh_b (List.mem_append_right _ mt_X9_isWithin) (by decide +kernel), ⟨by decide +kernel, by decide +kernel, by decide +kernel⟩, by decide +kernel⟩
def mM_X9_isPlace : mh_Mt := (yX9_isPlace, cX9_isPlace, 2, (some .boolean))
set_option maxRecDepth 100000 in
theorem mt_X9_isPlace : Cond.code mM_X9_isPlace.1 mM_X9_isPlace.2.1 mM_X9_isPlace.2.2.1 mM_X9_isPlace.2.2.2 ∈ tables_1 := List.mem_of_getElem? (i := 324) rfl
theorem mc_X9_isPlace : mh_cd mM_X9_isPlace 2 := ⟨mh_b (List.mem_append_right _ (List.mem_of_getElem? (i := 1) (by decide +kernel))) (by decide +kernel), mh_b (List.mem_append_right _ mt_X9_isPlace) (by decide +kernel), ⟨by decide +kernel, by decide +kernel, by decide +kernel⟩, by decide +kernel⟩
def mM_X9_isNight : mh_Mt := (yX9_isNight, cX9_isNight, 1, (some .boolean))
set_option maxRecDepth 100000 in
theorem mt_X9_isNight : Cond.code mM_X9_isNight.1 mM_X9_isNight.2.1 mM_X9_isNight.2.2.1 mM_X9_isNight.2.2.2 ∈ tables_1 := List.mem_of_getElem? (i := 511) rfl
theorem mc_X9_isNight : mh_cd mM_X9_isNight 1 := ⟨mh_b (List.mem_append_right _ (List.mem_of_getElem? (i := 1) (by decide +kernel))) (by decide +kernel), mh_b (List.mem_append_right _ mt_X9_isNight) (by decide +kernel), ⟨by decide +kernel, by decide +kernel, by decide +kernel⟩, by decide +kernel⟩
def mM_X9_isEvening : mh_Mt := (yX9_isEvening, cX9_isEvening, 3, (some .boolean))
set_option maxRecDepth 100000 in
theorem mt_X9_isEvening : Cond.code mM_X9_isEvening.1 mM_X9_isEvening.2.1 mM_X9_isEvening.2.2.1 mM_X9_isEvening.2.2.2 ∈ tables_1 := List.mem_of_getElem? (i := 699) rfl
theorem mc_X9_isEvening : mh_cd mM_X9_isEvening 3 := ⟨mh_b (List.mem_append_right _ (List.mem_of_getElem? (i := 1) (by decide +kernel))) (by decide +kernel), mh_b (List.mem_append_right _ mt_X9_isEvening) (by decide +kernel), ⟨by decide +kernel, by decide +kernel, by decide +kernel⟩, by decide +kernel⟩
def mM_X9_arePrices : mh_Mt := (yX9_arePrices, cX9_arePrices, 2, (some .boolean))
set_option maxRecDepth 100000 in
theorem mt_X9_arePrices : Cond.code mM_X9_arePrices.1 mM_X9_arePrices.2.1 mM_X9_arePrices.2.2.1 mM_X9_arePrices.2.2.2 ∈ tables_1 := List.mem_of_getElem? (i := 706) rfl
theorem mc_X9_arePrices : mh_cd mM_X9_arePrices 2 := ⟨mh_b (List.mem_append_right _ (List.mem_of_getElem? (i := 1) (by decide +kernel))) (by decide +kernel), mh_b (List.mem_append_right _ mt_X9_arePrices) (by decide +kernel), ⟨by decide +kernel, by decide +kernel, by decide +kernel⟩, by decide +kernel⟩
def mM_X9_orNothing : mh_Mt := (yX9_orNothing, cX9_orNothing, 1, (some .int))
set_option maxRecDepth 100000 in
theorem mt_X9_orNothing : Cond.code mM_X9_orNothing.1 mM_X9_orNothing.2.1 mM_X9_orNothing.2.2.1 mM_X9_orNothing.2.2.2 ∈ tables_1 := List.mem_of_getElem? (i := 585) rfl
theorem mc_X9_orNothing : mh_cd mM_X9_orNothing 1 := ⟨mh_b (List.mem_append_right _ (List.mem_of_getElem? (i := 1) (by decide +kernel))) (by decide +kernel), mh_b (List.mem_append_right _ mt_X9_orNothing) (by decide +kernel), ⟨by decide +kernel, by decide +kernel, by decide +kernel⟩, by decide +kernel⟩
def mM_X9_sumOf : mh_Mt := (yX9_sumOf, cX9_sumOf, 6, (some .int))
set_option maxRecDepth 100000 in
theorem mt_X9_sumOf : Cond.code mM_X9_sumOf.1 mM_X9_sumOf.2.1 mM_X9_sumOf.2.2.1 mM_X9_sumOf.2.2.2 ∈ tables_1 := List.mem_of_getElem? (i := 597) rfl
theorem mc_X9_sumOf : mh_cd mM_X9_sumOf 1 := ⟨mh_b (List.mem_append_right _ (List.mem_of_getElem? (i := 1) (by decide +kernel))) (by decide +kernel), mh_b (List.mem_append_right _ mt_X9_sumOf) (by decide +kernel), ⟨by decide +kernel, by decide +kernel, by decide +kernel⟩, by decide +kernel⟩
def mM_X9_bounded : mh_Mt := (yX9_bounded, cX9_bounded, 2, (some .int))
set_option maxRecDepth 100000 in
theorem mt_X9_bounded : Cond.code mM_X9_bounded.1 mM_X9_bounded.2.1 mM_X9_bounded.2.2.1 mM_X9_bounded.2.2.2 ∈ tables_1 := List.mem_of_getElem? (i := 551) rfl
theorem mc_X9_bounded : mh_cd mM_X9_bounded 2 := ⟨mh_b (List.mem_append_right _ (List.mem_of_getElem? (i := 1) (by decide +kernel))) (by decide +kernel), mh_b (List.mem_append_right _ mt_X9_bounded) (by decide +kernel), ⟨by decide +kernel, by decide +kernel, by decide +kernel⟩, by decide +kernel⟩
def mM_X9_lowestTerm : mh_Mt := (yX9_lowestTerm, cX9_lowestTerm, 12, (some .long))
set_option maxRecDepth 100000 in
theorem mt_X9_lowestTerm : Cond.code mM_X9_lowestTerm.1 mM_X9_lowestTerm.2.1 mM_X9_lowestTerm.2.2.1 mM_X9_lowestTerm.2.2.2 ∈ tables_1 := List.mem_of_getElem? (i := 751) rfl
theorem mc_X9_lowestTerm : mh_cd mM_X9_lowestTerm 3 := ⟨mh_b (List.mem_append_right _ (List.mem_of_getElem? (i := 1) (by decide +kernel))) (by decide +kernel), mh_b (List.mem_append_right _ mt_X9_lowestTerm) (by decide +kernel), ⟨by decide +kernel, by decide +kernel, by decide +kernel⟩, by decide +kernel⟩
def mM_X9_passTrial : mh_Mt := (yX9_passTrial, cX9_passTrial, 4, none)
set_option maxRecDepth 100000 in
theorem mt_X9_passTrial : Cond.code mM_X9_passTrial.1 mM_X9_passTrial.2.1 mM_X9_passTrial.2.2.1 mM_X9_passTrial.2.2.2 ∈ tables_1 := List.mem_of_getElem? (i := 634) rfl
theorem mc_X9_passTrial : mh_cd mM_X9_passTrial 2 := ⟨mh_b (List.mem_append_right _ (List.mem_of_getElem? (i := 1) (by decide +kernel))) (by decide +kernel), mh_b (List.mem_append_right _ mt_X9_passTrial) (by decide +kernel), ⟨by decide +kernel, by decide +kernel, by decide +kernel⟩, by decide +kernel⟩
def mM_X9_heightFreeOf : mh_Mt := (yX9_heightFreeOf, cX9_heightFreeOf, 4, (some .int))
set_option maxRecDepth 100000 in
theorem mt_X9_heightFreeOf : Cond.code mM_X9_heightFreeOf.1 mM_X9_heightFreeOf.2.1 mM_X9_heightFreeOf.2.2.1 mM_X9_heightFreeOf.2.2.2 ∈ tables_1 := List.mem_of_getElem? (i := 626) rfl
theorem mc_X9_heightFreeOf : mh_cd mM_X9_heightFreeOf 1 := ⟨mh_b (List.mem_append_right _ (List.mem_of_getElem? (i := 1) (by decide +kernel))) (by decide +kernel), mh_b (List.mem_append_right _ mt_X9_heightFreeOf) (by decide +kernel), ⟨by decide +kernel, by decide +kernel, by decide +kernel⟩, by decide +kernel⟩
def mM_X9_tellWorks : mh_Mt := (yX9_tellWorks, cX9_tellWorks, 8, (some .int))
set_option maxRecDepth 100000 in
theorem mt_X9_tellWorks : Cond.code mM_X9_tellWorks.1 mM_X9_tellWorks.2.1 mM_X9_tellWorks.2.2.1 mM_X9_tellWorks.2.2.2 ∈ tables_1 := List.mem_of_getElem? (i := 639) rfl
theorem mc_X9_tellWorks : mh_cd mM_X9_tellWorks 1 := ⟨mh_b (List.mem_append_right _ (List.mem_of_getElem? (i := 1) (by decide +kernel))) (by decide +kernel), mh_b (List.mem_append_right _ mt_X9_tellWorks) (by decide +kernel), ⟨by decide +kernel, by decide +kernel, by decide +kernel⟩, by decide +kernel⟩
def mM_X10_lies : mh_Mt := (yX10_lies, cX10_lies, 6, (some .boolean))
set_option maxRecDepth 100000 in
theorem mt_X10_lies : Cond.code mM_X10_lies.1 mM_X10_lies.2.1 mM_X10_lies.2.2.1 mM_X10_lies.2.2.2 ∈ tables_1 := List.mem_of_getElem? (i := 1042) rfl
theorem mc_X10_lies : mh_cd mM_X10_lies 3 := ⟨mh_b (List.mem_append_right _ (List.mem_of_getElem? (i := 12) (by decide +kernel))) (by decide +kernel), mh_b (List.mem_append_right _ mt_X10_lies) (by decide +kernel), ⟨by decide +kernel, by decide +kernel, by decide +kernel⟩, by decide +kernel⟩
def mM_X10_isSide : mh_Mt := (yX10_isSide, cX10_isSide, 1, (some .boolean))
set_option maxRecDepth 100000 in
theorem mt_X10_isSide : Cond.code mM_X10_isSide.1 mM_X10_isSide.2.1 mM_X10_isSide.2.2.1 mM_X10_isSide.2.2.2 ∈ tables_1 := List.mem_of_getElem? (i := 1038) rfl
theorem mc_X10_isSide : mh_cd mM_X10_isSide 1 := ⟨mh_b (List.mem_append_right _ (List.mem_of_getElem? (i := 12) (by decide +kernel))) (by decide +kernel), mh_b (List.mem_append_right _ mt_X10_isSide) (by decide +kernel), ⟨by decide +kernel, by decide +kernel, by decide +kernel⟩, by decide +kernel⟩
def mM_X10_isCell : mh_Mt := (yX10_isCell, cX10_isCell, 2, (some .boolean))
set_option maxRecDepth 100000 in
theorem mt_X10_isCell : Cond.code mM_X10_isCell.1 mM_X10_isCell.2.1 mM_X10_isCell.2.2.1 mM_X10_isCell.2.2.2 ∈ tables_1 := List.mem_of_getElem? (i := 1035) rfl
theorem mc_X10_isCell : mh_cd mM_X10_isCell 2 := ⟨mh_b (List.mem_append_right _ (List.mem_of_getElem? (i := 12) (by decide +kernel))) (by decide +kernel), mh_b (List.mem_append_right _ mt_X10_isCell) (by decide +kernel), ⟨by decide +kernel, by decide +kernel, by decide +kernel⟩, by decide +kernel⟩
def mM_X10_cellAt : mh_Mt := (yX10_cellAt, cX10_cellAt, 2, (some .int))
set_option maxRecDepth 100000 in
theorem mt_X10_cellAt : Cond.code mM_X10_cellAt.1 mM_X10_cellAt.2.1 mM_X10_cellAt.2.2.1 mM_X10_cellAt.2.2.2 ∈ tables_1 := List.mem_of_getElem? (i := 1047) rfl
theorem mc_X10_cellAt : mh_cd mM_X10_cellAt 2 := ⟨mh_b (List.mem_append_right _ (List.mem_of_getElem? (i := 12) (by decide +kernel))) (by decide +kernel), mh_b (List.mem_append_right _ mt_X10_cellAt) (by decide +kernel), ⟨by decide +kernel, by decide +kernel, by decide +kernel⟩, by decide +kernel⟩
def mM_X10_beside : mh_Mt := (yX10_beside, cX10_beside, 2, (some .int))
set_option maxRecDepth 100000 in
theorem mt_X10_beside : Cond.code mM_X10_beside.1 mM_X10_beside.2.1 mM_X10_beside.2.2.1 mM_X10_beside.2.2.2 ∈ tables_1 := List.mem_of_getElem? (i := 1217) rfl
theorem mc_X10_beside : mh_cd mM_X10_beside 2 := ⟨mh_b (List.mem_append_right _ (List.mem_of_getElem? (i := 12) (by decide +kernel))) (by decide +kernel), mh_b (List.mem_append_right _ mt_X10_beside) (by decide +kernel), ⟨by decide +kernel, by decide +kernel, by decide +kernel⟩, by decide +kernel⟩
def mM_X10_treesBeside : mh_Mt := (yX10_treesBeside, cX10_treesBeside, 4, (some .int))
set_option maxRecDepth 100000 in
theorem mt_X10_treesBeside : Cond.code mM_X10_treesBeside.1 mM_X10_treesBeside.2.1 mM_X10_treesBeside.2.2.1 mM_X10_treesBeside.2.2.2 ∈ tables_1 := List.mem_of_getElem? (i := 1214) rfl
theorem mc_X10_treesBeside : mh_cd mM_X10_treesBeside 1 := ⟨mh_b (List.mem_append_right _ (List.mem_of_getElem? (i := 12) (by decide +kernel))) (by decide +kernel), mh_b (List.mem_append_right _ mt_X10_treesBeside) (by decide +kernel), ⟨by decide +kernel, by decide +kernel, by decide +kernel⟩, by decide +kernel⟩
def mM_X10_ground : mh_Mt := (yX10_ground, cX10_ground, 5, (some .boolean))
set_option maxRecDepth 100000 in
theorem mt_X10_ground : Cond.code mM_X10_ground.1 mM_X10_ground.2.1 mM_X10_ground.2.2.1 mM_X10_ground.2.2.2 ∈ tables_1 := List.mem_of_getElem? (i := 1032) rfl
theorem mc_X10_ground : mh_cd mM_X10_ground 4 := ⟨mh_b (List.mem_append_right _ (List.mem_of_getElem? (i := 12) (by decide +kernel))) (by decide +kernel), mh_b (List.mem_append_right _ mt_X10_ground) (by decide +kernel), ⟨by decide +kernel, by decide +kernel, by decide +kernel⟩, by decide +kernel⟩
def mM_X10_air : mh_Mt := (yX10_air, cX10_air, 5, (some .boolean))
set_option maxRecDepth 100000 in
theorem mt_X10_air : Cond.code mM_X10_air.1 mM_X10_air.2.1 mM_X10_air.2.2.1 mM_X10_air.2.2.2 ∈ tables_1 := List.mem_of_getElem? (i := 1051) rfl
theorem mc_X10_air : mh_cd mM_X10_air 4 := ⟨mh_b (List.mem_append_right _ (List.mem_of_getElem? (i := 12) (by decide +kernel))) (by decide +kernel), mh_b (List.mem_append_right _ mt_X10_air) (by decide +kernel), ⟨by decide +kernel, by decide +kernel, by decide +kernel⟩, by decide +kernel⟩
def mM_X10_wind : mh_Mt := (yX10_wind, cX10_wind, 3, (some .boolean))
set_option maxRecDepth 100000 in
theorem mt_X10_wind : Cond.code mM_X10_wind.1 mM_X10_wind.2.1 mM_X10_wind.2.2.1 mM_X10_wind.2.2.2 ∈ tables_1 := List.mem_of_getElem? (i := 1056) rfl
theorem mc_X10_wind : mh_cd mM_X10_wind 2 := ⟨mh_b (List.mem_append_right _ (List.mem_of_getElem? (i := 12) (by decide +kernel))) (by decide +kernel), mh_b (List.mem_append_right _ mt_X10_wind) (by decide +kernel), ⟨by decide +kernel, by decide +kernel, by decide +kernel⟩, by decide +kernel⟩
def mM_X10_push : mh_Mt := (yX10_push, cX10_push, 3, none)
set_option maxRecDepth 100000 in
theorem mt_X10_push : Cond.code mM_X10_push.1 mM_X10_push.2.1 mM_X10_push.2.2.1 mM_X10_push.2.2.2 ∈ tables_1 := List.mem_of_getElem? (i := 1065) rfl
theorem mc_X10_push : mh_cd mM_X10_push 1 := ⟨mh_b (List.mem_append_right _ (List.mem_of_getElem? (i := 12) (by decide +kernel))) (by decide +kernel), mh_b (List.mem_append_right _ mt_X10_push) (by decide +kernel), ⟨by decide +kernel, by decide +kernel, by decide +kernel⟩, by decide +kernel⟩
def mM_X10_feed : mh_Mt := (yX10_feed, cX10_feed, 6, (some .int))
set_option maxRecDepth 100000 in
theorem mt_X10_feed : Cond.code mM_X10_feed.1 mM_X10_feed.2.1 mM_X10_feed.2.2.1 mM_X10_feed.2.2.2 ∈ tables_1 := List.mem_of_getElem? (i := 1061) rfl
theorem mc_X10_feed : mh_cd mM_X10_feed 5 := ⟨mh_b (List.mem_append_right _ (List.mem_of_getElem? (i := 12) (by decide +kernel))) (by decide +kernel), mh_b (List.mem_append_right _ mt_X10_feed) (by decide +kernel), ⟨by decide +kernel, by decide +kernel, by decide +kernel⟩, by decide +kernel⟩
def mM_X10_here : mh_Mt := (yX10_here, cX10_here, 1, (some .int))
set_option maxRecDepth 100000 in
theorem mt_X10_here : Cond.code mM_X10_here.1 mM_X10_here.2.1 mM_X10_here.2.2.1 mM_X10_here.2.2.2 ∈ tables_1 := List.mem_of_getElem? (i := 1082) rfl
theorem mc_X10_here : mh_cd mM_X10_here 0 := ⟨mh_b (List.mem_append_right _ (List.mem_of_getElem? (i := 12) (by decide +kernel))) (by decide +kernel), mh_b (List.mem_append_right _ mt_X10_here) (by decide +kernel), ⟨by decide +kernel, by decide +kernel, by decide +kernel⟩, by decide +kernel⟩
def mM_X10_wrongs : mh_Mt := (yX10_wrongs, cX10_wrongs, 3, none)
set_option maxRecDepth 100000 in
theorem mt_X10_wrongs : Cond.code mM_X10_wrongs.1 mM_X10_wrongs.2.1 mM_X10_wrongs.2.2.1 mM_X10_wrongs.2.2.2 ∈ tables_1 := List.mem_of_getElem? (i := 1089) rfl
theorem mc_X10_wrongs : mh_cd mM_X10_wrongs 2 := ⟨mh_b (List.mem_append_right _ (List.mem_of_getElem? (i := 12) (by decide +kernel))) (by decide +kernel), mh_b (List.mem_append_right _ mt_X10_wrongs) (by decide +kernel), ⟨by decide +kernel, by decide +kernel, by decide +kernel⟩, by decide +kernel⟩
def mM_X10_isGood : mh_Mt := (yX10_isGood, cX10_isGood, 1, (some .boolean))
set_option maxRecDepth 100000 in
theorem mt_X10_isGood : Cond.code mM_X10_isGood.1 mM_X10_isGood.2.1 mM_X10_isGood.2.2.1 mM_X10_isGood.2.2.2 ∈ tables_1 := List.mem_of_getElem? (i := 1074) rfl
theorem mc_X10_isGood : mh_cd mM_X10_isGood 0 := ⟨mh_b (List.mem_append_right _ (List.mem_of_getElem? (i := 12) (by decide +kernel))) (by decide +kernel), mh_b (List.mem_append_right _ mt_X10_isGood) (by decide +kernel), ⟨by decide +kernel, by decide +kernel, by decide +kernel⟩, by decide +kernel⟩
def mM_X10_emit : mh_Mt := (yX10_emit, cX10_emit, 3, none)
set_option maxRecDepth 100000 in
theorem mt_X10_emit : Cond.code mM_X10_emit.1 mM_X10_emit.2.1 mM_X10_emit.2.2.1 mM_X10_emit.2.2.2 ∈ tables_1 := List.mem_of_getElem? (i := 1119) rfl
theorem mc_X10_emit : mh_cd mM_X10_emit 2 := ⟨mh_b (List.mem_append_right _ (List.mem_of_getElem? (i := 12) (by decide +kernel))) (by decide +kernel), mh_b (List.mem_append_right _ mt_X10_emit) (by decide +kernel), ⟨by decide +kernel, by decide +kernel, by decide +kernel⟩, by decide +kernel⟩
def mM_X10_top : mh_Mt := (yX10_top, cX10_top, 1, (some .int))
set_option maxRecDepth 100000 in
theorem mt_X10_top : Cond.code mM_X10_top.1 mM_X10_top.2.1 mM_X10_top.2.2.1 mM_X10_top.2.2.2 ∈ tables_1 := List.mem_of_getElem? (i := 1140) rfl
theorem mc_X10_top : mh_cd mM_X10_top 0 := ⟨mh_b (List.mem_append_right _ (List.mem_of_getElem? (i := 12) (by decide +kernel))) (by decide +kernel), mh_b (List.mem_append_right _ mt_X10_top) (by decide +kernel), ⟨by decide +kernel, by decide +kernel, by decide +kernel⟩, by decide +kernel⟩
def mM_X10_puts : mh_Mt := (yX10_puts, cX10_puts, 2, none)
set_option maxRecDepth 100000 in
theorem mt_X10_puts : Cond.code mM_X10_puts.1 mM_X10_puts.2.1 mM_X10_puts.2.2.1 mM_X10_puts.2.2.2 ∈ tables_1 := List.mem_of_getElem? (i := 1105) rfl
theorem mc_X10_puts : mh_cd mM_X10_puts 1 := ⟨mh_b (List.mem_append_right _ (List.mem_of_getElem? (i := 12) (by decide +kernel))) (by decide +kernel), mh_b (List.mem_append_right _ mt_X10_puts) (by decide +kernel), ⟨by decide +kernel, by decide +kernel, by decide +kernel⟩, by decide +kernel⟩
def mM_X10_opens : mh_Mt := (yX10_opens, cX10_opens, 1, none)
set_option maxRecDepth 100000 in
theorem mt_X10_opens : Cond.code mM_X10_opens.1 mM_X10_opens.2.1 mM_X10_opens.2.2.1 mM_X10_opens.2.2.2 ∈ tables_1 := List.mem_of_getElem? (i := 1101) rfl
theorem mc_X10_opens : mh_cd mM_X10_opens 0 := ⟨mh_b (List.mem_append_right _ (List.mem_of_getElem? (i := 12) (by decide +kernel))) (by decide +kernel), mh_b (List.mem_append_right _ mt_X10_opens) (by decide +kernel), ⟨by decide +kernel, by decide +kernel, by decide +kernel⟩, by decide +kernel⟩
def mM_X10_seesDigit : mh_Mt := (yX10_seesDigit, cX10_seesDigit, 1, (some .boolean))
set_option maxRecDepth 100000 in
theorem mt_X10_seesDigit : Cond.code mM_X10_seesDigit.1 mM_X10_seesDigit.2.1 mM_X10_seesDigit.2.2.1 mM_X10_seesDigit.2.2.2 ∈ tables_1 := List.mem_of_getElem? (i := 1109) rfl
theorem mc_X10_seesDigit : mh_cd mM_X10_seesDigit 0 := ⟨mh_b (List.mem_append_right _ (List.mem_of_getElem? (i := 12) (by decide +kernel))) (by decide +kernel), mh_b (List.mem_append_right _ mt_X10_seesDigit) (by decide +kernel), ⟨by decide +kernel, by decide +kernel, by decide +kernel⟩, by decide +kernel⟩
def mM_X10_reads : mh_Mt := (yX10_reads, cX10_reads, 3, (some .int))
set_option maxRecDepth 100000 in
theorem mt_X10_reads : Cond.code mM_X10_reads.1 mM_X10_reads.2.1 mM_X10_reads.2.2.1 mM_X10_reads.2.2.2 ∈ tables_1 := List.mem_of_getElem? (i := 1115) rfl
theorem mc_X10_reads : mh_cd mM_X10_reads 0 := ⟨mh_b (List.mem_append_right _ (List.mem_of_getElem? (i := 12) (by decide +kernel))) (by decide +kernel), mh_b (List.mem_append_right _ mt_X10_reads) (by decide +kernel), ⟨by decide +kernel, by decide +kernel, by decide +kernel⟩, by decide +kernel⟩
def mM_X10_isTimes : mh_Mt := (yX10_isTimes, cX10_isTimes, 1, (some .boolean))
set_option maxRecDepth 100000 in
theorem mt_X10_isTimes : Cond.code mM_X10_isTimes.1 mM_X10_isTimes.2.1 mM_X10_isTimes.2.2.1 mM_X10_isTimes.2.2.2 ∈ tables_1 := List.mem_of_getElem? (i := 1129) rfl
theorem mc_X10_isTimes : mh_cd mM_X10_isTimes 1 := ⟨mh_b (List.mem_append_right _ (List.mem_of_getElem? (i := 12) (by decide +kernel))) (by decide +kernel), mh_b (List.mem_append_right _ mt_X10_isTimes) (by decide +kernel), ⟨by decide +kernel, by decide +kernel, by decide +kernel⟩, by decide +kernel⟩
def mM_X10_isPlus : mh_Mt := (yX10_isPlus, cX10_isPlus, 1, (some .boolean))
set_option maxRecDepth 100000 in
theorem mt_X10_isPlus : Cond.code mM_X10_isPlus.1 mM_X10_isPlus.2.1 mM_X10_isPlus.2.2.1 mM_X10_isPlus.2.2.2 ∈ tables_1 := List.mem_of_getElem? (i := 1132) rfl
theorem mc_X10_isPlus : mh_cd mM_X10_isPlus 1 := ⟨mh_b (List.mem_append_right _ (List.mem_of_getElem? (i := 12) (by decide +kernel))) (by decide +kernel), mh_b (List.mem_append_right _ mt_X10_isPlus) (by decide +kernel), ⟨by decide +kernel, by decide +kernel, by decide +kernel⟩, by decide +kernel⟩
def mM_X10_isSign : mh_Mt := (yX10_isSign, cX10_isSign, 1, (some .boolean))
set_option maxRecDepth 100000 in
theorem mt_X10_isSign : Cond.code mM_X10_isSign.1 mM_X10_isSign.2.1 mM_X10_isSign.2.2.1 mM_X10_isSign.2.2.2 ∈ tables_1 := List.mem_of_getElem? (i := 1151) rfl
theorem mc_X10_isSign : mh_cd mM_X10_isSign 1 := ⟨mh_b (List.mem_append_right _ (List.mem_of_getElem? (i := 12) (by decide +kernel))) (by decide +kernel), mh_b (List.mem_append_right _ mt_X10_isSign) (by decide +kernel), ⟨by decide +kernel, by decide +kernel, by decide +kernel⟩, by decide +kernel⟩
def mM_X10_isValue : mh_Mt := (yX10_isValue, cX10_isValue, 1, (some .boolean))
set_option maxRecDepth 100000 in
theorem mt_X10_isValue : Cond.code mM_X10_isValue.1 mM_X10_isValue.2.1 mM_X10_isValue.2.2.1 mM_X10_isValue.2.2.2 ∈ tables_1 := List.mem_of_getElem? (i := 1122) rfl
theorem mc_X10_isValue : mh_cd mM_X10_isValue 1 := ⟨mh_b (List.mem_append_right _ (List.mem_of_getElem? (i := 12) (by decide +kernel))) (by decide +kernel), mh_b (List.mem_append_right _ mt_X10_isValue) (by decide +kernel), ⟨by decide +kernel, by decide +kernel, by decide +kernel⟩, by decide +kernel⟩
def mM_X10_folds : mh_Mt := (yX10_folds, cX10_folds, 2, none)
set_option maxRecDepth 100000 in
theorem mt_X10_folds : Cond.code mM_X10_folds.1 mM_X10_folds.2.1 mM_X10_folds.2.2.1 mM_X10_folds.2.2.2 ∈ tables_1 := List.mem_of_getElem? (i := 1136) rfl
theorem mc_X10_folds : mh_cd mM_X10_folds 1 := ⟨mh_b (List.mem_append_right _ (List.mem_of_getElem? (i := 12) (by decide +kernel))) (by decide +kernel), mh_b (List.mem_append_right _ mt_X10_folds) (by decide +kernel), ⟨by decide +kernel, by decide +kernel, by decide +kernel⟩, by decide +kernel⟩
def mM_X10_joins : mh_Mt := (yX10_joins, cX10_joins, 2, none)
set_option maxRecDepth 100000 in
theorem mt_X10_joins : Cond.code mM_X10_joins.1 mM_X10_joins.2.1 mM_X10_joins.2.2.1 mM_X10_joins.2.2.2 ∈ tables_1 := List.mem_of_getElem? (i := 1163) rfl
theorem mc_X10_joins : mh_cd mM_X10_joins 1 := ⟨mh_b (List.mem_append_right _ (List.mem_of_getElem? (i := 12) (by decide +kernel))) (by decide +kernel), mh_b (List.mem_append_right _ mt_X10_joins) (by decide +kernel), ⟨by decide +kernel, by decide +kernel, by decide +kernel⟩, by decide +kernel⟩
def mM_X10_ends : mh_Mt := (yX10_ends, cX10_ends, 1, none)
set_option maxRecDepth 100000 in
theorem mt_X10_ends : Cond.code mM_X10_ends.1 mM_X10_ends.2.1 mM_X10_ends.2.2.1 mM_X10_ends.2.2.2 ∈ tables_1 := List.mem_of_getElem? (i := 1155) rfl
theorem mc_X10_ends : mh_cd mM_X10_ends 0 := ⟨mh_b (List.mem_append_right _ (List.mem_of_getElem? (i := 12) (by decide +kernel))) (by decide +kernel), mh_b (List.mem_append_right _ mt_X10_ends) (by decide +kernel), ⟨by decide +kernel, by decide +kernel, by decide +kernel⟩, by decide +kernel⟩
def mM_X10_factor : mh_Mt := (yX10_factor, cX10_factor, 1, none)
set_option maxRecDepth 100000 in
theorem mt_X10_factor : Cond.code mM_X10_factor.1 mM_X10_factor.2.1 mM_X10_factor.2.2.1 mM_X10_factor.2.2.2 ∈ tables_1 := List.mem_of_getElem? (i := 1097) rfl
theorem mc_X10_factor : mh_cd mM_X10_factor 0 := ⟨mh_b (List.mem_append_right _ (List.mem_of_getElem? (i := 12) (by decide +kernel))) (by decide +kernel), mh_b (List.mem_append_right _ mt_X10_factor) (by decide +kernel), ⟨by decide +kernel, by decide +kernel, by decide +kernel⟩, by decide +kernel⟩
def mM_X10_stays : mh_Mt := (yX10_stays, cX10_stays, 2, (some .boolean))
set_option maxRecDepth 100000 in
theorem mt_X10_stays : Cond.code mM_X10_stays.1 mM_X10_stays.2.1 mM_X10_stays.2.2.1 mM_X10_stays.2.2.2 ∈ tables_1 := List.mem_of_getElem? (i := 1126) rfl
theorem mc_X10_stays : mh_cd mM_X10_stays 0 := ⟨mh_b (List.mem_append_right _ (List.mem_of_getElem? (i := 12) (by decide +kernel))) (by decide +kernel), mh_b (List.mem_append_right _ mt_X10_stays) (by decide +kernel), ⟨by decide +kernel, by decide +kernel, by decide +kernel⟩, by decide +kernel⟩
def mM_X10_value : mh_Mt := (yX10_value, cX10_value, 2, none)
set_option maxRecDepth 100000 in
theorem mt_X10_value : Cond.code mM_X10_value.1 mM_X10_value.2.1 mM_X10_value.2.2.1 mM_X10_value.2.2.2 ∈ tables_1 := List.mem_of_getElem? (i := 1093) rfl
theorem mc_X10_value : mh_cd mM_X10_value 0 := ⟨mh_b (List.mem_append_right _ (List.mem_of_getElem? (i := 12) (by decide +kernel))) (by decide +kernel), mh_b (List.mem_append_right _ mt_X10_value) (by decide +kernel), ⟨by decide +kernel, by decide +kernel, by decide +kernel⟩, by decide +kernel⟩
def mM_X10_pieceOfC : mh_Mt := (yX10_pieceOfC, cX10_pieceOfC, 2, none)
set_option maxRecDepth 100000 in
theorem mt_X10_pieceOfC : Cond.code mM_X10_pieceOfC.1 mM_X10_pieceOfC.2.1 mM_X10_pieceOfC.2.2.1 mM_X10_pieceOfC.2.2.2 ∈ tables_1 := List.mem_of_getElem? (i := 1148) rfl
theorem mc_X10_pieceOfC : mh_cd mM_X10_pieceOfC 0 := ⟨mh_b (List.mem_append_right _ (List.mem_of_getElem? (i := 12) (by decide +kernel))) (by decide +kernel), mh_b (List.mem_append_right _ mt_X10_pieceOfC) (by decide +kernel), ⟨by decide +kernel, by decide +kernel, by decide +kernel⟩, by decide +kernel⟩
def mM_X10_goesBehind : mh_Mt := (yX10_goesBehind, cX10_goesBehind, 2, (some .boolean))
set_option maxRecDepth 100000 in
theorem mt_X10_goesBehind : Cond.code mM_X10_goesBehind.1 mM_X10_goesBehind.2.1 mM_X10_goesBehind.2.2.1 mM_X10_goesBehind.2.2.2 ∈ tables_1 := List.mem_of_getElem? (i := 1159) rfl
theorem mc_X10_goesBehind : mh_cd mM_X10_goesBehind 0 := ⟨mh_b (List.mem_append_right _ (List.mem_of_getElem? (i := 12) (by decide +kernel))) (by decide +kernel), mh_b (List.mem_append_right _ mt_X10_goesBehind) (by decide +kernel), ⟨by decide +kernel, by decide +kernel, by decide +kernel⟩, by decide +kernel⟩
def mM_X10_condition : mh_Mt := (yX10_condition, cX10_condition, 2, none)
set_option maxRecDepth 100000 in
theorem mt_X10_condition : Cond.code mM_X10_condition.1 mM_X10_condition.2.1 mM_X10_condition.2.2.1 mM_X10_condition.2.2.2 ∈ tables_1 := List.mem_of_getElem? (i := 1144) rfl
theorem mc_X10_condition : mh_cd mM_X10_condition 0 := ⟨mh_b (List.mem_append_right _ (List.mem_of_getElem? (i := 12) (by decide +kernel))) (by decide +kernel), mh_b (List.mem_append_right _ mt_X10_condition) (by decide +kernel), ⟨by decide +kernel, by decide +kernel, by decide +kernel⟩, by decide +kernel⟩
def mM_X10_isClause : mh_Mt := (yX10_isClause, cX10_isClause, 1, (some .boolean))
set_option maxRecDepth 100000 in
theorem mt_X10_isClause : Cond.code mM_X10_isClause.1 mM_X10_isClause.2.1 mM_X10_isClause.2.2.1 mM_X10_isClause.2.2.2 ∈ tables_1 := List.mem_of_getElem? (i := 1085) rfl
theorem mc_X10_isClause : mh_cd mM_X10_isClause 1 := ⟨mh_b (List.mem_append_right _ (List.mem_of_getElem? (i := 12) (by decide +kernel))) (by decide +kernel), mh_b (List.mem_append_right _ mt_X10_isClause) (by decide +kernel), ⟨by decide +kernel, by decide +kernel, by decide +kernel⟩, by decide +kernel⟩
def mM_X10_clause : mh_Mt := (yX10_clause, cX10_clause, 2, none)
set_option maxRecDepth 100000 in
theorem mt_X10_clause : Cond.code mM_X10_clause.1 mM_X10_clause.2.1 mM_X10_clause.2.2.1 mM_X10_clause.2.2.2 ∈ tables_1 := List.mem_of_getElem? (i := 1078) rfl
theorem mc_X10_clause : mh_cd mM_X10_clause 0 := ⟨mh_b (List.mem_append_right _ (List.mem_of_getElem? (i := 12) (by decide +kernel))) (by decide +kernel), mh_b (List.mem_append_right _ mt_X10_clause) (by decide +kernel), ⟨by decide +kernel, by decide +kernel, by decide +kernel⟩, by decide +kernel⟩
def mM_X10_law : mh_Mt := (yX10_law, cX10_law, 4, (some .int))
set_option maxRecDepth 100000 in
theorem mt_X10_law : Cond.code mM_X10_law.1 mM_X10_law.2.1 mM_X10_law.2.2.1 mM_X10_law.2.2.2 ∈ tables_1 := List.mem_of_getElem? (i := 1069) rfl
theorem mc_X10_law : mh_cd mM_X10_law 1 := ⟨mh_b (List.mem_append_right _ (List.mem_of_getElem? (i := 12) (by decide +kernel))) (by decide +kernel), mh_b (List.mem_append_right _ mt_X10_law) (by decide +kernel), ⟨by decide +kernel, by decide +kernel, by decide +kernel⟩, by decide +kernel⟩
def mM_X10_windNow : mh_Mt := (yX10_windNow, cX10_windNow, 1, (some .int))
set_option maxRecDepth 100000 in
theorem mt_X10_windNow : Cond.code mM_X10_windNow.1 mM_X10_windNow.2.1 mM_X10_windNow.2.2.1 mM_X10_windNow.2.2.2 ∈ tables_1 := List.mem_of_getElem? (i := 1210) rfl
theorem mc_X10_windNow : mh_cd mM_X10_windNow 0 := ⟨mh_b (List.mem_append_right _ (List.mem_of_getElem? (i := 12) (by decide +kernel))) (by decide +kernel), mh_b (List.mem_append_right _ mt_X10_windNow) (by decide +kernel), ⟨by decide +kernel, by decide +kernel, by decide +kernel⟩, by decide +kernel⟩
def mM_X10_ofCell : mh_Mt := (yX10_ofCell, cX10_ofCell, 2, (some .int))
set_option maxRecDepth 100000 in
theorem mt_X10_ofCell : Cond.code mM_X10_ofCell.1 mM_X10_ofCell.2.1 mM_X10_ofCell.2.2.1 mM_X10_ofCell.2.2.2 ∈ tables_1 := List.mem_of_getElem? (i := 1206) rfl
theorem mc_X10_ofCell : mh_cd mM_X10_ofCell 1 := ⟨mh_b (List.mem_append_right _ (List.mem_of_getElem? (i := 12) (by decide +kernel))) (by decide +kernel), mh_b (List.mem_append_right _ mt_X10_ofCell) (by decide +kernel), ⟨by decide +kernel, by decide +kernel, by decide +kernel⟩, by decide +kernel⟩
def mM_X10_valueOf : mh_Mt := (yX10_valueOf, cX10_valueOf, 2, (some .int))
set_option maxRecDepth 100000 in
theorem mt_X10_valueOf : Cond.code mM_X10_valueOf.1 mM_X10_valueOf.2.1 mM_X10_valueOf.2.2.1 mM_X10_valueOf.2.2.2 ∈ tables_1 := List.mem_of_getElem? (i := 1202) rfl
theorem mc_X10_valueOf : mh_cd mM_X10_valueOf 1 := ⟨mh_b (List.mem_append_right _ (List.mem_of_getElem? (i := 12) (by decide +kernel))) (by decide +kernel), mh_b (List.mem_append_right _ mt_X10_valueOf) (by decide +kernel), ⟨by decide +kernel, by decide +kernel, by decide +kernel⟩, by decide +kernel⟩
def mM_X10_worked : mh_Mt := (yX10_worked, cX10_worked, 3, (some .int))
set_option maxRecDepth 100000 in
theorem mt_X10_worked : Cond.code mM_X10_worked.1 mM_X10_worked.2.1 mM_X10_worked.2.2.1 mM_X10_worked.2.2.2 ∈ tables_1 := List.mem_of_getElem? (i := 1198) rfl
theorem mc_X10_worked : mh_cd mM_X10_worked 3 := ⟨mh_b (List.mem_append_right _ (List.mem_of_getElem? (i := 12) (by decide +kernel))) (by decide +kernel), mh_b (List.mem_append_right _ mt_X10_worked) (by decide +kernel), ⟨by decide +kernel, by decide +kernel, by decide +kernel⟩, by decide +kernel⟩
def mM_X10_does : mh_Mt := (yX10_does, cX10_does, 4, none)
set_option maxRecDepth 100000 in
theorem mt_X10_does : Cond.code mM_X10_does.1 mM_X10_does.2.1 mM_X10_does.2.2.1 mM_X10_does.2.2.2 ∈ tables_1 := List.mem_of_getElem? (i := 1195) rfl
theorem mc_X10_does : mh_cd mM_X10_does 2 := ⟨mh_b (List.mem_append_right _ (List.mem_of_getElem? (i := 12) (by decide +kernel))) (by decide +kernel), mh_b (List.mem_append_right _ mt_X10_does) (by decide +kernel), ⟨by decide +kernel, by decide +kernel, by decide +kernel⟩, by decide +kernel⟩
def mM_X10_goesThrough : mh_Mt := (yX10_goesThrough, cX10_goesThrough, 5, none)
set_option maxRecDepth 100000 in
theorem mt_X10_goesThrough : Cond.code mM_X10_goesThrough.1 mM_X10_goesThrough.2.1 mM_X10_goesThrough.2.2.1 mM_X10_goesThrough.2.2.2 ∈ tables_1 := List.mem_of_getElem? (i := 1191) rfl
theorem mc_X10_goesThrough : mh_cd mM_X10_goesThrough 2 := ⟨mh_b (List.mem_append_right _ (List.mem_of_getElem? (i := 12) (by decide +kernel))) (by decide +kernel), mh_b (List.mem_append_right _ mt_X10_goesThrough) (by decide +kernel), ⟨by decide +kernel, by decide +kernel, by decide +kernel⟩, by decide +kernel⟩
def mM_X10_tellsBy : mh_Mt := (yX10_tellsBy, cX10_tellsBy, 5, (some .int))
set_option maxRecDepth 100000 in
theorem mt_X10_tellsBy : Cond.code mM_X10_tellsBy.1 mM_X10_tellsBy.2.1 mM_X10_tellsBy.2.2.1 mM_X10_tellsBy.2.2.2 ∈ tables_1 := List.mem_of_getElem? (i := 1187) rfl
theorem mc_X10_tellsBy : mh_cd mM_X10_tellsBy 2 := ⟨mh_b (List.mem_append_right _ (List.mem_of_getElem? (i := 12) (by decide +kernel))) (by decide +kernel), mh_b (List.mem_append_right _ mt_X10_tellsBy) (by decide +kernel), ⟨by decide +kernel, by decide +kernel, by decide +kernel⟩, by decide +kernel⟩
def mM_X10_byCell : mh_Mt := (yX10_byCell, cX10_byCell, 5, (some .int))
set_option maxRecDepth 100000 in
theorem mt_X10_byCell : Cond.code mM_X10_byCell.1 mM_X10_byCell.2.1 mM_X10_byCell.2.2.1 mM_X10_byCell.2.2.2 ∈ tables_1 := List.mem_of_getElem? (i := 1183) rfl
theorem mc_X10_byCell : mh_cd mM_X10_byCell 4 := ⟨mh_b (List.mem_append_right _ (List.mem_of_getElem? (i := 12) (by decide +kernel))) (by decide +kernel), mh_b (List.mem_append_right _ mt_X10_byCell) (by decide +kernel), ⟨by decide +kernel, by decide +kernel, by decide +kernel⟩, by decide +kernel⟩
def mM_X10_mistAt : mh_Mt := (yX10_mistAt, cX10_mistAt, 2, (some .int))
set_option maxRecDepth 100000 in
theorem mt_X10_mistAt : Cond.code mM_X10_mistAt.1 mM_X10_mistAt.2.1 mM_X10_mistAt.2.2.1 mM_X10_mistAt.2.2.2 ∈ tables_1 := List.mem_of_getElem? (i := 1240) rfl
theorem mc_X10_mistAt : mh_cd mM_X10_mistAt 1 := ⟨mh_b (List.mem_append_right _ (List.mem_of_getElem? (i := 12) (by decide +kernel))) (by decide +kernel), mh_b (List.mem_append_right _ mt_X10_mistAt) (by decide +kernel), ⟨by decide +kernel, by decide +kernel, by decide +kernel⟩, by decide +kernel⟩
def mM_X10_yardsAt : mh_Mt := (yX10_yardsAt, cX10_yardsAt, 2, (some .int))
set_option maxRecDepth 100000 in
theorem mt_X10_yardsAt : Cond.code mM_X10_yardsAt.1 mM_X10_yardsAt.2.1 mM_X10_yardsAt.2.2.1 mM_X10_yardsAt.2.2.2 ∈ tables_1 := List.mem_of_getElem? (i := 1244) rfl
theorem mc_X10_yardsAt : mh_cd mM_X10_yardsAt 1 := ⟨mh_b (List.mem_append_right _ (List.mem_of_getElem? (i := 12) (by decide +kernel))) (by decide +kernel), mh_b (List.mem_append_right _ mt_X10_yardsAt) (by decide +kernel), ⟨by decide +kernel, by decide +kernel, by decide +kernel⟩, by decide +kernel⟩
def mM_X10_levelAt : mh_Mt := (yX10_levelAt, cX10_levelAt, 2, (some .int))
set_option maxRecDepth 100000 in
theorem mt_X10_levelAt : Cond.code mM_X10_levelAt.1 mM_X10_levelAt.2.1 mM_X10_levelAt.2.2.1 mM_X10_levelAt.2.2.2 ∈ tables_1 := List.mem_of_getElem? (i := 1232) rfl
theorem mc_X10_levelAt : mh_cd mM_X10_levelAt 1 := ⟨mh_b (List.mem_append_right _ (List.mem_of_getElem? (i := 12) (by decide +kernel))) (by decide +kernel), mh_b (List.mem_append_right _ mt_X10_levelAt) (by decide +kernel), ⟨by decide +kernel, by decide +kernel, by decide +kernel⟩, by decide +kernel⟩
def mM_X10_bounded : mh_Mt := (yX10_bounded, cX10_bounded, 1, (some .int))
set_option maxRecDepth 100000 in
theorem mt_X10_bounded : Cond.code mM_X10_bounded.1 mM_X10_bounded.2.1 mM_X10_bounded.2.2.1 mM_X10_bounded.2.2.2 ∈ tables_1 := List.mem_of_getElem? (i := 1220) rfl
theorem mc_X10_bounded : mh_cd mM_X10_bounded 1 := ⟨mh_b (List.mem_append_right _ (List.mem_of_getElem? (i := 12) (by decide +kernel))) (by decide +kernel), mh_b (List.mem_append_right _ mt_X10_bounded) (by decide +kernel), ⟨by decide +kernel, by decide +kernel, by decide +kernel⟩, by decide +kernel⟩
def mM_X10_cools : mh_Mt := (yX10_cools, cX10_cools, 2, none)
set_option maxRecDepth 100000 in
theorem mt_X10_cools : Cond.code mM_X10_cools.1 mM_X10_cools.2.1 mM_X10_cools.2.2.1 mM_X10_cools.2.2.2 ∈ tables_1 := List.mem_of_getElem? (i := 1179) rfl
theorem mc_X10_cools : mh_cd mM_X10_cools 0 := ⟨mh_b (List.mem_append_right _ (List.mem_of_getElem? (i := 12) (by decide +kernel))) (by decide +kernel), mh_b (List.mem_append_right _ mt_X10_cools) (by decide +kernel), ⟨by decide +kernel, by decide +kernel, by decide +kernel⟩, by decide +kernel⟩
def mM_X10_lowestBeside : mh_Mt := (yX10_lowestBeside, cX10_lowestBeside, 5, (some .int))
set_option maxRecDepth 100000 in
theorem mt_X10_lowestBeside : Cond.code mM_X10_lowestBeside.1 mM_X10_lowestBeside.2.1 mM_X10_lowestBeside.2.2.1 mM_X10_lowestBeside.2.2.2 ∈ tables_1 := List.mem_of_getElem? (i := 1228) rfl
theorem mc_X10_lowestBeside : mh_cd mM_X10_lowestBeside 1 := ⟨mh_b (List.mem_append_right _ (List.mem_of_getElem? (i := 12) (by decide +kernel))) (by decide +kernel), mh_b (List.mem_append_right _ mt_X10_lowestBeside) (by decide +kernel), ⟨by decide +kernel, by decide +kernel, by decide +kernel⟩, by decide +kernel⟩
def mM_X10_runsDown : mh_Mt := (yX10_runsDown, cX10_runsDown, 5, none)
set_option maxRecDepth 100000 in
theorem mt_X10_runsDown : Cond.code mM_X10_runsDown.1 mM_X10_runsDown.2.1 mM_X10_runsDown.2.2.1 mM_X10_runsDown.2.2.2 ∈ tables_1 := List.mem_of_getElem? (i := 1224) rfl
theorem mc_X10_runsDown : mh_cd mM_X10_runsDown 0 := ⟨mh_b (List.mem_append_right _ (List.mem_of_getElem? (i := 12) (by decide +kernel))) (by decide +kernel), mh_b (List.mem_append_right _ mt_X10_runsDown) (by decide +kernel), ⟨by decide +kernel, by decide +kernel, by decide +kernel⟩, by decide +kernel⟩
def mM_X10_stepOne : mh_Mt := (yX10_stepOne, cX10_stepOne, 1, none)
set_option maxRecDepth 100000 in
theorem mt_X10_stepOne : Cond.code mM_X10_stepOne.1 mM_X10_stepOne.2.1 mM_X10_stepOne.2.2.1 mM_X10_stepOne.2.2.2 ∈ tables_1 := List.mem_of_getElem? (i := 1175) rfl
theorem mc_X10_stepOne : mh_cd mM_X10_stepOne 0 := ⟨mh_b (List.mem_append_right _ (List.mem_of_getElem? (i := 12) (by decide +kernel))) (by decide +kernel), mh_b (List.mem_append_right _ mt_X10_stepOne) (by decide +kernel), ⟨by decide +kernel, by decide +kernel, by decide +kernel⟩, by decide +kernel⟩
def mM_X10_isNight : mh_Mt := (yX10_isNight, cX10_isNight, 1, (some .boolean))
set_option maxRecDepth 100000 in
theorem mt_X10_isNight : Cond.code mM_X10_isNight.1 mM_X10_isNight.2.1 mM_X10_isNight.2.2.1 mM_X10_isNight.2.2.2 ∈ tables_1 := List.mem_of_getElem? (i := 1170) rfl
theorem mc_X10_isNight : mh_cd mM_X10_isNight 1 := ⟨mh_b (List.mem_append_right _ (List.mem_of_getElem? (i := 12) (by decide +kernel))) (by decide +kernel), mh_b (List.mem_append_right _ mt_X10_isNight) (by decide +kernel), ⟨by decide +kernel, by decide +kernel, by decide +kernel⟩, by decide +kernel⟩
def mM_X10_steps : mh_Mt := (yX10_steps, cX10_steps, 5, (some .int))
set_option maxRecDepth 100000 in
theorem mt_X10_steps : Cond.code mM_X10_steps.1 mM_X10_steps.2.1 mM_X10_steps.2.2.1 mM_X10_steps.2.2.2 ∈ tables_1 := List.mem_of_getElem? (i := 1167) rfl
theorem mc_X10_steps : mh_cd mM_X10_steps 1 := ⟨mh_b (List.mem_append_right _ (List.mem_of_getElem? (i := 12) (by decide +kernel))) (by decide +kernel), mh_b (List.mem_append_right _ mt_X10_steps) (by decide +kernel), ⟨by decide +kernel, by decide +kernel, by decide +kernel⟩, by decide +kernel⟩
def mM_X10_cell : mh_Mt := (yX10_cell, cX10_cell, 5, (some .int))
set_option maxRecDepth 100000 in
theorem mt_X10_cell : Cond.code mM_X10_cell.1 mM_X10_cell.2.1 mM_X10_cell.2.2.1 mM_X10_cell.2.2.2 ∈ tables_1 := List.mem_of_getElem? (i := 1236) rfl
theorem mc_X10_cell : mh_cd mM_X10_cell 3 := ⟨mh_b (List.mem_append_right _ (List.mem_of_getElem? (i := 12) (by decide +kernel))) (by decide +kernel), mh_b (List.mem_append_right _ mt_X10_cell) (by decide +kernel), ⟨by decide +kernel, by decide +kernel, by decide +kernel⟩, by decide +kernel⟩
def mM_X10_misty : mh_Mt := (yX10_misty, cX10_misty, 3, (some .int))
set_option maxRecDepth 100000 in
theorem mt_X10_misty : Cond.code mM_X10_misty.1 mM_X10_misty.2.1 mM_X10_misty.2.2.1 mM_X10_misty.2.2.2 ∈ tables_1 := List.mem_of_getElem? (i := 1252) rfl
theorem mc_X10_misty : mh_cd mM_X10_misty 0 := ⟨mh_b (List.mem_append_right _ (List.mem_of_getElem? (i := 12) (by decide +kernel))) (by decide +kernel), mh_b (List.mem_append_right _ mt_X10_misty) (by decide +kernel), ⟨by decide +kernel, by decide +kernel, by decide +kernel⟩, by decide +kernel⟩
def mM_X10_highestTop : mh_Mt := (yX10_highestTop, cX10_highestTop, 4, (some .int))
set_option maxRecDepth 100000 in
theorem mt_X10_highestTop : Cond.code mM_X10_highestTop.1 mM_X10_highestTop.2.1 mM_X10_highestTop.2.2.1 mM_X10_highestTop.2.2.2 ∈ tables_1 := List.mem_of_getElem? (i := 1256) rfl
theorem mc_X10_highestTop : mh_cd mM_X10_highestTop 0 := ⟨mh_b (List.mem_append_right _ (List.mem_of_getElem? (i := 12) (by decide +kernel))) (by decide +kernel), mh_b (List.mem_append_right _ mt_X10_highestTop) (by decide +kernel), ⟨by decide +kernel, by decide +kernel, by decide +kernel⟩, by decide +kernel⟩
def mM_X10_sums : mh_Mt := (yX10_sums, cX10_sums, 4, (some .int))
set_option maxRecDepth 100000 in
theorem mt_X10_sums : Cond.code mM_X10_sums.1 mM_X10_sums.2.1 mM_X10_sums.2.2.1 mM_X10_sums.2.2.2 ∈ tables_1 := List.mem_of_getElem? (i := 1248) rfl
theorem mc_X10_sums : mh_cd mM_X10_sums 1 := ⟨mh_b (List.mem_append_right _ (List.mem_of_getElem? (i := 12) (by decide +kernel))) (by decide +kernel), mh_b (List.mem_append_right _ mt_X10_sums) (by decide +kernel), ⟨by decide +kernel, by decide +kernel, by decide +kernel⟩, by decide +kernel⟩
def mM_X10_setsAside : mh_Mt := (yX10_setsAside, cX10_setsAside, 3, none)
set_option maxRecDepth 100000 in
theorem mt_X10_setsAside : Cond.code mM_X10_setsAside.1 mM_X10_setsAside.2.1 mM_X10_setsAside.2.2.1 mM_X10_setsAside.2.2.2 ∈ tables_1 := List.mem_of_getElem? (i := 1264) rfl
theorem mc_X10_setsAside : mh_cd mM_X10_setsAside 1 := ⟨mh_b (List.mem_append_right _ (List.mem_of_getElem? (i := 12) (by decide +kernel))) (by decide +kernel), mh_b (List.mem_append_right _ mt_X10_setsAside) (by decide +kernel), ⟨by decide +kernel, by decide +kernel, by decide +kernel⟩, by decide +kernel⟩
def mM_X10_putsBack : mh_Mt := (yX10_putsBack, cX10_putsBack, 3, none)
set_option maxRecDepth 100000 in
theorem mt_X10_putsBack : Cond.code mM_X10_putsBack.1 mM_X10_putsBack.2.1 mM_X10_putsBack.2.2.1 mM_X10_putsBack.2.2.2 ∈ tables_1 := List.mem_of_getElem? (i := 1272) rfl
theorem mc_X10_putsBack : mh_cd mM_X10_putsBack 1 := ⟨mh_b (List.mem_append_right _ (List.mem_of_getElem? (i := 12) (by decide +kernel))) (by decide +kernel), mh_b (List.mem_append_right _ mt_X10_putsBack) (by decide +kernel), ⟨by decide +kernel, by decide +kernel, by decide +kernel⟩, by decide +kernel⟩
def mM_X10_lowestMisty : mh_Mt := (yX10_lowestMisty, cX10_lowestMisty, 2, (some .int))
set_option maxRecDepth 100000 in
theorem mt_X10_lowestMisty : Cond.code mM_X10_lowestMisty.1 mM_X10_lowestMisty.2.1 mM_X10_lowestMisty.2.2.1 mM_X10_lowestMisty.2.2.2 ∈ tables_1 := List.mem_of_getElem? (i := 1268) rfl
theorem mc_X10_lowestMisty : mh_cd mM_X10_lowestMisty 0 := ⟨mh_b (List.mem_append_right _ (List.mem_of_getElem? (i := 12) (by decide +kernel))) (by decide +kernel), mh_b (List.mem_append_right _ mt_X10_lowestMisty) (by decide +kernel), ⟨by decide +kernel, by decide +kernel, by decide +kernel⟩, by decide +kernel⟩
def mM_X10_night : mh_Mt := (yX10_night, cX10_night, 10, (some .int))
set_option maxRecDepth 100000 in
theorem mt_X10_night : Cond.code mM_X10_night.1 mM_X10_night.2.1 mM_X10_night.2.2.1 mM_X10_night.2.2.2 ∈ tables_1 := List.mem_of_getElem? (i := 1260) rfl
theorem mc_X10_night : mh_cd mM_X10_night 2 := ⟨mh_b (List.mem_append_right _ (List.mem_of_getElem? (i := 12) (by decide +kernel))) (by decide +kernel), mh_b (List.mem_append_right _ mt_X10_night) (by decide +kernel), ⟨by decide +kernel, by decide +kernel, by decide +kernel⟩, by decide +kernel⟩
def mM_X10_sun : mh_Mt := (yX10_sun, cX10_sun, 9, (some .int))
set_option maxRecDepth 100000 in
theorem mt_X10_sun : Cond.code mM_X10_sun.1 mM_X10_sun.2.1 mM_X10_sun.2.2.1 mM_X10_sun.2.2.2 ∈ tables_1 := List.mem_of_getElem? (i := 1276) rfl
theorem mc_X10_sun : mh_cd mM_X10_sun 4 := ⟨mh_b (List.mem_append_right _ (List.mem_of_getElem? (i := 12) (by decide +kernel))) (by decide +kernel), mh_b (List.mem_append_right _ mt_X10_sun) (by decide +kernel), ⟨by decide +kernel, by decide +kernel, by decide +kernel⟩, by decide +kernel⟩
def mM_X10_band : mh_Mt := (yX10_band, cX10_band, 6, (some .int))
set_option maxRecDepth 100000 in
theorem mt_X10_band : Cond.code mM_X10_band.1 mM_X10_band.2.1 mM_X10_band.2.2.1 mM_X10_band.2.2.2 ∈ tables_1 := List.mem_of_getElem? (i := 1281) rfl
theorem mc_X10_band : mh_cd mM_X10_band 2 := ⟨mh_b (List.mem_append_right _ (List.mem_of_getElem? (i := 12) (by decide +kernel))) (by decide +kernel), mh_b (List.mem_append_right _ mt_X10_band) (by decide +kernel), ⟨by decide +kernel, by decide +kernel, by decide +kernel⟩, by decide +kernel⟩
def mM_X10_laysNight : mh_Mt := (yX10_laysNight, cX10_laysNight, 4, none)
set_option maxRecDepth 100000 in
theorem mt_X10_laysNight : Cond.code mM_X10_laysNight.1 mM_X10_laysNight.2.1 mM_X10_laysNight.2.2.1 mM_X10_laysNight.2.2.2 ∈ tables_1 := List.mem_of_getElem? (i := 1290) rfl
theorem mc_X10_laysNight : mh_cd mM_X10_laysNight 2 := ⟨mh_b (List.mem_append_right _ (List.mem_of_getElem? (i := 12) (by decide +kernel))) (by decide +kernel), mh_b (List.mem_append_right _ mt_X10_laysNight) (by decide +kernel), ⟨by decide +kernel, by decide +kernel, by decide +kernel⟩, by decide +kernel⟩
def mM_X10_works : mh_Mt := (yX10_works, cX10_works, 11, (some .int))
set_option maxRecDepth 100000 in
theorem mt_X10_works : Cond.code mM_X10_works.1 mM_X10_works.2.1 mM_X10_works.2.2.1 mM_X10_works.2.2.2 ∈ tables_1 := List.mem_of_getElem? (i := 1285) rfl
theorem mc_X10_works : mh_cd mM_X10_works 4 := ⟨mh_b (List.mem_append_right _ (List.mem_of_getElem? (i := 12) (by decide +kernel))) (by decide +kernel), mh_b (List.mem_append_right _ mt_X10_works) (by decide +kernel), ⟨by decide +kernel, by decide +kernel, by decide +kernel⟩, by decide +kernel⟩
def mM_X10_dam : mh_Mt := (yX10_dam, cX10_dam, 8, (some .int))
set_option maxRecDepth 100000 in
theorem mt_X10_dam : Cond.code mM_X10_dam.1 mM_X10_dam.2.1 mM_X10_dam.2.2.1 mM_X10_dam.2.2.2 ∈ tables_1 := List.mem_of_getElem? (i := 1294) rfl
theorem mc_X10_dam : mh_cd mM_X10_dam 3 := ⟨mh_b (List.mem_append_right _ (List.mem_of_getElem? (i := 12) (by decide +kernel))) (by decide +kernel), mh_b (List.mem_append_right _ mt_X10_dam) (by decide +kernel), ⟨by decide +kernel, by decide +kernel, by decide +kernel⟩, by decide +kernel⟩
def mM_X10_isNode : mh_Mt := (yX10_isNode, cX10_isNode, 1, (some .boolean))
set_option maxRecDepth 100000 in
theorem mt_X10_isNode : Cond.code mM_X10_isNode.1 mM_X10_isNode.2.1 mM_X10_isNode.2.2.1 mM_X10_isNode.2.2.2 ∈ tables_1 := List.mem_of_getElem? (i := 1304) rfl
theorem mc_X10_isNode : mh_cd mM_X10_isNode 1 := ⟨mh_b (List.mem_append_right _ (List.mem_of_getElem? (i := 12) (by decide +kernel))) (by decide +kernel), mh_b (List.mem_append_right _ mt_X10_isNode) (by decide +kernel), ⟨by decide +kernel, by decide +kernel, by decide +kernel⟩, by decide +kernel⟩
def mM_X10_road : mh_Mt := (yX10_road, cX10_road, 6, (some .boolean))
set_option maxRecDepth 100000 in
theorem mt_X10_road : Cond.code mM_X10_road.1 mM_X10_road.2.1 mM_X10_road.2.2.1 mM_X10_road.2.2.2 ∈ tables_1 := List.mem_of_getElem? (i := 1300) rfl
theorem mc_X10_road : mh_cd mM_X10_road 5 := ⟨mh_b (List.mem_append_right _ (List.mem_of_getElem? (i := 12) (by decide +kernel))) (by decide +kernel), mh_b (List.mem_append_right _ mt_X10_road) (by decide +kernel), ⟨by decide +kernel, by decide +kernel, by decide +kernel⟩, by decide +kernel⟩
def mM_X10_laysYards : mh_Mt := (yX10_laysYards, cX10_laysYards, 3, none)
set_option maxRecDepth 100000 in
theorem mt_X10_laysYards : Cond.code mM_X10_laysYards.1 mM_X10_laysYards.2.1 mM_X10_laysYards.2.2.1 mM_X10_laysYards.2.2.2 ∈ tables_1 := List.mem_of_getElem? (i := 1313) rfl
theorem mc_X10_laysYards : mh_cd mM_X10_laysYards 0 := ⟨mh_b (List.mem_append_right _ (List.mem_of_getElem? (i := 12) (by decide +kernel))) (by decide +kernel), mh_b (List.mem_append_right _ mt_X10_laysYards) (by decide +kernel), ⟨by decide +kernel, by decide +kernel, by decide +kernel⟩, by decide +kernel⟩
def mM_X10_outOf : mh_Mt := (yX10_outOf, cX10_outOf, 4, (some .int))
set_option maxRecDepth 100000 in
theorem mt_X10_outOf : Cond.code mM_X10_outOf.1 mM_X10_outOf.2.1 mM_X10_outOf.2.2.1 mM_X10_outOf.2.2.2 ∈ tables_1 := List.mem_of_getElem? (i := 1321) rfl
theorem mc_X10_outOf : mh_cd mM_X10_outOf 2 := ⟨mh_b (List.mem_append_right _ (List.mem_of_getElem? (i := 12) (by decide +kernel))) (by decide +kernel), mh_b (List.mem_append_right _ mt_X10_outOf) (by decide +kernel), ⟨by decide +kernel, by decide +kernel, by decide +kernel⟩, by decide +kernel⟩
def mM_X10_arrives : mh_Mt := (yX10_arrives, cX10_arrives, 3, none)
set_option maxRecDepth 100000 in
theorem mt_X10_arrives : Cond.code mM_X10_arrives.1 mM_X10_arrives.2.1 mM_X10_arrives.2.2.1 mM_X10_arrives.2.2.2 ∈ tables_1 := List.mem_of_getElem? (i := 1317) rfl
theorem mc_X10_arrives : mh_cd mM_X10_arrives 2 := ⟨mh_b (List.mem_append_right _ (List.mem_of_getElem? (i := 12) (by decide +kernel))) (by decide +kernel), mh_b (List.mem_append_right _ mt_X10_arrives) (by decide +kernel), ⟨by decide +kernel, by decide +kernel, by decide +kernel⟩, by decide +kernel⟩
def mM_X10_soonest : mh_Mt := (yX10_soonest, cX10_soonest, 8, (some .int))
set_option maxRecDepth 100000 in
theorem mt_X10_soonest : Cond.code mM_X10_soonest.1 mM_X10_soonest.2.1 mM_X10_soonest.2.2.1 mM_X10_soonest.2.2.2 ∈ tables_1 := List.mem_of_getElem? (i := 1308) rfl
theorem mc_X10_soonest : mh_cd mM_X10_soonest 4 := ⟨mh_b (List.mem_append_right _ (List.mem_of_getElem? (i := 12) (by decide +kernel))) (by decide +kernel), mh_b (List.mem_append_right _ mt_X10_soonest) (by decide +kernel), ⟨by decide +kernel, by decide +kernel, by decide +kernel⟩, by decide +kernel⟩
def mM_X10_meet : mh_Mt := (yX10_meet, cX10_meet, 3, (some .boolean))
set_option maxRecDepth 100000 in
theorem mt_X10_meet : Cond.code mM_X10_meet.1 mM_X10_meet.2.1 mM_X10_meet.2.2.1 mM_X10_meet.2.2.2 ∈ tables_1 := List.mem_of_getElem? (i := 1331) rfl
theorem mc_X10_meet : mh_cd mM_X10_meet 2 := ⟨mh_b (List.mem_append_right _ (List.mem_of_getElem? (i := 12) (by decide +kernel))) (by decide +kernel), mh_b (List.mem_append_right _ mt_X10_meet) (by decide +kernel), ⟨by decide +kernel, by decide +kernel, by decide +kernel⟩, by decide +kernel⟩
def mM_X10_edge : mh_Mt := (yX10_edge, cX10_edge, 8, (some .int))
set_option maxRecDepth 100000 in
theorem mt_X10_edge : Cond.code mM_X10_edge.1 mM_X10_edge.2.1 mM_X10_edge.2.2.1 mM_X10_edge.2.2.2 ∈ tables_1 := List.mem_of_getElem? (i := 1326) rfl
theorem mc_X10_edge : mh_cd mM_X10_edge 1 := ⟨mh_b (List.mem_append_right _ (List.mem_of_getElem? (i := 12) (by decide +kernel))) (by decide +kernel), mh_b (List.mem_append_right _ mt_X10_edge) (by decide +kernel), ⟨by decide +kernel, by decide +kernel, by decide +kernel⟩, by decide +kernel⟩
def mM_X10_was : mh_Mt := (yX10_was, cX10_was, 6, (some .int))
set_option maxRecDepth 100000 in
theorem mt_X10_was : Cond.code mM_X10_was.1 mM_X10_was.2.1 mM_X10_was.2.2.1 mM_X10_was.2.2.2 ∈ tables_1 := List.mem_of_getElem? (i := 1335) rfl
theorem mc_X10_was : mh_cd mM_X10_was 5 := ⟨mh_b (List.mem_append_right _ (List.mem_of_getElem? (i := 12) (by decide +kernel))) (by decide +kernel), mh_b (List.mem_append_right _ mt_X10_was) (by decide +kernel), ⟨by decide +kernel, by decide +kernel, by decide +kernel⟩, by decide +kernel⟩
def mM_X10_costOf : mh_Mt := (yX10_costOf, cX10_costOf, 8, (some .int))
set_option maxRecDepth 100000 in
theorem mt_X10_costOf : Cond.code mM_X10_costOf.1 mM_X10_costOf.2.1 mM_X10_costOf.2.2.1 mM_X10_costOf.2.2.2 ∈ tables_1 := List.mem_of_getElem? (i := 1351) rfl
theorem mc_X10_costOf : mh_cd mM_X10_costOf 4 := ⟨mh_b (List.mem_append_right _ (List.mem_of_getElem? (i := 12) (by decide +kernel))) (by decide +kernel), mh_b (List.mem_append_right _ mt_X10_costOf) (by decide +kernel), ⟨by decide +kernel, by decide +kernel, by decide +kernel⟩, by decide +kernel⟩
def mM_X10_bestLine : mh_Mt := (yX10_bestLine, cX10_bestLine, 6, (some .int))
set_option maxRecDepth 100000 in
theorem mt_X10_bestLine : Cond.code mM_X10_bestLine.1 mM_X10_bestLine.2.1 mM_X10_bestLine.2.2.1 mM_X10_bestLine.2.2.2 ∈ tables_1 := List.mem_of_getElem? (i := 1347) rfl
theorem mc_X10_bestLine : mh_cd mM_X10_bestLine 3 := ⟨mh_b (List.mem_append_right _ (List.mem_of_getElem? (i := 12) (by decide +kernel))) (by decide +kernel), mh_b (List.mem_append_right _ mt_X10_bestLine) (by decide +kernel), ⟨by decide +kernel, by decide +kernel, by decide +kernel⟩, by decide +kernel⟩
def mM_X10_isPrice : mh_Mt := (yX10_isPrice, cX10_isPrice, 1, (some .boolean))
set_option maxRecDepth 100000 in
theorem mt_X10_isPrice : Cond.code mM_X10_isPrice.1 mM_X10_isPrice.2.1 mM_X10_isPrice.2.2.1 mM_X10_isPrice.2.2.2 ∈ tables_1 := List.mem_of_getElem? (i := 1343) rfl
theorem mc_X10_isPrice : mh_cd mM_X10_isPrice 1 := ⟨mh_b (List.mem_append_right _ (List.mem_of_getElem? (i := 12) (by decide +kernel))) (by decide +kernel), mh_b (List.mem_append_right _ mt_X10_isPrice) (by decide +kernel), ⟨by decide +kernel, by decide +kernel, by decide +kernel⟩, by decide +kernel⟩
def mM_X10_line : mh_Mt := (yX10_line, cX10_line, 6, (some .int))
set_option maxRecDepth 100000 in
theorem mt_X10_line : Cond.code mM_X10_line.1 mM_X10_line.2.1 mM_X10_line.2.2.1 mM_X10_line.2.2.2 ∈ tables_1 := List.mem_of_getElem? (i := 1340) rfl
theorem mc_X10_line : mh_cd mM_X10_line 4 := ⟨mh_b (List.mem_append_right _ (List.mem_of_getElem? (i := 12) (by decide +kernel))) (by decide +kernel), mh_b (List.mem_append_right _ mt_X10_line) (by decide +kernel), ⟨by decide +kernel, by decide +kernel, by decide +kernel⟩, by decide +kernel⟩
def mM_X10_tells : mh_Mt := (yX10_tells, cX10_tells, 5, (some .int))
set_option maxRecDepth 100000 in
theorem mt_X10_tells : Cond.code mM_X10_tells.1 mM_X10_tells.2.1 mM_X10_tells.2.2.1 mM_X10_tells.2.2.2 ∈ tables_1 := List.mem_of_getElem? (i := 1355) rfl
theorem mc_X10_tells : mh_cd mM_X10_tells 2 := ⟨mh_b (List.mem_append_right _ (List.mem_of_getElem? (i := 12) (by decide +kernel))) (by decide +kernel), mh_b (List.mem_append_right _ mt_X10_tells) (by decide +kernel), ⟨by decide +kernel, by decide +kernel, by decide +kernel⟩, by decide +kernel⟩
def mM_X10_held : mh_Mt := (yX10_held, cX10_held, 6, (some .int))
set_option maxRecDepth 100000 in
theorem mt_X10_held : Cond.code mM_X10_held.1 mM_X10_held.2.1 mM_X10_held.2.2.1 mM_X10_held.2.2.2 ∈ tables_1 := List.mem_of_getElem? (i := 1359) rfl
theorem mc_X10_held : mh_cd mM_X10_held 2 := ⟨mh_b (List.mem_append_right _ (List.mem_of_getElem? (i := 12) (by decide +kernel))) (by decide +kernel), mh_b (List.mem_append_right _ mt_X10_held) (by decide +kernel), ⟨by decide +kernel, by decide +kernel, by decide +kernel⟩, by decide +kernel⟩
def mM_X10_isWithin : mh_Mt := (yX10_isWithin, cX10_isWithin, 3, (some .boolean))
set_option maxRecDepth 100000 in
theorem mt_X10_isWithin : Cond.code mM_X10_isWithin.1 mM_X10_isWithin.2.1 mM_X10_isWithin.2.2.1 mM_X10_isWithin.2.2.2 ∈ tables_1 := List.mem_of_getElem? (i := 1366) rfl
theorem mc_X10_isWithin : mh_cd mM_X10_isWithin 3 := ⟨mh_b (List.mem_append_right _ (List.mem_of_getElem? (i := 12) (by decide +kernel))) (by decide +kernel), mh_b (List.mem_append_right _ mt_X10_isWithin) (by decide +kernel), ⟨by decide +kernel, by decide +kernel, by decide +kernel⟩, by decide +kernel⟩
def mM_X10_divisor : mh_Mt := (yX10_divisor, cX10_divisor, 10, (some .long))
set_option maxRecDepth 100000 in
theorem mt_X10_divisor : Cond.code mM_X10_divisor.1 mM_X10_divisor.2.1 mM_X10_divisor.2.2.1 mM_X10_divisor.2.2.2 ∈ tables_1 := List.mem_of_getElem? (i := 1369) rfl
theorem mc_X10_divisor : mh_cd mM_X10_divisor 2 := ⟨mh_b (List.mem_append_right _ (List.mem_of_getElem? (i := 12) (by decide +kernel))) (by decide +kernel), mh_b (List.mem_append_right _ mt_X10_divisor) (by decide +kernel), ⟨by decide +kernel, by decide +kernel, by decide +kernel⟩, by decide +kernel⟩
def mM_X10_odds : mh_Mt := (yX10_odds, cX10_odds, 10, (some .int))
set_option maxRecDepth 100000 in
theorem mt_X10_odds : Cond.code mM_X10_odds.1 mM_X10_odds.2.1 mM_X10_odds.2.2.1 mM_X10_odds.2.2.2 ∈ tables_1 := List.mem_of_getElem? (i := 1363) rfl
theorem mc_X10_odds : mh_cd mM_X10_odds 5 := ⟨mh_b (List.mem_append_right _ (List.mem_of_getElem? (i := 12) (by decide +kernel))) (by decide +kernel), mh_b (List.mem_append_right _ mt_X10_odds) (by decide +kernel), ⟨by decide +kernel, by decide +kernel, by decide +kernel⟩, by decide +kernel⟩
def mM_X10_costWhen : mh_Mt := (yX10_costWhen, cX10_costWhen, 6, (some .int))
set_option maxRecDepth 100000 in
theorem mt_X10_costWhen : Cond.code mM_X10_costWhen.1 mM_X10_costWhen.2.1 mM_X10_costWhen.2.2.1 mM_X10_costWhen.2.2.2 ∈ tables_1 := List.mem_of_getElem? (i := 1377) rfl
theorem mc_X10_costWhen : mh_cd mM_X10_costWhen 3 := ⟨mh_b (List.mem_append_right _ (List.mem_of_getElem? (i := 12) (by decide +kernel))) (by decide +kernel), mh_b (List.mem_append_right _ mt_X10_costWhen) (by decide +kernel), ⟨by decide +kernel, by decide +kernel, by decide +kernel⟩, by decide +kernel⟩
def mM_X10_when : mh_Mt := (yX10_when, cX10_when, 8, (some .int))
set_option maxRecDepth 100000 in
theorem mt_X10_when : Cond.code mM_X10_when.1 mM_X10_when.2.1 mM_X10_when.2.2.1 mM_X10_when.2.2.2 ∈ tables_1 := List.mem_of_getElem? (i := 1373) rfl
theorem mc_X10_when : mh_cd mM_X10_when 3 := ⟨mh_b (List.mem_append_right _ (List.mem_of_getElem? (i := 12) (by decide +kernel))) (by decide +kernel), mh_b (List.mem_append_right _ mt_X10_when) (by decide +kernel), ⟨by decide +kernel, by decide +kernel, by decide +kernel⟩, by decide +kernel⟩
def mM_X10_lid : mh_Mt := (yX10_lid, cX10_lid, 11, (some .long))
set_option maxRecDepth 100000 in
theorem mt_X10_lid : Cond.code mM_X10_lid.1 mM_X10_lid.2.1 mM_X10_lid.2.2.1 mM_X10_lid.2.2.2 ∈ tables_1 := List.mem_of_getElem? (i := 1381) rfl
theorem mc_X10_lid : mh_cd mM_X10_lid 4 := ⟨mh_b (List.mem_append_right _ (List.mem_of_getElem? (i := 12) (by decide +kernel))) (by decide +kernel), mh_b (List.mem_append_right _ mt_X10_lid) (by decide +kernel), ⟨by decide +kernel, by decide +kernel, by decide +kernel⟩, by decide +kernel⟩
def mM_X10_seed : mh_Mt := (yX10_seed, cX10_seed, 2, (some .boolean))
set_option maxRecDepth 100000 in
theorem mt_X10_seed : Cond.code mM_X10_seed.1 mM_X10_seed.2.1 mM_X10_seed.2.2.1 mM_X10_seed.2.2.2 ∈ tables_1 := List.mem_of_getElem? (i := 1387) rfl
theorem mc_X10_seed : mh_cd mM_X10_seed 1 := ⟨mh_b (List.mem_append_right _ (List.mem_of_getElem? (i := 12) (by decide +kernel))) (by decide +kernel), mh_b (List.mem_append_right _ mt_X10_seed) (by decide +kernel), ⟨by decide +kernel, by decide +kernel, by decide +kernel⟩, by decide +kernel⟩
def mM_X10_draw : mh_Mt := (yX10_draw, cX10_draw, 5, (some .int))
set_option maxRecDepth 100000 in
theorem mt_X10_draw : Cond.code mM_X10_draw.1 mM_X10_draw.2.1 mM_X10_draw.2.2.1 mM_X10_draw.2.2.2 ∈ tables_1 := List.mem_of_getElem? (i := 1392) rfl
theorem mc_X10_draw : mh_cd mM_X10_draw 1 := ⟨mh_b (List.mem_append_right _ (List.mem_of_getElem? (i := 12) (by decide +kernel))) (by decide +kernel), mh_b (List.mem_append_right _ mt_X10_draw) (by decide +kernel), ⟨by decide +kernel, by decide +kernel, by decide +kernel⟩, by decide +kernel⟩
def mM_X10_keep : mh_Mt := (yX10_keep, cX10_keep, 2, (some .int))
set_option maxRecDepth 100000 in
theorem mt_X10_keep : Cond.code mM_X10_keep.1 mM_X10_keep.2.1 mM_X10_keep.2.2.1 mM_X10_keep.2.2.2 ∈ tables_1 := List.mem_of_getElem? (i := 1397) rfl
theorem mc_X10_keep : mh_cd mM_X10_keep 0 := ⟨mh_b (List.mem_append_right _ (List.mem_of_getElem? (i := 12) (by decide +kernel))) (by decide +kernel), mh_b (List.mem_append_right _ mt_X10_keep) (by decide +kernel), ⟨by decide +kernel, by decide +kernel, by decide +kernel⟩, by decide +kernel⟩
def mM_X10_undo : mh_Mt := (yX10_undo, cX10_undo, 2, (some .boolean))
set_option maxRecDepth 100000 in
theorem mt_X10_undo : Cond.code mM_X10_undo.1 mM_X10_undo.2.1 mM_X10_undo.2.2.1 mM_X10_undo.2.2.2 ∈ tables_1 := List.mem_of_getElem? (i := 1401) rfl
theorem mc_X10_undo : mh_cd mM_X10_undo 0 := ⟨mh_b (List.mem_append_right _ (List.mem_of_getElem? (i := 12) (by decide +kernel))) (by decide +kernel), mh_b (List.mem_append_right _ mt_X10_undo) (by decide +kernel), ⟨by decide +kernel, by decide +kernel, by decide +kernel⟩, by decide +kernel⟩
def mM_X10_numberAt : mh_Mt := (yX10_numberAt, cX10_numberAt, 4, (some .int))
set_option maxRecDepth 100000 in
theorem mt_X10_numberAt : Cond.code mM_X10_numberAt.1 mM_X10_numberAt.2.1 mM_X10_numberAt.2.2.1 mM_X10_numberAt.2.2.2 ∈ tables_1 := List.mem_of_getElem? (i := 1409) rfl
theorem mc_X10_numberAt : mh_cd mM_X10_numberAt 1 := ⟨mh_b (List.mem_append_right _ (List.mem_of_getElem? (i := 12) (by decide +kernel))) (by decide +kernel), mh_b (List.mem_append_right _ mt_X10_numberAt) (by decide +kernel), ⟨by decide +kernel, by decide +kernel, by decide +kernel⟩, by decide +kernel⟩
def mM_X10_check : mh_Mt := (yX10_check, cX10_check, 4, (some .int))
set_option maxRecDepth 100000 in
theorem mt_X10_check : Cond.code mM_X10_check.1 mM_X10_check.2.1 mM_X10_check.2.2.1 mM_X10_check.2.2.2 ∈ tables_1 := List.mem_of_getElem? (i := 1405) rfl
theorem mc_X10_check : mh_cd mM_X10_check 2 := ⟨mh_b (List.mem_append_right _ (List.mem_of_getElem? (i := 12) (by decide +kernel))) (by decide +kernel), mh_b (List.mem_append_right _ mt_X10_check) (by decide +kernel), ⟨by decide +kernel, by decide +kernel, by decide +kernel⟩, by decide +kernel⟩
def mM_X10_roadsTold : mh_Mt := (yX10_roadsTold, cX10_roadsTold, 3, (some .int))
set_option maxRecDepth 100000 in
theorem mt_X10_roadsTold : Cond.code mM_X10_roadsTold.1 mM_X10_roadsTold.2.1 mM_X10_roadsTold.2.2.1 mM_X10_roadsTold.2.2.2 ∈ tables_1 := List.mem_of_getElem? (i := 1419) rfl
theorem mc_X10_roadsTold : mh_cd mM_X10_roadsTold 0 := ⟨mh_b (List.mem_append_right _ (List.mem_of_getElem? (i := 12) (by decide +kernel))) (by decide +kernel), mh_b (List.mem_append_right _ mt_X10_roadsTold) (by decide +kernel), ⟨by decide +kernel, by decide +kernel, by decide +kernel⟩, by decide +kernel⟩
def mM_X10_count : mh_Mt := (yX10_count, cX10_count, 2, (some .int))
set_option maxRecDepth 100000 in
theorem mt_X10_count : Cond.code mM_X10_count.1 mM_X10_count.2.1 mM_X10_count.2.2.1 mM_X10_count.2.2.2 ∈ tables_1 := List.mem_of_getElem? (i := 1413) rfl
theorem mc_X10_count : mh_cd mM_X10_count 1 := ⟨mh_b (List.mem_append_right _ (List.mem_of_getElem? (i := 12) (by decide +kernel))) (by decide +kernel), mh_b (List.mem_append_right _ mt_X10_count) (by decide +kernel), ⟨by decide +kernel, by decide +kernel, by decide +kernel⟩, by decide +kernel⟩
def mM_J0_length_8abf5 : mh_Mt := (yJ0_length_8abf5, cJ0_length_8abf5, 1, (some .int))
set_option maxRecDepth 100000 in
theorem mt_J0_length_8abf5 : Cond.code mM_J0_length_8abf5.1 mM_J0_length_8abf5.2.1 mM_J0_length_8abf5.2.2.1 mM_J0_length_8abf5.2.2.2 ∈ tables_1 := List.mem_of_getElem? (i := 206) rfl
theorem mc_J0_length_8abf5 : mh_cd mM_J0_length_8abf5 0 := ⟨mh_b (List.mem_append_right _ (List.mem_of_getElem? (i := 10) (by decide +kernel))) (by decide +kernel), mh_b (List.mem_append_right _ mt_J0_length_8abf5) (by decide +kernel), ⟨by decide +kernel, by decide +kernel, by decide +kernel⟩, by decide +kernel⟩
def mM_J0_indexOf_0f7a4 : mh_Mt := (yJ0_indexOf_0f7a4, cJ0_indexOf_0f7a4, 2, (some .int))
set_option maxRecDepth 100000 in
theorem mt_J0_indexOf_0f7a4 : Cond.code mM_J0_indexOf_0f7a4.1 mM_J0_indexOf_0f7a4.2.1 mM_J0_indexOf_0f7a4.2.2.1 mM_J0_indexOf_0f7a4.2.2.2 ∈ tables_1 := List.mem_of_getElem? (i := 371) rfl
theorem mc_J0_indexOf_0f7a4 : mh_cd mM_J0_indexOf_0f7a4 1 := ⟨mh_b (List.mem_append_right _ (List.mem_of_getElem? (i := 10) (by decide +kernel))) (by decide +kernel), mh_b (List.mem_append_right _ mt_J0_indexOf_0f7a4) (by decide +kernel), ⟨by decide +kernel, by decide +kernel, by decide +kernel⟩, by decide +kernel⟩
def mM_J0_indexOf_7cf53 : mh_Mt := (yJ0_indexOf_7cf53, cJ0_indexOf_7cf53, 3, (some .int))
set_option maxRecDepth 100000 in
theorem mt_J0_indexOf_7cf53 : Cond.code mM_J0_indexOf_7cf53.1 mM_J0_indexOf_7cf53.2.1 mM_J0_indexOf_7cf53.2.2.1 mM_J0_indexOf_7cf53.2.2.2 ∈ tables_1 := List.mem_of_getElem? (i := 375) rfl
theorem mc_J0_indexOf_7cf53 : mh_cd mM_J0_indexOf_7cf53 2 := ⟨mh_b (List.mem_append_right _ (List.mem_of_getElem? (i := 10) (by decide +kernel))) (by decide +kernel), mh_b (List.mem_append_right _ mt_J0_indexOf_7cf53) (by decide +kernel), ⟨by decide +kernel, by decide +kernel, by decide +kernel⟩, by decide +kernel⟩
def mM_J0_coder_7d493 : mh_Mt := (yJ0_coder_7d493, cJ0_coder_7d493, 1, (some .byte))
set_option maxRecDepth 100000 in
theorem mt_J0_coder_7d493 : Cond.code mM_J0_coder_7d493.1 mM_J0_coder_7d493.2.1 mM_J0_coder_7d493.2.2.1 mM_J0_coder_7d493.2.2.2 ∈ tables_1 := List.mem_of_getElem? (i := 210) rfl
theorem mc_J0_coder_7d493 : mh_cd mM_J0_coder_7d493 0 := ⟨mh_b (List.mem_append_right _ (List.mem_of_getElem? (i := 10) (by decide +kernel))) (by decide +kernel), mh_b (List.mem_append_right _ mt_J0_coder_7d493) (by decide +kernel), ⟨by decide +kernel, by decide +kernel, by decide +kernel⟩, by decide +kernel⟩
def mM_J0_isLatin1_aae02 : mh_Mt := (yJ0_isLatin1_aae02, cJ0_isLatin1_aae02, 1, (some .boolean))
set_option maxRecDepth 100000 in
theorem mt_J0_isLatin1_aae02 : Cond.code mM_J0_isLatin1_aae02.1 mM_J0_isLatin1_aae02.2.1 mM_J0_isLatin1_aae02.2.2.1 mM_J0_isLatin1_aae02.2.2.2 ∈ tables_1 := List.mem_of_getElem? (i := 379) rfl
theorem mc_J0_isLatin1_aae02 : mh_cd mM_J0_isLatin1_aae02 0 := ⟨mh_b (List.mem_append_right _ (List.mem_of_getElem? (i := 10) (by decide +kernel))) (by decide +kernel), mh_b (List.mem_append_right _ mt_J0_isLatin1_aae02) (by decide +kernel), ⟨by decide +kernel, by decide +kernel, by decide +kernel⟩, by decide +kernel⟩
def mM_J1_canEncode_9a6ad : mh_Mt := (yJ1_canEncode_9a6ad, cJ1_canEncode_9a6ad, 1, (some .boolean))
set_option maxRecDepth 100000 in
theorem mt_J1_canEncode_9a6ad : Cond.code mM_J1_canEncode_9a6ad.1 mM_J1_canEncode_9a6ad.2.1 mM_J1_canEncode_9a6ad.2.2.1 mM_J1_canEncode_9a6ad.2.2.2 ∈ tables_1 := List.mem_of_getElem? (i := 386) rfl
theorem mc_J1_canEncode_9a6ad : mh_cd mM_J1_canEncode_9a6ad 1 := ⟨mh_b (List.mem_append_right _ (List.mem_of_getElem? (i := 14) (by decide +kernel))) (by decide +kernel), mh_b (List.mem_append_right _ mt_J1_canEncode_9a6ad) (by decide +kernel), ⟨by decide +kernel, by decide +kernel, by decide +kernel⟩, by decide +kernel⟩
def mM_J1_indexOf_4cfef : mh_Mt := (yJ1_indexOf_4cfef, cJ1_indexOf_4cfef, 4, (some .int))
set_option maxRecDepth 100000 in
theorem mt_J1_indexOf_4cfef : Cond.code mM_J1_indexOf_4cfef.1 mM_J1_indexOf_4cfef.2.1 mM_J1_indexOf_4cfef.2.2.1 mM_J1_indexOf_4cfef.2.2.2 ∈ tables_1 := List.mem_of_getElem? (i := 383) rfl
theorem mc_J1_indexOf_4cfef : mh_cd mM_J1_indexOf_4cfef 4 := ⟨mh_b (List.mem_append_right _ (List.mem_of_getElem? (i := 14) (by decide +kernel))) (by decide +kernel), mh_b (List.mem_append_right _ mt_J1_indexOf_4cfef) (by decide +kernel), ⟨by decide +kernel, by decide +kernel, by decide +kernel⟩, by decide +kernel⟩
def mM_J1_indexOfChar_4cfef : mh_Mt := (yJ1_indexOfChar_4cfef, cJ1_indexOfChar_4cfef, 6, (some .int))
set_option maxRecDepth 100000 in
theorem mt_J1_indexOfChar_4cfef : Cond.code mM_J1_indexOfChar_4cfef.1 mM_J1_indexOfChar_4cfef.2.1 mM_J1_indexOfChar_4cfef.2.2.1 mM_J1_indexOfChar_4cfef.2.2.2 ∈ tables_1 := List.mem_of_getElem? (i := 393) rfl
theorem mc_J1_indexOfChar_4cfef : mh_cd mM_J1_indexOfChar_4cfef 4 := ⟨mh_b (List.mem_append_right _ (List.mem_of_getElem? (i := 14) (by decide +kernel))) (by decide +kernel), mh_b (List.mem_append_right _ mt_J1_indexOfChar_4cfef) (by decide +kernel), ⟨by decide +kernel, by decide +kernel, by decide +kernel⟩, by decide +kernel⟩
def mM_J7_fill_d0a16 : mh_Mt := (yJ7_fill_d0a16, cJ7_fill_d0a16, 5, none)
set_option maxRecDepth 100000 in
theorem mt_J7_fill_d0a16 : Cond.code mM_J7_fill_d0a16.1 mM_J7_fill_d0a16.2.1 mM_J7_fill_d0a16.2.2.1 mM_J7_fill_d0a16.2.2.2 ∈ tables_1 := List.mem_of_getElem? (i := 771) rfl
theorem mc_J7_fill_d0a16 : mh_cd mM_J7_fill_d0a16 2 := ⟨mh_b (List.mem_append_right _ (List.mem_of_getElem? (i := 19) (by decide +kernel))) (by decide +kernel), mh_b (List.mem_append_right _ mt_J7_fill_d0a16) (by decide +kernel), ⟨by decide +kernel, by decide +kernel, by decide +kernel⟩, by decide +kernel⟩
def mM_J7_fill_53178 : mh_Mt := (yJ7_fill_53178, cJ7_fill_53178, 4, none)
set_option maxRecDepth 100000 in
theorem mt_J7_fill_53178 : Cond.code mM_J7_fill_53178.1 mM_J7_fill_53178.2.1 mM_J7_fill_53178.2.2.1 mM_J7_fill_53178.2.2.2 ∈ tables_1 := List.mem_of_getElem? (i := 658) rfl
theorem mc_J7_fill_53178 : mh_cd mM_J7_fill_53178 2 := ⟨mh_b (List.mem_append_right _ (List.mem_of_getElem? (i := 19) (by decide +kernel))) (by decide +kernel), mh_b (List.mem_append_right _ mt_J7_fill_53178) (by decide +kernel), ⟨by decide +kernel, by decide +kernel, by decide +kernel⟩, by decide +kernel⟩
theorem mk_X0_pass : mh_iM mM_X0_pass := ⟨mh_b (List.mem_append_right _ (List.mem_of_getElem? (i := 514) (by decide +kernel))) (by decide +kernel), mh_b (List.mem_append_left _ (List.mem_of_getElem? (i := 19) (by decide +kernel))) (by decide +kernel)⟩
theorem mk_X0_comeAndDry : mh_iM mM_X0_comeAndDry := ⟨mh_b (List.mem_append_right _ (List.mem_of_getElem? (i := 518) (by decide +kernel))) (by decide +kernel), mh_b (List.mem_append_left _ (List.mem_of_getElem? (i := 20) (by decide +kernel))) (by decide +kernel)⟩
theorem mk_X0_runDown : mh_iM mM_X0_runDown := ⟨mh_b (List.mem_append_right _ (List.mem_of_getElem? (i := 557) (by decide +kernel))) (by decide +kernel), mh_b (List.mem_append_left _ (List.mem_of_getElem? (i := 26) (by decide +kernel))) (by decide +kernel)⟩
theorem mk_X0_lowestBeside : mh_iM mM_X0_lowestBeside := ⟨mh_b (List.mem_append_right _ (List.mem_of_getElem? (i := 565) (by decide +kernel))) (by decide +kernel), mh_b (List.mem_append_left _ (List.mem_of_getElem? (i := 28) (by decide +kernel))) (by decide +kernel)⟩
theorem mk_X1_clear : mh_iM mM_X1_clear := ⟨mh_b (List.mem_append_right _ (List.mem_of_getElem? (i := 357) (by decide +kernel))) (by decide +kernel), mh_b (List.mem_append_left _ (List.mem_of_getElem? (i := 2) (by decide +kernel))) (by decide +kernel)⟩
theorem mk_X1_put : mh_iM mM_X1_put := ⟨mh_b (List.mem_append_right _ (List.mem_of_getElem? (i := 472) (by decide +kernel))) (by decide +kernel), mh_b (List.mem_append_left _ (List.mem_of_getElem? (i := 11) (by decide +kernel))) (by decide +kernel)⟩
theorem mk_X1_putJump : mh_iM mM_X1_putJump := ⟨mh_b (List.mem_append_right _ (List.mem_of_getElem? (i := 493) (by decide +kernel))) (by decide +kernel), mh_b (List.mem_append_left _ (List.mem_of_getElem? (i := 16) (by decide +kernel))) (by decide +kernel)⟩
theorem mk_X1_land : mh_iM mM_X1_land := ⟨mh_b (List.mem_append_right _ (List.mem_of_getElem? (i := 498) (by decide +kernel))) (by decide +kernel), mh_b (List.mem_append_left _ (List.mem_of_getElem? (i := 17) (by decide +kernel))) (by decide +kernel)⟩
theorem mk_X1_addClause : mh_iM mM_X1_addClause := ⟨mh_b (List.mem_append_right _ (List.mem_of_getElem? (i := 503) (by decide +kernel))) (by decide +kernel), mh_b (List.mem_append_left _ (List.mem_of_getElem? (i := 18) (by decide +kernel))) (by decide +kernel)⟩
theorem mk_X1_see : mh_iM mM_X1_see := ⟨mh_b (List.mem_append_right _ (List.mem_of_getElem? (i := 522) (by decide +kernel))) (by decide +kernel), mh_b (List.mem_append_left _ (List.mem_of_getElem? (i := 21) (by decide +kernel))) (by decide +kernel)⟩
theorem mk_X1_mist : mh_iM mM_X1_mist := ⟨mh_b (List.mem_append_right _ (List.mem_of_getElem? (i := 574) (by decide +kernel))) (by decide +kernel), mh_b (List.mem_append_left _ (List.mem_of_getElem? (i := 29) (by decide +kernel))) (by decide +kernel)⟩
theorem mk_X1_top : mh_iM mM_X1_top := ⟨mh_b (List.mem_append_right _ (List.mem_of_getElem? (i := 580) (by decide +kernel))) (by decide +kernel), mh_b (List.mem_append_left _ (List.mem_of_getElem? (i := 30) (by decide +kernel))) (by decide +kernel)⟩
theorem mk_X1_yards : mh_iM mM_X1_yards := ⟨mh_b (List.mem_append_right _ (List.mem_of_getElem? (i := 588) (by decide +kernel))) (by decide +kernel), mh_b (List.mem_append_left _ (List.mem_of_getElem? (i := 31) (by decide +kernel))) (by decide +kernel)⟩
theorem mk_X1_saysMist : mh_iM mM_X1_saysMist := ⟨mh_b (List.mem_append_right _ (List.mem_of_getElem? (i := 736) (by decide +kernel))) (by decide +kernel), mh_b (List.mem_append_left _ (List.mem_of_getElem? (i := 48) (by decide +kernel))) (by decide +kernel)⟩
theorem mk_X1_worth : mh_iM mM_X1_worth := ⟨mh_b (List.mem_append_right _ (List.mem_of_getElem? (i := 535) (by decide +kernel))) (by decide +kernel), mh_b (List.mem_append_left _ (List.mem_of_getElem? (i := 24) (by decide +kernel))) (by decide +kernel)⟩
theorem mk_X1_most : mh_sM mM_X1_most := mh_b (List.mem_append_right _ (List.mem_of_getElem? (i := 547) (by decide +kernel))) (by decide +kernel)
theorem mk_X1_run : mh_iM mM_X1_run := ⟨mh_b (List.mem_append_right _ (List.mem_of_getElem? (i := 539) (by decide +kernel))) (by decide +kernel), mh_b (List.mem_append_left _ (List.mem_of_getElem? (i := 25) (by decide +kernel))) (by decide +kernel)⟩
theorem mk_X1_combine : mh_sM mM_X1_combine := mh_b (List.mem_append_right _ (List.mem_of_getElem? (i := 544) (by decide +kernel))) (by decide +kernel)
theorem mk_X2_all : mh_iM mM_X2_all := ⟨mh_b (List.mem_append_right _ (List.mem_of_getElem? (i := 778) (by decide +kernel))) (by decide +kernel), mh_b (List.mem_append_left _ (List.mem_of_getElem? (i := 53) (by decide +kernel))) (by decide +kernel)⟩
theorem mk_X2_breaking : mh_iM mM_X2_breaking := ⟨mh_b (List.mem_append_right _ (List.mem_of_getElem? (i := 767) (by decide +kernel))) (by decide +kernel), mh_b (List.mem_append_left _ (List.mem_of_getElem? (i := 51) (by decide +kernel))) (by decide +kernel)⟩
theorem mk_X2_push : mh_iM mM_X2_push := ⟨mh_b (List.mem_append_right _ (List.mem_of_getElem? (i := 774) (by decide +kernel))) (by decide +kernel), mh_b (List.mem_append_left _ (List.mem_of_getElem? (i := 52) (by decide +kernel))) (by decide +kernel)⟩
theorem mk_X3_eveningNumber : mh_iM mM_X3_eveningNumber := ⟨mh_b (List.mem_append_right _ (List.mem_of_getElem? (i := 718) (by decide +kernel))) (by decide +kernel), mh_b (List.mem_append_left _ (List.mem_of_getElem? (i := 46) (by decide +kernel))) (by decide +kernel)⟩
theorem mk_X3_cost : mh_iM mM_X3_cost := ⟨mh_b (List.mem_append_right _ (List.mem_of_getElem? (i := 722) (by decide +kernel))) (by decide +kernel), mh_b (List.mem_append_left _ (List.mem_of_getElem? (i := 47) (by decide +kernel))) (by decide +kernel)⟩
theorem mk_X3_lineCost : mh_iM mM_X3_lineCost := ⟨mh_b (List.mem_append_right _ (List.mem_of_getElem? (i := 714) (by decide +kernel))) (by decide +kernel), mh_b (List.mem_append_left _ (List.mem_of_getElem? (i := 45) (by decide +kernel))) (by decide +kernel)⟩
theorem mk_X3_bestLine : mh_iM mM_X3_bestLine := ⟨mh_b (List.mem_append_right _ (List.mem_of_getElem? (i := 709) (by decide +kernel))) (by decide +kernel), mh_b (List.mem_append_left _ (List.mem_of_getElem? (i := 44) (by decide +kernel))) (by decide +kernel)⟩
theorem mk_X3_isAlike : mh_iM mM_X3_isAlike := ⟨mh_b (List.mem_append_right _ (List.mem_of_getElem? (i := 746) (by decide +kernel))) (by decide +kernel), mh_b (List.mem_append_left _ (List.mem_of_getElem? (i := 49) (by decide +kernel))) (by decide +kernel)⟩
theorem mk_X3_sendCost : mh_iM mM_X3_sendCost := ⟨mh_b (List.mem_append_right _ (List.mem_of_getElem? (i := 758) (by decide +kernel))) (by decide +kernel), mh_b (List.mem_append_left _ (List.mem_of_getElem? (i := 50) (by decide +kernel))) (by decide +kernel)⟩
theorem mk_X4_read : mh_iM mM_X4_read := ⟨mh_b (List.mem_append_right _ (List.mem_of_getElem? (i := 350) (by decide +kernel))) (by decide +kernel), mh_b (List.mem_append_left _ (List.mem_of_getElem? (i := 1) (by decide +kernel))) (by decide +kernel)⟩
theorem mk_X4_sign : mh_iM mM_X4_sign := ⟨mh_b (List.mem_append_right _ (List.mem_of_getElem? (i := 365) (by decide +kernel))) (by decide +kernel), mh_b (List.mem_append_left _ (List.mem_of_getElem? (i := 4) (by decide +kernel))) (by decide +kernel)⟩
theorem mk_X4_fail : mh_iM mM_X4_fail := ⟨mh_b (List.mem_append_right _ (List.mem_of_getElem? (i := 445) (by decide +kernel))) (by decide +kernel), mh_b (List.mem_append_left _ (List.mem_of_getElem? (i := 5) (by decide +kernel))) (by decide +kernel)⟩
theorem mk_X4_take : mh_iM mM_X4_take := ⟨mh_b (List.mem_append_right _ (List.mem_of_getElem? (i := 461) (by decide +kernel))) (by decide +kernel), mh_b (List.mem_append_left _ (List.mem_of_getElem? (i := 9) (by decide +kernel))) (by decide +kernel)⟩
theorem mk_X4_readClause : mh_iM mM_X4_readClause := ⟨mh_b (List.mem_append_right _ (List.mem_of_getElem? (i := 361) (by decide +kernel))) (by decide +kernel), mh_b (List.mem_append_left _ (List.mem_of_getElem? (i := 3) (by decide +kernel))) (by decide +kernel)⟩
theorem mk_X4_readChoice : mh_iM mM_X4_readChoice := ⟨mh_b (List.mem_append_right _ (List.mem_of_getElem? (i := 477) (by decide +kernel))) (by decide +kernel), mh_b (List.mem_append_left _ (List.mem_of_getElem? (i := 12) (by decide +kernel))) (by decide +kernel)⟩
theorem mk_X4_readPart : mh_iM mM_X4_readPart := ⟨mh_b (List.mem_append_right _ (List.mem_of_getElem? (i := 481) (by decide +kernel))) (by decide +kernel), mh_b (List.mem_append_left _ (List.mem_of_getElem? (i := 13) (by decide +kernel))) (by decide +kernel)⟩
theorem mk_X4_readPiece : mh_iM mM_X4_readPiece := ⟨mh_b (List.mem_append_right _ (List.mem_of_getElem? (i := 485) (by decide +kernel))) (by decide +kernel), mh_b (List.mem_append_left _ (List.mem_of_getElem? (i := 14) (by decide +kernel))) (by decide +kernel)⟩
theorem mk_X4_readCompared : mh_iM mM_X4_readCompared := ⟨mh_b (List.mem_append_right _ (List.mem_of_getElem? (i := 489) (by decide +kernel))) (by decide +kernel), mh_b (List.mem_append_left _ (List.mem_of_getElem? (i := 15) (by decide +kernel))) (by decide +kernel)⟩
theorem mk_X4_readSum : mh_iM mM_X4_readSum := ⟨mh_b (List.mem_append_right _ (List.mem_of_getElem? (i := 449) (by decide +kernel))) (by decide +kernel), mh_b (List.mem_append_left _ (List.mem_of_getElem? (i := 6) (by decide +kernel))) (by decide +kernel)⟩
theorem mk_X4_readTerm : mh_iM mM_X4_readTerm := ⟨mh_b (List.mem_append_right _ (List.mem_of_getElem? (i := 453) (by decide +kernel))) (by decide +kernel), mh_b (List.mem_append_left _ (List.mem_of_getElem? (i := 7) (by decide +kernel))) (by decide +kernel)⟩
theorem mk_X4_readFactor : mh_iM mM_X4_readFactor := ⟨mh_b (List.mem_append_right _ (List.mem_of_getElem? (i := 457) (by decide +kernel))) (by decide +kernel), mh_b (List.mem_append_left _ (List.mem_of_getElem? (i := 8) (by decide +kernel))) (by decide +kernel)⟩
theorem mk_X4_readNumber : mh_iM mM_X4_readNumber := ⟨mh_b (List.mem_append_right _ (List.mem_of_getElem? (i := 468) (by decide +kernel))) (by decide +kernel), mh_b (List.mem_append_left _ (List.mem_of_getElem? (i := 10) (by decide +kernel))) (by decide +kernel)⟩
theorem mk_X4_isDigit : mh_sM mM_X4_isDigit := mh_b (List.mem_append_right _ (List.mem_of_getElem? (i := 464) (by decide +kernel))) (by decide +kernel)
theorem mk_X5_isTold : mh_iM mM_X5_isTold := ⟨mh_b (List.mem_append_right _ (List.mem_of_getElem? (i := 665) (by decide +kernel))) (by decide +kernel), mh_b (List.mem_append_left _ (List.mem_of_getElem? (i := 39) (by decide +kernel))) (by decide +kernel)⟩
theorem mk_X5_meet : mh_iM mM_X5_meet := ⟨mh_b (List.mem_append_right _ (List.mem_of_getElem? (i := 688) (by decide +kernel))) (by decide +kernel), mh_b (List.mem_append_left _ (List.mem_of_getElem? (i := 43) (by decide +kernel))) (by decide +kernel)⟩
theorem mk_X5_look : mh_iM mM_X5_look := ⟨mh_b (List.mem_append_right _ (List.mem_of_getElem? (i := 661) (by decide +kernel))) (by decide +kernel), mh_b (List.mem_append_left _ (List.mem_of_getElem? (i := 38) (by decide +kernel))) (by decide +kernel)⟩
theorem mk_X5_leave : mh_iM mM_X5_leave := ⟨mh_b (List.mem_append_right _ (List.mem_of_getElem? (i := 654) (by decide +kernel))) (by decide +kernel), mh_b (List.mem_append_left _ (List.mem_of_getElem? (i := 37) (by decide +kernel))) (by decide +kernel)⟩
theorem mk_X5_isAt : mh_iM mM_X5_isAt := ⟨mh_b (List.mem_append_right _ (List.mem_of_getElem? (i := 675) (by decide +kernel))) (by decide +kernel), mh_b (List.mem_append_left _ (List.mem_of_getElem? (i := 41) (by decide +kernel))) (by decide +kernel)⟩
theorem mk_X5_go : mh_iM mM_X5_go := ⟨mh_b (List.mem_append_right _ (List.mem_of_getElem? (i := 670) (by decide +kernel))) (by decide +kernel), mh_b (List.mem_append_left _ (List.mem_of_getElem? (i := 40) (by decide +kernel))) (by decide +kernel)⟩
theorem mk_X5_goIn : mh_iM mM_X5_goIn := ⟨mh_b (List.mem_append_right _ (List.mem_of_getElem? (i := 679) (by decide +kernel))) (by decide +kernel), mh_b (List.mem_append_left _ (List.mem_of_getElem? (i := 42) (by decide +kernel))) (by decide +kernel)⟩
theorem mk_X6_look : mh_iM mM_X6_look := ⟨mh_b (List.mem_append_right _ (List.mem_of_getElem? (i := 600) (by decide +kernel))) (by decide +kernel), mh_b (List.mem_append_left _ (List.mem_of_getElem? (i := 32) (by decide +kernel))) (by decide +kernel)⟩
theorem mk_X7_put : mh_iM mM_X7_put := ⟨mh_b (List.mem_append_right _ (List.mem_of_getElem? (i := 342) (by decide +kernel))) (by decide +kernel), mh_b (List.mem_append_left _ (List.mem_of_getElem? (i := 0) (by decide +kernel))) (by decide +kernel)⟩
theorem mk_X7_sign : mh_iM mM_X7_sign := ⟨mh_b (List.mem_append_right _ (List.mem_of_getElem? (i := 812) (by decide +kernel))) (by decide +kernel), mh_b (List.mem_append_left _ (List.mem_of_getElem? (i := 56) (by decide +kernel))) (by decide +kernel)⟩
theorem mk_X7_number : mh_iM mM_X7_number := ⟨mh_b (List.mem_append_right _ (List.mem_of_getElem? (i := 808) (by decide +kernel))) (by decide +kernel), mh_b (List.mem_append_left _ (List.mem_of_getElem? (i := 55) (by decide +kernel))) (by decide +kernel)⟩
theorem mk_X8_copyFrom : mh_iM mM_X8_copyFrom := ⟨mh_b (List.mem_append_right _ (List.mem_of_getElem? (i := 610) (by decide +kernel))) (by decide +kernel), mh_b (List.mem_append_left _ (List.mem_of_getElem? (i := 33) (by decide +kernel))) (by decide +kernel)⟩
theorem mk_X8_windOf : mh_iM mM_X8_windOf := ⟨mh_b (List.mem_append_right _ (List.mem_of_getElem? (i := 526) (by decide +kernel))) (by decide +kernel), mh_b (List.mem_append_left _ (List.mem_of_getElem? (i := 22) (by decide +kernel))) (by decide +kernel)⟩
theorem mk_X8_drawWind : mh_iM mM_X8_drawWind := ⟨mh_b (List.mem_append_right _ (List.mem_of_getElem? (i := 791) (by decide +kernel))) (by decide +kernel), mh_b (List.mem_append_left _ (List.mem_of_getElem? (i := 54) (by decide +kernel))) (by decide +kernel)⟩
theorem mk_X8_level : mh_iM mM_X8_level := ⟨mh_b (List.mem_append_right _ (List.mem_of_getElem? (i := 561) (by decide +kernel))) (by decide +kernel), mh_b (List.mem_append_left _ (List.mem_of_getElem? (i := 27) (by decide +kernel))) (by decide +kernel)⟩
theorem mk_X8_treesBeside : mh_iM mM_X8_treesBeside := ⟨mh_b (List.mem_append_right _ (List.mem_of_getElem? (i := 531) (by decide +kernel))) (by decide +kernel), mh_b (List.mem_append_left _ (List.mem_of_getElem? (i := 23) (by decide +kernel))) (by decide +kernel)⟩
theorem mk_X9_ground : mh_iM mM_X9_ground := ⟨mh_b (List.mem_append_right _ (List.mem_of_getElem? (i := 319) (by decide +kernel))) (by decide +kernel), mh_b (List.mem_append_right _ (List.mem_of_getElem? (i := 320) (by decide +kernel))) (by decide +kernel)⟩
theorem mk_X9_air : mh_iM mM_X9_air := ⟨mh_b (List.mem_append_right _ (List.mem_of_getElem? (i := 329) (by decide +kernel))) (by decide +kernel), mh_b (List.mem_append_right _ (List.mem_of_getElem? (i := 330) (by decide +kernel))) (by decide +kernel)⟩
theorem mk_X9_wind : mh_iM mM_X9_wind := ⟨mh_b (List.mem_append_right _ (List.mem_of_getElem? (i := 333) (by decide +kernel))) (by decide +kernel), mh_b (List.mem_append_right _ (List.mem_of_getElem? (i := 334) (by decide +kernel))) (by decide +kernel)⟩
theorem mk_X9_feed : mh_iM mM_X9_feed := ⟨mh_b (List.mem_append_right _ (List.mem_of_getElem? (i := 337) (by decide +kernel))) (by decide +kernel), mh_b (List.mem_append_right _ (List.mem_of_getElem? (i := 338) (by decide +kernel))) (by decide +kernel)⟩
theorem mk_X9_law : mh_iM mM_X9_law := ⟨mh_b (List.mem_append_right _ (List.mem_of_getElem? (i := 345) (by decide +kernel))) (by decide +kernel), mh_b (List.mem_append_right _ (List.mem_of_getElem? (i := 346) (by decide +kernel))) (by decide +kernel)⟩
theorem mk_X9_steps : mh_iM mM_X9_steps := ⟨mh_b (List.mem_append_right _ (List.mem_of_getElem? (i := 506) (by decide +kernel))) (by decide +kernel), mh_b (List.mem_append_right _ (List.mem_of_getElem? (i := 507) (by decide +kernel))) (by decide +kernel)⟩
theorem mk_X9_cell : mh_iM mM_X9_cell := ⟨mh_b (List.mem_append_right _ (List.mem_of_getElem? (i := 569) (by decide +kernel))) (by decide +kernel), mh_b (List.mem_append_right _ (List.mem_of_getElem? (i := 570) (by decide +kernel))) (by decide +kernel)⟩
theorem mk_X9_sums : mh_iM mM_X9_sums := ⟨mh_b (List.mem_append_right _ (List.mem_of_getElem? (i := 592) (by decide +kernel))) (by decide +kernel), mh_b (List.mem_append_right _ (List.mem_of_getElem? (i := 593) (by decide +kernel))) (by decide +kernel)⟩
theorem mk_X9_night : mh_iM mM_X9_night := ⟨mh_b (List.mem_append_right _ (List.mem_of_getElem? (i := 605) (by decide +kernel))) (by decide +kernel), mh_b (List.mem_append_right _ (List.mem_of_getElem? (i := 606) (by decide +kernel))) (by decide +kernel)⟩
theorem mk_X9_sun : mh_iM mM_X9_sun := ⟨mh_b (List.mem_append_right _ (List.mem_of_getElem? (i := 616) (by decide +kernel))) (by decide +kernel), mh_b (List.mem_append_right _ (List.mem_of_getElem? (i := 617) (by decide +kernel))) (by decide +kernel)⟩
theorem mk_X9_band : mh_iM mM_X9_band := ⟨mh_b (List.mem_append_right _ (List.mem_of_getElem? (i := 620) (by decide +kernel))) (by decide +kernel), mh_b (List.mem_append_right _ (List.mem_of_getElem? (i := 621) (by decide +kernel))) (by decide +kernel)⟩
theorem mk_X9_works : mh_iM mM_X9_works := ⟨mh_b (List.mem_append_right _ (List.mem_of_getElem? (i := 628) (by decide +kernel))) (by decide +kernel), mh_b (List.mem_append_right _ (List.mem_of_getElem? (i := 629) (by decide +kernel))) (by decide +kernel)⟩
theorem mk_X9_dam : mh_iM mM_X9_dam := ⟨mh_b (List.mem_append_right _ (List.mem_of_getElem? (i := 641) (by decide +kernel))) (by decide +kernel), mh_b (List.mem_append_right _ (List.mem_of_getElem? (i := 642) (by decide +kernel))) (by decide +kernel)⟩
theorem mk_X9_road : mh_iM mM_X9_road := ⟨mh_b (List.mem_append_right _ (List.mem_of_getElem? (i := 645) (by decide +kernel))) (by decide +kernel), mh_b (List.mem_append_right _ (List.mem_of_getElem? (i := 646) (by decide +kernel))) (by decide +kernel)⟩
theorem mk_X9_soonest : mh_iM mM_X9_soonest := ⟨mh_b (List.mem_append_right _ (List.mem_of_getElem? (i := 649) (by decide +kernel))) (by decide +kernel), mh_b (List.mem_append_right _ (List.mem_of_getElem? (i := 650) (by decide +kernel))) (by decide +kernel)⟩
theorem mk_X9_edge : mh_iM mM_X9_edge := ⟨mh_b (List.mem_append_right _ (List.mem_of_getElem? (i := 683) (by decide +kernel))) (by decide +kernel), mh_b (List.mem_append_right _ (List.mem_of_getElem? (i := 684) (by decide +kernel))) (by decide +kernel)⟩
theorem mk_X9_was : mh_iM mM_X9_was := ⟨mh_b (List.mem_append_right _ (List.mem_of_getElem? (i := 694) (by decide +kernel))) (by decide +kernel), mh_b (List.mem_append_right _ (List.mem_of_getElem? (i := 695) (by decide +kernel))) (by decide +kernel)⟩
theorem mk_X9_line : mh_iM mM_X9_line := ⟨mh_b (List.mem_append_right _ (List.mem_of_getElem? (i := 701) (by decide +kernel))) (by decide +kernel), mh_b (List.mem_append_right _ (List.mem_of_getElem? (i := 702) (by decide +kernel))) (by decide +kernel)⟩
theorem mk_X9_tells : mh_iM mM_X9_tells := ⟨mh_b (List.mem_append_right _ (List.mem_of_getElem? (i := 726) (by decide +kernel))) (by decide +kernel), mh_b (List.mem_append_right _ (List.mem_of_getElem? (i := 727) (by decide +kernel))) (by decide +kernel)⟩
theorem mk_X9_held : mh_iM mM_X9_held := ⟨mh_b (List.mem_append_right _ (List.mem_of_getElem? (i := 731) (by decide +kernel))) (by decide +kernel), mh_b (List.mem_append_right _ (List.mem_of_getElem? (i := 732) (by decide +kernel))) (by decide +kernel)⟩
theorem mk_X9_odds : mh_iM mM_X9_odds := ⟨mh_b (List.mem_append_right _ (List.mem_of_getElem? (i := 741) (by decide +kernel))) (by decide +kernel), mh_b (List.mem_append_right _ (List.mem_of_getElem? (i := 742) (by decide +kernel))) (by decide +kernel)⟩
theorem mk_X9_when : mh_iM mM_X9_when := ⟨mh_b (List.mem_append_right _ (List.mem_of_getElem? (i := 753) (by decide +kernel))) (by decide +kernel), mh_b (List.mem_append_right _ (List.mem_of_getElem? (i := 754) (by decide +kernel))) (by decide +kernel)⟩
theorem mk_X9_lid : mh_iM mM_X9_lid := ⟨mh_b (List.mem_append_right _ (List.mem_of_getElem? (i := 761) (by decide +kernel))) (by decide +kernel), mh_b (List.mem_append_right _ (List.mem_of_getElem? (i := 762) (by decide +kernel))) (by decide +kernel)⟩
theorem mk_X9_seed : mh_iM mM_X9_seed := ⟨mh_b (List.mem_append_right _ (List.mem_of_getElem? (i := 781) (by decide +kernel))) (by decide +kernel), mh_b (List.mem_append_right _ (List.mem_of_getElem? (i := 782) (by decide +kernel))) (by decide +kernel)⟩
theorem mk_X9_draw : mh_iM mM_X9_draw := ⟨mh_b (List.mem_append_right _ (List.mem_of_getElem? (i := 786) (by decide +kernel))) (by decide +kernel), mh_b (List.mem_append_right _ (List.mem_of_getElem? (i := 787) (by decide +kernel))) (by decide +kernel)⟩
theorem mk_X9_keep : mh_iM mM_X9_keep := ⟨mh_b (List.mem_append_right _ (List.mem_of_getElem? (i := 795) (by decide +kernel))) (by decide +kernel), mh_b (List.mem_append_right _ (List.mem_of_getElem? (i := 796) (by decide +kernel))) (by decide +kernel)⟩
theorem mk_X9_undo : mh_iM mM_X9_undo := ⟨mh_b (List.mem_append_right _ (List.mem_of_getElem? (i := 799) (by decide +kernel))) (by decide +kernel), mh_b (List.mem_append_right _ (List.mem_of_getElem? (i := 800) (by decide +kernel))) (by decide +kernel)⟩
theorem mk_X9_check : mh_iM mM_X9_check := ⟨mh_b (List.mem_append_right _ (List.mem_of_getElem? (i := 803) (by decide +kernel))) (by decide +kernel), mh_b (List.mem_append_right _ (List.mem_of_getElem? (i := 804) (by decide +kernel))) (by decide +kernel)⟩
theorem mk_X9_count : mh_iM mM_X9_count := ⟨mh_b (List.mem_append_right _ (List.mem_of_getElem? (i := 816) (by decide +kernel))) (by decide +kernel), mh_b (List.mem_append_right _ (List.mem_of_getElem? (i := 817) (by decide +kernel))) (by decide +kernel)⟩
theorem mk_X9_isWithin : mh_sM mM_X9_isWithin := mh_b (List.mem_append_right _ (List.mem_of_getElem? (i := 326) (by decide +kernel))) (by decide +kernel)
theorem mk_X9_isPlace : mh_sM mM_X9_isPlace := mh_b (List.mem_append_right _ (List.mem_of_getElem? (i := 323) (by decide +kernel))) (by decide +kernel)
theorem mk_X9_isNight : mh_sM mM_X9_isNight := mh_b (List.mem_append_right _ (List.mem_of_getElem? (i := 510) (by decide +kernel))) (by decide +kernel)
theorem mk_X9_isEvening : mh_sM mM_X9_isEvening := mh_b (List.mem_append_right _ (List.mem_of_getElem? (i := 698) (by decide +kernel))) (by decide +kernel)
theorem mk_X9_arePrices : mh_sM mM_X9_arePrices := mh_b (List.mem_append_right _ (List.mem_of_getElem? (i := 705) (by decide +kernel))) (by decide +kernel)
theorem mk_X9_orNothing : mh_sM mM_X9_orNothing := mh_b (List.mem_append_right _ (List.mem_of_getElem? (i := 584) (by decide +kernel))) (by decide +kernel)
theorem mk_X9_sumOf : mh_sM mM_X9_sumOf := mh_b (List.mem_append_right _ (List.mem_of_getElem? (i := 596) (by decide +kernel))) (by decide +kernel)
theorem mk_X9_bounded : mh_sM mM_X9_bounded := mh_b (List.mem_append_right _ (List.mem_of_getElem? (i := 550) (by decide +kernel))) (by decide +kernel)
theorem mk_X9_lowestTerm : mh_sM mM_X9_lowestTerm := mh_b (List.mem_append_right _ (List.mem_of_getElem? (i := 750) (by decide +kernel))) (by decide +kernel)
theorem mk_X9_passTrial : mh_iM mM_X9_passTrial := ⟨mh_b (List.mem_append_right _ (List.mem_of_getElem? (i := 633) (by decide +kernel))) (by decide +kernel), mh_b (List.mem_append_left _ (List.mem_of_getElem? (i := 35) (by decide +kernel))) (by decide +kernel)⟩
theorem mk_X9_heightFreeOf : mh_iM mM_X9_heightFreeOf := ⟨mh_b (List.mem_append_right _ (List.mem_of_getElem? (i := 625) (by decide +kernel))) (by decide +kernel), mh_b (List.mem_append_left _ (List.mem_of_getElem? (i := 34) (by decide +kernel))) (by decide +kernel)⟩
theorem mk_X9_tellWorks : mh_iM mM_X9_tellWorks := ⟨mh_b (List.mem_append_right _ (List.mem_of_getElem? (i := 638) (by decide +kernel))) (by decide +kernel), mh_b (List.mem_append_left _ (List.mem_of_getElem? (i := 36) (by decide +kernel))) (by decide +kernel)⟩
theorem mk_X10_lies : mh_sM mM_X10_lies := mh_b (List.mem_append_right _ (List.mem_of_getElem? (i := 1041) (by decide +kernel))) (by decide +kernel)
theorem mk_X10_isSide : mh_sM mM_X10_isSide := mh_b (List.mem_append_right _ (List.mem_of_getElem? (i := 1037) (by decide +kernel))) (by decide +kernel)
theorem mk_X10_isCell : mh_sM mM_X10_isCell := mh_b (List.mem_append_right _ (List.mem_of_getElem? (i := 1034) (by decide +kernel))) (by decide +kernel)
theorem mk_X10_cellAt : mh_sM mM_X10_cellAt := mh_b (List.mem_append_right _ (List.mem_of_getElem? (i := 1046) (by decide +kernel))) (by decide +kernel)
theorem mk_X10_beside : mh_sM mM_X10_beside := mh_b (List.mem_append_right _ (List.mem_of_getElem? (i := 1216) (by decide +kernel))) (by decide +kernel)
theorem mk_X10_treesBeside : mh_iM mM_X10_treesBeside := ⟨mh_b (List.mem_append_right _ (List.mem_of_getElem? (i := 1213) (by decide +kernel))) (by decide +kernel), mh_b (List.mem_append_left _ (List.mem_of_getElem? (i := 86) (by decide +kernel))) (by decide +kernel)⟩
theorem mk_X10_ground : mh_iM mM_X10_ground := ⟨mh_b (List.mem_append_right _ (List.mem_of_getElem? (i := 1030) (by decide +kernel))) (by decide +kernel), mh_b (List.mem_append_right _ (List.mem_of_getElem? (i := 1031) (by decide +kernel))) (by decide +kernel)⟩
theorem mk_X10_air : mh_iM mM_X10_air := ⟨mh_b (List.mem_append_right _ (List.mem_of_getElem? (i := 1049) (by decide +kernel))) (by decide +kernel), mh_b (List.mem_append_right _ (List.mem_of_getElem? (i := 1050) (by decide +kernel))) (by decide +kernel)⟩
theorem mk_X10_wind : mh_iM mM_X10_wind := ⟨mh_b (List.mem_append_right _ (List.mem_of_getElem? (i := 1054) (by decide +kernel))) (by decide +kernel), mh_b (List.mem_append_right _ (List.mem_of_getElem? (i := 1055) (by decide +kernel))) (by decide +kernel)⟩
theorem mk_X10_push : mh_iM mM_X10_push := ⟨mh_b (List.mem_append_right _ (List.mem_of_getElem? (i := 1064) (by decide +kernel))) (by decide +kernel), mh_b (List.mem_append_left _ (List.mem_of_getElem? (i := 57) (by decide +kernel))) (by decide +kernel)⟩
theorem mk_X10_feed : mh_iM mM_X10_feed := ⟨mh_b (List.mem_append_right _ (List.mem_of_getElem? (i := 1059) (by decide +kernel))) (by decide +kernel), mh_b (List.mem_append_right _ (List.mem_of_getElem? (i := 1060) (by decide +kernel))) (by decide +kernel)⟩
theorem mk_X10_here : mh_iM mM_X10_here := ⟨mh_b (List.mem_append_right _ (List.mem_of_getElem? (i := 1081) (by decide +kernel))) (by decide +kernel), mh_b (List.mem_append_left _ (List.mem_of_getElem? (i := 60) (by decide +kernel))) (by decide +kernel)⟩
theorem mk_X10_wrongs : mh_iM mM_X10_wrongs := ⟨mh_b (List.mem_append_right _ (List.mem_of_getElem? (i := 1088) (by decide +kernel))) (by decide +kernel), mh_b (List.mem_append_left _ (List.mem_of_getElem? (i := 61) (by decide +kernel))) (by decide +kernel)⟩
theorem mk_X10_isGood : mh_iM mM_X10_isGood := ⟨mh_b (List.mem_append_right _ (List.mem_of_getElem? (i := 1073) (by decide +kernel))) (by decide +kernel), mh_b (List.mem_append_left _ (List.mem_of_getElem? (i := 58) (by decide +kernel))) (by decide +kernel)⟩
theorem mk_X10_emit : mh_iM mM_X10_emit := ⟨mh_b (List.mem_append_right _ (List.mem_of_getElem? (i := 1118) (by decide +kernel))) (by decide +kernel), mh_b (List.mem_append_left _ (List.mem_of_getElem? (i := 68) (by decide +kernel))) (by decide +kernel)⟩
theorem mk_X10_top : mh_iM mM_X10_top := ⟨mh_b (List.mem_append_right _ (List.mem_of_getElem? (i := 1139) (by decide +kernel))) (by decide +kernel), mh_b (List.mem_append_left _ (List.mem_of_getElem? (i := 71) (by decide +kernel))) (by decide +kernel)⟩
theorem mk_X10_puts : mh_iM mM_X10_puts := ⟨mh_b (List.mem_append_right _ (List.mem_of_getElem? (i := 1104) (by decide +kernel))) (by decide +kernel), mh_b (List.mem_append_left _ (List.mem_of_getElem? (i := 65) (by decide +kernel))) (by decide +kernel)⟩
theorem mk_X10_opens : mh_iM mM_X10_opens := ⟨mh_b (List.mem_append_right _ (List.mem_of_getElem? (i := 1100) (by decide +kernel))) (by decide +kernel), mh_b (List.mem_append_left _ (List.mem_of_getElem? (i := 64) (by decide +kernel))) (by decide +kernel)⟩
theorem mk_X10_seesDigit : mh_iM mM_X10_seesDigit := ⟨mh_b (List.mem_append_right _ (List.mem_of_getElem? (i := 1108) (by decide +kernel))) (by decide +kernel), mh_b (List.mem_append_left _ (List.mem_of_getElem? (i := 66) (by decide +kernel))) (by decide +kernel)⟩
theorem mk_X10_reads : mh_iM mM_X10_reads := ⟨mh_b (List.mem_append_right _ (List.mem_of_getElem? (i := 1114) (by decide +kernel))) (by decide +kernel), mh_b (List.mem_append_left _ (List.mem_of_getElem? (i := 67) (by decide +kernel))) (by decide +kernel)⟩
theorem mk_X10_isTimes : mh_sM mM_X10_isTimes := mh_b (List.mem_append_right _ (List.mem_of_getElem? (i := 1128) (by decide +kernel))) (by decide +kernel)
theorem mk_X10_isPlus : mh_sM mM_X10_isPlus := mh_b (List.mem_append_right _ (List.mem_of_getElem? (i := 1131) (by decide +kernel))) (by decide +kernel)
theorem mk_X10_isSign : mh_sM mM_X10_isSign := mh_b (List.mem_append_right _ (List.mem_of_getElem? (i := 1150) (by decide +kernel))) (by decide +kernel)
theorem mk_X10_isValue : mh_sM mM_X10_isValue := mh_b (List.mem_append_right _ (List.mem_of_getElem? (i := 1121) (by decide +kernel))) (by decide +kernel)
theorem mk_X10_folds : mh_iM mM_X10_folds := ⟨mh_b (List.mem_append_right _ (List.mem_of_getElem? (i := 1135) (by decide +kernel))) (by decide +kernel), mh_b (List.mem_append_left _ (List.mem_of_getElem? (i := 70) (by decide +kernel))) (by decide +kernel)⟩
theorem mk_X10_joins : mh_iM mM_X10_joins := ⟨mh_b (List.mem_append_right _ (List.mem_of_getElem? (i := 1162) (by decide +kernel))) (by decide +kernel), mh_b (List.mem_append_left _ (List.mem_of_getElem? (i := 76) (by decide +kernel))) (by decide +kernel)⟩
theorem mk_X10_ends : mh_iM mM_X10_ends := ⟨mh_b (List.mem_append_right _ (List.mem_of_getElem? (i := 1154) (by decide +kernel))) (by decide +kernel), mh_b (List.mem_append_left _ (List.mem_of_getElem? (i := 74) (by decide +kernel))) (by decide +kernel)⟩
theorem mk_X10_factor : mh_iM mM_X10_factor := ⟨mh_b (List.mem_append_right _ (List.mem_of_getElem? (i := 1096) (by decide +kernel))) (by decide +kernel), mh_b (List.mem_append_left _ (List.mem_of_getElem? (i := 63) (by decide +kernel))) (by decide +kernel)⟩
theorem mk_X10_stays : mh_iM mM_X10_stays := ⟨mh_b (List.mem_append_right _ (List.mem_of_getElem? (i := 1125) (by decide +kernel))) (by decide +kernel), mh_b (List.mem_append_left _ (List.mem_of_getElem? (i := 69) (by decide +kernel))) (by decide +kernel)⟩
theorem mk_X10_value : mh_iM mM_X10_value := ⟨mh_b (List.mem_append_right _ (List.mem_of_getElem? (i := 1092) (by decide +kernel))) (by decide +kernel), mh_b (List.mem_append_left _ (List.mem_of_getElem? (i := 62) (by decide +kernel))) (by decide +kernel)⟩
theorem mk_X10_pieceOfC : mh_iM mM_X10_pieceOfC := ⟨mh_b (List.mem_append_right _ (List.mem_of_getElem? (i := 1147) (by decide +kernel))) (by decide +kernel), mh_b (List.mem_append_left _ (List.mem_of_getElem? (i := 73) (by decide +kernel))) (by decide +kernel)⟩
theorem mk_X10_goesBehind : mh_iM mM_X10_goesBehind := ⟨mh_b (List.mem_append_right _ (List.mem_of_getElem? (i := 1158) (by decide +kernel))) (by decide +kernel), mh_b (List.mem_append_left _ (List.mem_of_getElem? (i := 75) (by decide +kernel))) (by decide +kernel)⟩
theorem mk_X10_condition : mh_iM mM_X10_condition := ⟨mh_b (List.mem_append_right _ (List.mem_of_getElem? (i := 1143) (by decide +kernel))) (by decide +kernel), mh_b (List.mem_append_left _ (List.mem_of_getElem? (i := 72) (by decide +kernel))) (by decide +kernel)⟩
theorem mk_X10_isClause : mh_sM mM_X10_isClause := mh_b (List.mem_append_right _ (List.mem_of_getElem? (i := 1084) (by decide +kernel))) (by decide +kernel)
theorem mk_X10_clause : mh_iM mM_X10_clause := ⟨mh_b (List.mem_append_right _ (List.mem_of_getElem? (i := 1077) (by decide +kernel))) (by decide +kernel), mh_b (List.mem_append_left _ (List.mem_of_getElem? (i := 59) (by decide +kernel))) (by decide +kernel)⟩
theorem mk_X10_law : mh_iM mM_X10_law := ⟨mh_b (List.mem_append_right _ (List.mem_of_getElem? (i := 1067) (by decide +kernel))) (by decide +kernel), mh_b (List.mem_append_right _ (List.mem_of_getElem? (i := 1068) (by decide +kernel))) (by decide +kernel)⟩
theorem mk_X10_windNow : mh_iM mM_X10_windNow := ⟨mh_b (List.mem_append_right _ (List.mem_of_getElem? (i := 1209) (by decide +kernel))) (by decide +kernel), mh_b (List.mem_append_left _ (List.mem_of_getElem? (i := 85) (by decide +kernel))) (by decide +kernel)⟩
theorem mk_X10_ofCell : mh_iM mM_X10_ofCell := ⟨mh_b (List.mem_append_right _ (List.mem_of_getElem? (i := 1205) (by decide +kernel))) (by decide +kernel), mh_b (List.mem_append_left _ (List.mem_of_getElem? (i := 84) (by decide +kernel))) (by decide +kernel)⟩
theorem mk_X10_valueOf : mh_iM mM_X10_valueOf := ⟨mh_b (List.mem_append_right _ (List.mem_of_getElem? (i := 1201) (by decide +kernel))) (by decide +kernel), mh_b (List.mem_append_left _ (List.mem_of_getElem? (i := 83) (by decide +kernel))) (by decide +kernel)⟩
theorem mk_X10_worked : mh_sM mM_X10_worked := mh_b (List.mem_append_right _ (List.mem_of_getElem? (i := 1197) (by decide +kernel))) (by decide +kernel)
theorem mk_X10_does : mh_iM mM_X10_does := ⟨mh_b (List.mem_append_right _ (List.mem_of_getElem? (i := 1194) (by decide +kernel))) (by decide +kernel), mh_b (List.mem_append_left _ (List.mem_of_getElem? (i := 82) (by decide +kernel))) (by decide +kernel)⟩
theorem mk_X10_goesThrough : mh_iM mM_X10_goesThrough := ⟨mh_b (List.mem_append_right _ (List.mem_of_getElem? (i := 1190) (by decide +kernel))) (by decide +kernel), mh_b (List.mem_append_left _ (List.mem_of_getElem? (i := 81) (by decide +kernel))) (by decide +kernel)⟩
theorem mk_X10_tellsBy : mh_iM mM_X10_tellsBy := ⟨mh_b (List.mem_append_right _ (List.mem_of_getElem? (i := 1186) (by decide +kernel))) (by decide +kernel), mh_b (List.mem_append_left _ (List.mem_of_getElem? (i := 80) (by decide +kernel))) (by decide +kernel)⟩
theorem mk_X10_byCell : mh_iM mM_X10_byCell := ⟨mh_b (List.mem_append_right _ (List.mem_of_getElem? (i := 1182) (by decide +kernel))) (by decide +kernel), mh_b (List.mem_append_left _ (List.mem_of_getElem? (i := 79) (by decide +kernel))) (by decide +kernel)⟩
theorem mk_X10_mistAt : mh_iM mM_X10_mistAt := ⟨mh_b (List.mem_append_right _ (List.mem_of_getElem? (i := 1239) (by decide +kernel))) (by decide +kernel), mh_b (List.mem_append_left _ (List.mem_of_getElem? (i := 90) (by decide +kernel))) (by decide +kernel)⟩
theorem mk_X10_yardsAt : mh_iM mM_X10_yardsAt := ⟨mh_b (List.mem_append_right _ (List.mem_of_getElem? (i := 1243) (by decide +kernel))) (by decide +kernel), mh_b (List.mem_append_left _ (List.mem_of_getElem? (i := 91) (by decide +kernel))) (by decide +kernel)⟩
theorem mk_X10_levelAt : mh_iM mM_X10_levelAt := ⟨mh_b (List.mem_append_right _ (List.mem_of_getElem? (i := 1231) (by decide +kernel))) (by decide +kernel), mh_b (List.mem_append_left _ (List.mem_of_getElem? (i := 89) (by decide +kernel))) (by decide +kernel)⟩
theorem mk_X10_bounded : mh_sM mM_X10_bounded := mh_b (List.mem_append_right _ (List.mem_of_getElem? (i := 1219) (by decide +kernel))) (by decide +kernel)
theorem mk_X10_cools : mh_iM mM_X10_cools := ⟨mh_b (List.mem_append_right _ (List.mem_of_getElem? (i := 1178) (by decide +kernel))) (by decide +kernel), mh_b (List.mem_append_left _ (List.mem_of_getElem? (i := 78) (by decide +kernel))) (by decide +kernel)⟩
theorem mk_X10_lowestBeside : mh_iM mM_X10_lowestBeside := ⟨mh_b (List.mem_append_right _ (List.mem_of_getElem? (i := 1227) (by decide +kernel))) (by decide +kernel), mh_b (List.mem_append_left _ (List.mem_of_getElem? (i := 88) (by decide +kernel))) (by decide +kernel)⟩
theorem mk_X10_runsDown : mh_iM mM_X10_runsDown := ⟨mh_b (List.mem_append_right _ (List.mem_of_getElem? (i := 1223) (by decide +kernel))) (by decide +kernel), mh_b (List.mem_append_left _ (List.mem_of_getElem? (i := 87) (by decide +kernel))) (by decide +kernel)⟩
theorem mk_X10_stepOne : mh_iM mM_X10_stepOne := ⟨mh_b (List.mem_append_right _ (List.mem_of_getElem? (i := 1174) (by decide +kernel))) (by decide +kernel), mh_b (List.mem_append_left _ (List.mem_of_getElem? (i := 77) (by decide +kernel))) (by decide +kernel)⟩
theorem mk_X10_isNight : mh_sM mM_X10_isNight := mh_b (List.mem_append_right _ (List.mem_of_getElem? (i := 1169) (by decide +kernel))) (by decide +kernel)
theorem mk_X10_steps : mh_iM mM_X10_steps := ⟨mh_b (List.mem_append_right _ (List.mem_of_getElem? (i := 1165) (by decide +kernel))) (by decide +kernel), mh_b (List.mem_append_right _ (List.mem_of_getElem? (i := 1166) (by decide +kernel))) (by decide +kernel)⟩
theorem mk_X10_cell : mh_iM mM_X10_cell := ⟨mh_b (List.mem_append_right _ (List.mem_of_getElem? (i := 1234) (by decide +kernel))) (by decide +kernel), mh_b (List.mem_append_right _ (List.mem_of_getElem? (i := 1235) (by decide +kernel))) (by decide +kernel)⟩
theorem mk_X10_misty : mh_iM mM_X10_misty := ⟨mh_b (List.mem_append_right _ (List.mem_of_getElem? (i := 1251) (by decide +kernel))) (by decide +kernel), mh_b (List.mem_append_left _ (List.mem_of_getElem? (i := 92) (by decide +kernel))) (by decide +kernel)⟩
theorem mk_X10_highestTop : mh_iM mM_X10_highestTop := ⟨mh_b (List.mem_append_right _ (List.mem_of_getElem? (i := 1255) (by decide +kernel))) (by decide +kernel), mh_b (List.mem_append_left _ (List.mem_of_getElem? (i := 93) (by decide +kernel))) (by decide +kernel)⟩
theorem mk_X10_sums : mh_iM mM_X10_sums := ⟨mh_b (List.mem_append_right _ (List.mem_of_getElem? (i := 1246) (by decide +kernel))) (by decide +kernel), mh_b (List.mem_append_right _ (List.mem_of_getElem? (i := 1247) (by decide +kernel))) (by decide +kernel)⟩
theorem mk_X10_setsAside : mh_iM mM_X10_setsAside := ⟨mh_b (List.mem_append_right _ (List.mem_of_getElem? (i := 1263) (by decide +kernel))) (by decide +kernel), mh_b (List.mem_append_left _ (List.mem_of_getElem? (i := 94) (by decide +kernel))) (by decide +kernel)⟩
theorem mk_X10_putsBack : mh_iM mM_X10_putsBack := ⟨mh_b (List.mem_append_right _ (List.mem_of_getElem? (i := 1271) (by decide +kernel))) (by decide +kernel), mh_b (List.mem_append_left _ (List.mem_of_getElem? (i := 96) (by decide +kernel))) (by decide +kernel)⟩
theorem mk_X10_lowestMisty : mh_iM mM_X10_lowestMisty := ⟨mh_b (List.mem_append_right _ (List.mem_of_getElem? (i := 1267) (by decide +kernel))) (by decide +kernel), mh_b (List.mem_append_left _ (List.mem_of_getElem? (i := 95) (by decide +kernel))) (by decide +kernel)⟩
theorem mk_X10_night : mh_iM mM_X10_night := ⟨mh_b (List.mem_append_right _ (List.mem_of_getElem? (i := 1258) (by decide +kernel))) (by decide +kernel), mh_b (List.mem_append_right _ (List.mem_of_getElem? (i := 1259) (by decide +kernel))) (by decide +kernel)⟩
theorem mk_X10_sun : mh_iM mM_X10_sun := ⟨mh_b (List.mem_append_right _ (List.mem_of_getElem? (i := 1274) (by decide +kernel))) (by decide +kernel), mh_b (List.mem_append_right _ (List.mem_of_getElem? (i := 1275) (by decide +kernel))) (by decide +kernel)⟩
theorem mk_X10_band : mh_iM mM_X10_band := ⟨mh_b (List.mem_append_right _ (List.mem_of_getElem? (i := 1279) (by decide +kernel))) (by decide +kernel), mh_b (List.mem_append_right _ (List.mem_of_getElem? (i := 1280) (by decide +kernel))) (by decide +kernel)⟩
theorem mk_X10_laysNight : mh_iM mM_X10_laysNight := ⟨mh_b (List.mem_append_right _ (List.mem_of_getElem? (i := 1289) (by decide +kernel))) (by decide +kernel), mh_b (List.mem_append_left _ (List.mem_of_getElem? (i := 97) (by decide +kernel))) (by decide +kernel)⟩
theorem mk_X10_works : mh_iM mM_X10_works := ⟨mh_b (List.mem_append_right _ (List.mem_of_getElem? (i := 1283) (by decide +kernel))) (by decide +kernel), mh_b (List.mem_append_right _ (List.mem_of_getElem? (i := 1284) (by decide +kernel))) (by decide +kernel)⟩
theorem mk_X10_dam : mh_iM mM_X10_dam := ⟨mh_b (List.mem_append_right _ (List.mem_of_getElem? (i := 1292) (by decide +kernel))) (by decide +kernel), mh_b (List.mem_append_right _ (List.mem_of_getElem? (i := 1293) (by decide +kernel))) (by decide +kernel)⟩
theorem mk_X10_isNode : mh_sM mM_X10_isNode := mh_b (List.mem_append_right _ (List.mem_of_getElem? (i := 1303) (by decide +kernel))) (by decide +kernel)
theorem mk_X10_road : mh_iM mM_X10_road := ⟨mh_b (List.mem_append_right _ (List.mem_of_getElem? (i := 1298) (by decide +kernel))) (by decide +kernel), mh_b (List.mem_append_right _ (List.mem_of_getElem? (i := 1299) (by decide +kernel))) (by decide +kernel)⟩
theorem mk_X10_laysYards : mh_iM mM_X10_laysYards := ⟨mh_b (List.mem_append_right _ (List.mem_of_getElem? (i := 1312) (by decide +kernel))) (by decide +kernel), mh_b (List.mem_append_left _ (List.mem_of_getElem? (i := 98) (by decide +kernel))) (by decide +kernel)⟩
theorem mk_X10_outOf : mh_iM mM_X10_outOf := ⟨mh_b (List.mem_append_right _ (List.mem_of_getElem? (i := 1320) (by decide +kernel))) (by decide +kernel), mh_b (List.mem_append_left _ (List.mem_of_getElem? (i := 100) (by decide +kernel))) (by decide +kernel)⟩
theorem mk_X10_arrives : mh_iM mM_X10_arrives := ⟨mh_b (List.mem_append_right _ (List.mem_of_getElem? (i := 1316) (by decide +kernel))) (by decide +kernel), mh_b (List.mem_append_left _ (List.mem_of_getElem? (i := 99) (by decide +kernel))) (by decide +kernel)⟩
theorem mk_X10_soonest : mh_iM mM_X10_soonest := ⟨mh_b (List.mem_append_right _ (List.mem_of_getElem? (i := 1306) (by decide +kernel))) (by decide +kernel), mh_b (List.mem_append_right _ (List.mem_of_getElem? (i := 1307) (by decide +kernel))) (by decide +kernel)⟩
theorem mk_X10_meet : mh_iM mM_X10_meet := ⟨mh_b (List.mem_append_right _ (List.mem_of_getElem? (i := 1330) (by decide +kernel))) (by decide +kernel), mh_b (List.mem_append_left _ (List.mem_of_getElem? (i := 101) (by decide +kernel))) (by decide +kernel)⟩
theorem mk_X10_edge : mh_iM mM_X10_edge := ⟨mh_b (List.mem_append_right _ (List.mem_of_getElem? (i := 1324) (by decide +kernel))) (by decide +kernel), mh_b (List.mem_append_right _ (List.mem_of_getElem? (i := 1325) (by decide +kernel))) (by decide +kernel)⟩
theorem mk_X10_was : mh_iM mM_X10_was := ⟨mh_b (List.mem_append_right _ (List.mem_of_getElem? (i := 1333) (by decide +kernel))) (by decide +kernel), mh_b (List.mem_append_right _ (List.mem_of_getElem? (i := 1334) (by decide +kernel))) (by decide +kernel)⟩
theorem mk_X10_costOf : mh_iM mM_X10_costOf := ⟨mh_b (List.mem_append_right _ (List.mem_of_getElem? (i := 1350) (by decide +kernel))) (by decide +kernel), mh_b (List.mem_append_left _ (List.mem_of_getElem? (i := 103) (by decide +kernel))) (by decide +kernel)⟩
theorem mk_X10_bestLine : mh_iM mM_X10_bestLine := ⟨mh_b (List.mem_append_right _ (List.mem_of_getElem? (i := 1346) (by decide +kernel))) (by decide +kernel), mh_b (List.mem_append_left _ (List.mem_of_getElem? (i := 102) (by decide +kernel))) (by decide +kernel)⟩
theorem mk_X10_isPrice : mh_sM mM_X10_isPrice := mh_b (List.mem_append_right _ (List.mem_of_getElem? (i := 1342) (by decide +kernel))) (by decide +kernel)
theorem mk_X10_line : mh_iM mM_X10_line := ⟨mh_b (List.mem_append_right _ (List.mem_of_getElem? (i := 1338) (by decide +kernel))) (by decide +kernel), mh_b (List.mem_append_right _ (List.mem_of_getElem? (i := 1339) (by decide +kernel))) (by decide +kernel)⟩
theorem mk_X10_tells : mh_iM mM_X10_tells := ⟨mh_b (List.mem_append_right _ (List.mem_of_getElem? (i := 1353) (by decide +kernel))) (by decide +kernel), mh_b (List.mem_append_right _ (List.mem_of_getElem? (i := 1354) (by decide +kernel))) (by decide +kernel)⟩
theorem mk_X10_held : mh_iM mM_X10_held := ⟨mh_b (List.mem_append_right _ (List.mem_of_getElem? (i := 1357) (by decide +kernel))) (by decide +kernel), mh_b (List.mem_append_right _ (List.mem_of_getElem? (i := 1358) (by decide +kernel))) (by decide +kernel)⟩
theorem mk_X10_isWithin : mh_sM mM_X10_isWithin := mh_b (List.mem_append_right _ (List.mem_of_getElem? (i := 1365) (by decide +kernel))) (by decide +kernel)
theorem mk_X10_divisor : mh_sM mM_X10_divisor := mh_b (List.mem_append_right _ (List.mem_of_getElem? (i := 1368) (by decide +kernel))) (by decide +kernel)
theorem mk_X10_odds : mh_iM mM_X10_odds := ⟨mh_b (List.mem_append_right _ (List.mem_of_getElem? (i := 1361) (by decide +kernel))) (by decide +kernel), mh_b (List.mem_append_right _ (List.mem_of_getElem? (i := 1362) (by decide +kernel))) (by decide +kernel)⟩
theorem mk_X10_costWhen : mh_iM mM_X10_costWhen := ⟨mh_b (List.mem_append_right _ (List.mem_of_getElem? (i := 1376) (by decide +kernel))) (by decide +kernel), mh_b (List.mem_append_left _ (List.mem_of_getElem? (i := 104) (by decide +kernel))) (by decide +kernel)⟩
theorem mk_X10_when : mh_iM mM_X10_when := ⟨mh_b (List.mem_append_right _ (List.mem_of_getElem? (i := 1371) (by decide +kernel))) (by decide +kernel), mh_b (List.mem_append_right _ (List.mem_of_getElem? (i := 1372) (by decide +kernel))) (by decide +kernel)⟩
theorem mk_X10_lid : mh_iM mM_X10_lid := ⟨mh_b (List.mem_append_right _ (List.mem_of_getElem? (i := 1379) (by decide +kernel))) (by decide +kernel), mh_b (List.mem_append_right _ (List.mem_of_getElem? (i := 1380) (by decide +kernel))) (by decide +kernel)⟩
theorem mk_X10_seed : mh_iM mM_X10_seed := ⟨mh_b (List.mem_append_right _ (List.mem_of_getElem? (i := 1385) (by decide +kernel))) (by decide +kernel), mh_b (List.mem_append_right _ (List.mem_of_getElem? (i := 1386) (by decide +kernel))) (by decide +kernel)⟩
theorem mk_X10_draw : mh_iM mM_X10_draw := ⟨mh_b (List.mem_append_right _ (List.mem_of_getElem? (i := 1390) (by decide +kernel))) (by decide +kernel), mh_b (List.mem_append_right _ (List.mem_of_getElem? (i := 1391) (by decide +kernel))) (by decide +kernel)⟩
theorem mk_X10_keep : mh_iM mM_X10_keep := ⟨mh_b (List.mem_append_right _ (List.mem_of_getElem? (i := 1395) (by decide +kernel))) (by decide +kernel), mh_b (List.mem_append_right _ (List.mem_of_getElem? (i := 1396) (by decide +kernel))) (by decide +kernel)⟩
theorem mk_X10_undo : mh_iM mM_X10_undo := ⟨mh_b (List.mem_append_right _ (List.mem_of_getElem? (i := 1399) (by decide +kernel))) (by decide +kernel), mh_b (List.mem_append_right _ (List.mem_of_getElem? (i := 1400) (by decide +kernel))) (by decide +kernel)⟩
theorem mk_X10_numberAt : mh_iM mM_X10_numberAt := ⟨mh_b (List.mem_append_right _ (List.mem_of_getElem? (i := 1408) (by decide +kernel))) (by decide +kernel), mh_b (List.mem_append_left _ (List.mem_of_getElem? (i := 105) (by decide +kernel))) (by decide +kernel)⟩
theorem mk_X10_check : mh_iM mM_X10_check := ⟨mh_b (List.mem_append_right _ (List.mem_of_getElem? (i := 1403) (by decide +kernel))) (by decide +kernel), mh_b (List.mem_append_right _ (List.mem_of_getElem? (i := 1404) (by decide +kernel))) (by decide +kernel)⟩
theorem mk_X10_roadsTold : mh_iM mM_X10_roadsTold := ⟨mh_b (List.mem_append_right _ (List.mem_of_getElem? (i := 1418) (by decide +kernel))) (by decide +kernel), mh_b (List.mem_append_left _ (List.mem_of_getElem? (i := 106) (by decide +kernel))) (by decide +kernel)⟩
theorem mk_X10_count : mh_iM mM_X10_count := ⟨mh_b (List.mem_append_right _ (List.mem_of_getElem? (i := 1411) (by decide +kernel))) (by decide +kernel), mh_b (List.mem_append_right _ (List.mem_of_getElem? (i := 1412) (by decide +kernel))) (by decide +kernel)⟩
theorem mk_J0_length_8abf5 : mh_iM mM_J0_length_8abf5 := ⟨mh_b (List.mem_append_right _ (List.mem_of_getElem? (i := 204) (by decide +kernel))) (by decide +kernel), mh_b (List.mem_append_right _ (List.mem_of_getElem? (i := 205) (by decide +kernel))) (by decide +kernel)⟩
theorem mk_J0_indexOf_0f7a4 : mh_iM mM_J0_indexOf_0f7a4 := ⟨mh_b (List.mem_append_right _ (List.mem_of_getElem? (i := 369) (by decide +kernel))) (by decide +kernel), mh_b (List.mem_append_right _ (List.mem_of_getElem? (i := 370) (by decide +kernel))) (by decide +kernel)⟩
theorem mk_J0_indexOf_7cf53 : mh_iM mM_J0_indexOf_7cf53 := ⟨mh_b (List.mem_append_right _ (List.mem_of_getElem? (i := 373) (by decide +kernel))) (by decide +kernel), mh_b (List.mem_append_right _ (List.mem_of_getElem? (i := 374) (by decide +kernel))) (by decide +kernel)⟩
theorem mk_J0_coder_7d493 : mh_iM mM_J0_coder_7d493 := ⟨mh_b (List.mem_append_right _ (List.mem_of_getElem? (i := 208) (by decide +kernel))) (by decide +kernel), mh_b (List.mem_append_right _ (List.mem_of_getElem? (i := 209) (by decide +kernel))) (by decide +kernel)⟩
theorem mk_J0_isLatin1_aae02 : mh_iM mM_J0_isLatin1_aae02 := ⟨mh_b (List.mem_append_right _ (List.mem_of_getElem? (i := 377) (by decide +kernel))) (by decide +kernel), mh_b (List.mem_append_right _ (List.mem_of_getElem? (i := 378) (by decide +kernel))) (by decide +kernel)⟩
theorem mk_J1_canEncode_9a6ad : mh_sM mM_J1_canEncode_9a6ad := mh_b (List.mem_append_right _ (List.mem_of_getElem? (i := 385) (by decide +kernel))) (by decide +kernel)
theorem mk_J1_indexOf_4cfef : mh_sM mM_J1_indexOf_4cfef := mh_b (List.mem_append_right _ (List.mem_of_getElem? (i := 382) (by decide +kernel))) (by decide +kernel)
theorem mk_J1_indexOfChar_4cfef : mh_sM mM_J1_indexOfChar_4cfef := mh_b (List.mem_append_right _ (List.mem_of_getElem? (i := 392) (by decide +kernel))) (by decide +kernel)
theorem mk_J7_fill_d0a16 : mh_sM mM_J7_fill_d0a16 := mh_b (List.mem_append_right _ (List.mem_of_getElem? (i := 770) (by decide +kernel))) (by decide +kernel)
theorem mk_J7_fill_53178 : mh_sM mM_J7_fill_53178 := mh_b (List.mem_append_right _ (List.mem_of_getElem? (i := 657) (by decide +kernel))) (by decide +kernel)
theorem gf_X8_9 : mh_gF RX8 9 8 0 2 := ⟨RX8, TX8, 8, cF_8, by decide, by decide, rfl, Or.inl (mh_b (List.mem_append_right _ (List.mem_of_getElem? (i := 34) (by decide +kernel))) (by decide +kernel))⟩
theorem gf_X8_15 : mh_gF RX8 15 8 1 2 := ⟨RX8, TX8, 8, cF_8, by decide, by decide, rfl, Or.inl (mh_b (List.mem_append_right _ (List.mem_of_getElem? (i := 37) (by decide +kernel))) (by decide +kernel))⟩
theorem gf_X8_18 : mh_gF RX8 18 8 2 2 := ⟨RX8, TX8, 8, cF_8, by decide, by decide, rfl, Or.inl (mh_b (List.mem_append_right _ (List.mem_of_getElem? (i := 40) (by decide +kernel))) (by decide +kernel))⟩
theorem gf_X8_21 : mh_gF RX8 21 8 3 2 := ⟨RX8, TX8, 8, cF_8, by decide, by decide, rfl, Or.inl (mh_b (List.mem_append_right _ (List.mem_of_getElem? (i := 44) (by decide +kernel))) (by decide +kernel))⟩
theorem gf_X8_24 : mh_gF RX8 24 8 4 2 := ⟨RX8, TX8, 8, cF_8, by decide, by decide, rfl, Or.inl (mh_b (List.mem_append_right _ (List.mem_of_getElem? (i := 48) (by decide +kernel))) (by decide +kernel))⟩
theorem gf_X8_27 : mh_gF RX8 27 8 5 0 := ⟨RX8, TX8, 8, cF_8, by decide, by decide, rfl, Or.inl (mh_b (List.mem_append_right _ (List.mem_of_getElem? (i := 50) (by decide +kernel))) (by decide +kernel))⟩
theorem pf_X8_27 : mh_pF RX8 27 8 5 0 .int := ⟨RX8, TX8, 8, cF_8, by decide, by decide, rfl, Or.inl (mh_b (List.mem_append_right _ (List.mem_of_getElem? (i := 50) (by decide +kernel))) (by decide +kernel)), rfl, by decide +kernel⟩
theorem gf_X8_31 : mh_gF RX8 31 8 6 0 := ⟨RX8, TX8, 8, cF_8, by decide, by decide, rfl, Or.inl (mh_b (List.mem_append_right _ (List.mem_of_getElem? (i := 54) (by decide +kernel))) (by decide +kernel))⟩
theorem pf_X8_31 : mh_pF RX8 31 8 6 0 .int := ⟨RX8, TX8, 8, cF_8, by decide, by decide, rfl, Or.inl (mh_b (List.mem_append_right _ (List.mem_of_getElem? (i := 54) (by decide +kernel))) (by decide +kernel)), rfl, by decide +kernel⟩
theorem gf_X8_34 : mh_gF RX8 34 8 7 0 := ⟨RX8, TX8, 8, cF_8, by decide, by decide, rfl, Or.inl (mh_b (List.mem_append_right _ (List.mem_of_getElem? (i := 57) (by decide +kernel))) (by decide +kernel))⟩
theorem pf_X8_34 : mh_pF RX8 34 8 7 0 .int := ⟨RX8, TX8, 8, cF_8, by decide, by decide, rfl, Or.inl (mh_b (List.mem_append_right _ (List.mem_of_getElem? (i := 57) (by decide +kernel))) (by decide +kernel)), rfl, by decide +kernel⟩
theorem gf_X0_9 : mh_gF RX0 9 0 0 2 := ⟨RX0, TX0, 2, cF_0, by decide, by decide, rfl, Or.inl (mh_b (List.mem_append_right _ (List.mem_of_getElem? (i := 83) (by decide +kernel))) (by decide +kernel))⟩
theorem gf_X0_15 : mh_gF RX0 15 0 1 2 := ⟨RX0, TX0, 2, cF_0, by decide, by decide, rfl, Or.inl (mh_b (List.mem_append_right _ (List.mem_of_getElem? (i := 84) (by decide +kernel))) (by decide +kernel))⟩
theorem gf_X6_9 : mh_gF RX6 9 6 0 0 := ⟨RX6, TX6, 3, cF_6, by decide, by decide, rfl, Or.inl (mh_b (List.mem_append_right _ (List.mem_of_getElem? (i := 96) (by decide +kernel))) (by decide +kernel))⟩
theorem pf_X6_9 : mh_pF RX6 9 6 0 0 .int := ⟨RX6, TX6, 3, cF_6, by decide, by decide, rfl, Or.inl (mh_b (List.mem_append_right _ (List.mem_of_getElem? (i := 96) (by decide +kernel))) (by decide +kernel)), rfl, by decide +kernel⟩
theorem gf_X6_15 : mh_gF RX6 15 6 1 0 := ⟨RX6, TX6, 3, cF_6, by decide, by decide, rfl, Or.inl (mh_b (List.mem_append_right _ (List.mem_of_getElem? (i := 98) (by decide +kernel))) (by decide +kernel))⟩
theorem pf_X6_15 : mh_pF RX6 15 6 1 0 .int := ⟨RX6, TX6, 3, cF_6, by decide, by decide, rfl, Or.inl (mh_b (List.mem_append_right _ (List.mem_of_getElem? (i := 98) (by decide +kernel))) (by decide +kernel)), rfl, by decide +kernel⟩
theorem gf_X6_18 : mh_gF RX6 18 6 2 0 := ⟨RX6, TX6, 3, cF_6, by decide, by decide, rfl, Or.inl (mh_b (List.mem_append_right _ (List.mem_of_getElem? (i := 100) (by decide +kernel))) (by decide +kernel))⟩
theorem pf_X6_18 : mh_pF RX6 18 6 2 0 .int := ⟨RX6, TX6, 3, cF_6, by decide, by decide, rfl, Or.inl (mh_b (List.mem_append_right _ (List.mem_of_getElem? (i := 100) (by decide +kernel))) (by decide +kernel)), rfl, by decide +kernel⟩
theorem gf_X5_9 : mh_gF RX5 9 5 0 2 := ⟨RX5, TX5, 6, cF_5, by decide, by decide, rfl, Or.inl (mh_b (List.mem_append_right _ (List.mem_of_getElem? (i := 115) (by decide +kernel))) (by decide +kernel))⟩
theorem gf_X5_15 : mh_gF RX5 15 5 1 2 := ⟨RX5, TX5, 6, cF_5, by decide, by decide, rfl, Or.inl (mh_b (List.mem_append_right _ (List.mem_of_getElem? (i := 117) (by decide +kernel))) (by decide +kernel))⟩
theorem gf_X5_18 : mh_gF RX5 18 5 2 2 := ⟨RX5, TX5, 6, cF_5, by decide, by decide, rfl, Or.inl (mh_b (List.mem_append_right _ (List.mem_of_getElem? (i := 119) (by decide +kernel))) (by decide +kernel))⟩
theorem gf_X5_21 : mh_gF RX5 21 5 3 2 := ⟨RX5, TX5, 6, cF_5, by decide, by decide, rfl, Or.inl (mh_b (List.mem_append_right _ (List.mem_of_getElem? (i := 121) (by decide +kernel))) (by decide +kernel))⟩
theorem gf_X5_24 : mh_gF RX5 24 5 4 2 := ⟨RX5, TX5, 6, cF_5, by decide, by decide, rfl, Or.inl (mh_b (List.mem_append_right _ (List.mem_of_getElem? (i := 123) (by decide +kernel))) (by decide +kernel))⟩
theorem gf_X5_27 : mh_gF RX5 27 5 5 0 := ⟨RX5, TX5, 6, cF_5, by decide, by decide, rfl, Or.inl (mh_b (List.mem_append_right _ (List.mem_of_getElem? (i := 124) (by decide +kernel))) (by decide +kernel))⟩
theorem pf_X5_27 : mh_pF RX5 27 5 5 0 .int := ⟨RX5, TX5, 6, cF_5, by decide, by decide, rfl, Or.inl (mh_b (List.mem_append_right _ (List.mem_of_getElem? (i := 124) (by decide +kernel))) (by decide +kernel)), rfl, by decide +kernel⟩
theorem gf_X3_9 : mh_gF RX3 9 3 0 2 := ⟨RX3, TX3, 6, cF_3, by decide, by decide, rfl, Or.inl (mh_b (List.mem_append_right _ (List.mem_of_getElem? (i := 145) (by decide +kernel))) (by decide +kernel))⟩
theorem gf_X3_15 : mh_gF RX3 15 3 1 2 := ⟨RX3, TX3, 6, cF_3, by decide, by decide, rfl, Or.inl (mh_b (List.mem_append_right _ (List.mem_of_getElem? (i := 147) (by decide +kernel))) (by decide +kernel))⟩
theorem gf_X3_18 : mh_gF RX3 18 3 2 2 := ⟨RX3, TX3, 6, cF_3, by decide, by decide, rfl, Or.inl (mh_b (List.mem_append_right _ (List.mem_of_getElem? (i := 149) (by decide +kernel))) (by decide +kernel))⟩
theorem gf_X3_21 : mh_gF RX3 21 3 3 2 := ⟨RX3, TX3, 6, cF_3, by decide, by decide, rfl, Or.inl (mh_b (List.mem_append_right _ (List.mem_of_getElem? (i := 151) (by decide +kernel))) (by decide +kernel))⟩
theorem gf_X3_24 : mh_gF RX3 24 3 4 2 := ⟨RX3, TX3, 6, cF_3, by decide, by decide, rfl, Or.inl (mh_b (List.mem_append_right _ (List.mem_of_getElem? (i := 153) (by decide +kernel))) (by decide +kernel))⟩
theorem gf_X3_27 : mh_gF RX3 27 3 5 0 := ⟨RX3, TX3, 6, cF_3, by decide, by decide, rfl, Or.inl (mh_b (List.mem_append_right _ (List.mem_of_getElem? (i := 155) (by decide +kernel))) (by decide +kernel))⟩
theorem pf_X3_27 : mh_pF RX3 27 3 5 0 .int := ⟨RX3, TX3, 6, cF_3, by decide, by decide, rfl, Or.inl (mh_b (List.mem_append_right _ (List.mem_of_getElem? (i := 155) (by decide +kernel))) (by decide +kernel)), rfl, by decide +kernel⟩
theorem gf_X2_9 : mh_gF RX2 9 2 0 2 := ⟨RX2, TX2, 1, cF_2, by decide, by decide, rfl, Or.inl (mh_b (List.mem_append_right _ (List.mem_of_getElem? (i := 176) (by decide +kernel))) (by decide +kernel))⟩
theorem gf_X7_9 : mh_gF RX7 9 7 0 2 := ⟨RX7, TX7, 2, cF_7, by decide, by decide, rfl, Or.inl (mh_b (List.mem_append_right _ (List.mem_of_getElem? (i := 187) (by decide +kernel))) (by decide +kernel))⟩
theorem gf_X7_13 : mh_gF RX7 13 7 1 0 := ⟨RX7, TX7, 2, cF_7, by decide, by decide, rfl, Or.inl (mh_b (List.mem_append_right _ (List.mem_of_getElem? (i := 189) (by decide +kernel))) (by decide +kernel))⟩
theorem pf_X7_13 : mh_pF RX7 13 7 1 0 .int := ⟨RX7, TX7, 2, cF_7, by decide, by decide, rfl, Or.inl (mh_b (List.mem_append_right _ (List.mem_of_getElem? (i := 189) (by decide +kernel))) (by decide +kernel)), rfl, by decide +kernel⟩
theorem gf_X1_11 : mh_gF RX1 11 1 0 2 := ⟨RX1, TX1, 11, cF_1, by decide, by decide, rfl, Or.inl (mh_b (List.mem_append_right _ (List.mem_of_getElem? (i := 213) (by decide +kernel))) (by decide +kernel))⟩
theorem gf_X1_15 : mh_gF RX1 15 1 1 2 := ⟨RX1, TX1, 11, cF_1, by decide, by decide, rfl, Or.inl (mh_b (List.mem_append_right _ (List.mem_of_getElem? (i := 214) (by decide +kernel))) (by decide +kernel))⟩
theorem gf_X1_18 : mh_gF RX1 18 1 2 2 := ⟨RX1, TX1, 11, cF_1, by decide, by decide, rfl, Or.inl (mh_b (List.mem_append_right _ (List.mem_of_getElem? (i := 215) (by decide +kernel))) (by decide +kernel))⟩
theorem gf_X1_21 : mh_gF RX1 21 1 3 2 := ⟨RX1, TX1, 11, cF_1, by decide, by decide, rfl, Or.inl (mh_b (List.mem_append_right _ (List.mem_of_getElem? (i := 216) (by decide +kernel))) (by decide +kernel))⟩
theorem gf_X1_24 : mh_gF RX1 24 1 4 2 := ⟨RX1, TX1, 11, cF_1, by decide, by decide, rfl, Or.inl (mh_b (List.mem_append_right _ (List.mem_of_getElem? (i := 217) (by decide +kernel))) (by decide +kernel))⟩
theorem gf_X1_35 : mh_gF RX1 35 1 5 2 := ⟨RX1, TX1, 11, cF_1, by decide, by decide, rfl, Or.inl (mh_b (List.mem_append_right _ (List.mem_of_getElem? (i := 218) (by decide +kernel))) (by decide +kernel))⟩
theorem gf_X1_38 : mh_gF RX1 38 1 6 2 := ⟨RX1, TX1, 11, cF_1, by decide, by decide, rfl, Or.inl (mh_b (List.mem_append_right _ (List.mem_of_getElem? (i := 219) (by decide +kernel))) (by decide +kernel))⟩
theorem gf_X1_41 : mh_gF RX1 41 1 7 0 := ⟨RX1, TX1, 11, cF_1, by decide, by decide, rfl, Or.inl (mh_b (List.mem_append_right _ (List.mem_of_getElem? (i := 220) (by decide +kernel))) (by decide +kernel))⟩
theorem pf_X1_41 : mh_pF RX1 41 1 7 0 .int := ⟨RX1, TX1, 11, cF_1, by decide, by decide, rfl, Or.inl (mh_b (List.mem_append_right _ (List.mem_of_getElem? (i := 220) (by decide +kernel))) (by decide +kernel)), rfl, by decide +kernel⟩
theorem gf_X1_45 : mh_gF RX1 45 1 8 0 := ⟨RX1, TX1, 11, cF_1, by decide, by decide, rfl, Or.inl (mh_b (List.mem_append_right _ (List.mem_of_getElem? (i := 223) (by decide +kernel))) (by decide +kernel))⟩
theorem pf_X1_45 : mh_pF RX1 45 1 8 0 .int := ⟨RX1, TX1, 11, cF_1, by decide, by decide, rfl, Or.inl (mh_b (List.mem_append_right _ (List.mem_of_getElem? (i := 223) (by decide +kernel))) (by decide +kernel)), rfl, by decide +kernel⟩
theorem gf_X1_48 : mh_gF RX1 48 1 9 0 := ⟨RX1, TX1, 11, cF_1, by decide, by decide, rfl, Or.inl (mh_b (List.mem_append_right _ (List.mem_of_getElem? (i := 225) (by decide +kernel))) (by decide +kernel))⟩
theorem pf_X1_48 : mh_pF RX1 48 1 9 0 .boolean := ⟨RX1, TX1, 11, cF_1, by decide, by decide, rfl, Or.inl (mh_b (List.mem_append_right _ (List.mem_of_getElem? (i := 225) (by decide +kernel))) (by decide +kernel)), rfl, by decide +kernel⟩
theorem gf_X1_52 : mh_gF RX1 52 1 10 0 := ⟨RX1, TX1, 11, cF_1, by decide, by decide, rfl, Or.inl (mh_b (List.mem_append_right _ (List.mem_of_getElem? (i := 227) (by decide +kernel))) (by decide +kernel))⟩
theorem pf_X1_52 : mh_pF RX1 52 1 10 0 .boolean := ⟨RX1, TX1, 11, cF_1, by decide, by decide, rfl, Or.inl (mh_b (List.mem_append_right _ (List.mem_of_getElem? (i := 227) (by decide +kernel))) (by decide +kernel)), rfl, by decide +kernel⟩
theorem gf_X4_21 : mh_gF RX4 21 4 0 2 := ⟨RX4, TX4, 5, cF_4, by decide, by decide, rfl, Or.inl (mh_b (List.mem_append_right _ (List.mem_of_getElem? (i := 259) (by decide +kernel))) (by decide +kernel))⟩
theorem gf_X4_25 : mh_gF RX4 25 4 1 2 := ⟨RX4, TX4, 5, cF_4, by decide, by decide, rfl, Or.inl (mh_b (List.mem_append_right _ (List.mem_of_getElem? (i := 260) (by decide +kernel))) (by decide +kernel))⟩
theorem pf_X4_25 : mh_pF RX4 25 4 1 2 (.object "MistHands$Law") := ⟨RX4, TX4, 5, cF_4, by decide, by decide, rfl, Or.inl (mh_b (List.mem_append_right _ (List.mem_of_getElem? (i := 260) (by decide +kernel))) (by decide +kernel)), rfl, by decide +kernel⟩
theorem gf_X4_9 : mh_gF RX4 9 4 2 0 := ⟨RX4, TX4, 5, cF_4, by decide, by decide, rfl, Or.inl (mh_b (List.mem_append_right _ (List.mem_of_getElem? (i := 261) (by decide +kernel))) (by decide +kernel))⟩
theorem pf_X4_9 : mh_pF RX4 9 4 2 0 .int := ⟨RX4, TX4, 5, cF_4, by decide, by decide, rfl, Or.inl (mh_b (List.mem_append_right _ (List.mem_of_getElem? (i := 261) (by decide +kernel))) (by decide +kernel)), rfl, by decide +kernel⟩
theorem gf_X4_15 : mh_gF RX4 15 4 3 0 := ⟨RX4, TX4, 5, cF_4, by decide, by decide, rfl, Or.inl (mh_b (List.mem_append_right _ (List.mem_of_getElem? (i := 262) (by decide +kernel))) (by decide +kernel))⟩
theorem pf_X4_15 : mh_pF RX4 15 4 3 0 .int := ⟨RX4, TX4, 5, cF_4, by decide, by decide, rfl, Or.inl (mh_b (List.mem_append_right _ (List.mem_of_getElem? (i := 262) (by decide +kernel))) (by decide +kernel)), rfl, by decide +kernel⟩
theorem gf_X4_18 : mh_gF RX4 18 4 4 0 := ⟨RX4, TX4, 5, cF_4, by decide, by decide, rfl, Or.inl (mh_b (List.mem_append_right _ (List.mem_of_getElem? (i := 263) (by decide +kernel))) (by decide +kernel))⟩
theorem pf_X4_18 : mh_pF RX4 18 4 4 0 .int := ⟨RX4, TX4, 5, cF_4, by decide, by decide, rfl, Or.inl (mh_b (List.mem_append_right _ (List.mem_of_getElem? (i := 263) (by decide +kernel))) (by decide +kernel)), rfl, by decide +kernel⟩
theorem gf_X9_10 : mh_gF RX9 10 9 0 2 := ⟨RX9, TX9, 14, cF_9, by decide, by decide, rfl, Or.inl (mh_b (List.mem_append_right _ (List.mem_of_getElem? (i := 275) (by decide +kernel))) (by decide +kernel))⟩
theorem gf_X9_16 : mh_gF RX9 16 9 1 2 := ⟨RX9, TX9, 14, cF_9, by decide, by decide, rfl, Or.inl (mh_b (List.mem_append_right _ (List.mem_of_getElem? (i := 276) (by decide +kernel))) (by decide +kernel))⟩
theorem gf_X9_19 : mh_gF RX9 19 9 2 2 := ⟨RX9, TX9, 14, cF_9, by decide, by decide, rfl, Or.inl (mh_b (List.mem_append_right _ (List.mem_of_getElem? (i := 277) (by decide +kernel))) (by decide +kernel))⟩
theorem gf_X9_25 : mh_gF RX9 25 9 3 2 := ⟨RX9, TX9, 14, cF_9, by decide, by decide, rfl, Or.inl (mh_b (List.mem_append_right _ (List.mem_of_getElem? (i := 278) (by decide +kernel))) (by decide +kernel))⟩
theorem gf_X9_32 : mh_gF RX9 32 9 4 2 := ⟨RX9, TX9, 14, cF_9, by decide, by decide, rfl, Or.inl (mh_b (List.mem_append_right _ (List.mem_of_getElem? (i := 279) (by decide +kernel))) (by decide +kernel))⟩
theorem gf_X9_39 : mh_gF RX9 39 9 5 2 := ⟨RX9, TX9, 14, cF_9, by decide, by decide, rfl, Or.inl (mh_b (List.mem_append_right _ (List.mem_of_getElem? (i := 280) (by decide +kernel))) (by decide +kernel))⟩
theorem gf_X9_46 : mh_gF RX9 46 9 6 2 := ⟨RX9, TX9, 14, cF_9, by decide, by decide, rfl, Or.inl (mh_b (List.mem_append_right _ (List.mem_of_getElem? (i := 281) (by decide +kernel))) (by decide +kernel))⟩
theorem gf_X9_53 : mh_gF RX9 53 9 7 2 := ⟨RX9, TX9, 14, cF_9, by decide, by decide, rfl, Or.inl (mh_b (List.mem_append_right _ (List.mem_of_getElem? (i := 282) (by decide +kernel))) (by decide +kernel))⟩
theorem gf_X9_60 : mh_gF RX9 60 9 8 2 := ⟨RX9, TX9, 14, cF_9, by decide, by decide, rfl, Or.inl (mh_b (List.mem_append_right _ (List.mem_of_getElem? (i := 283) (by decide +kernel))) (by decide +kernel))⟩
theorem gf_X9_86 : mh_gF RX9 86 9 9 2 := ⟨RX9, TX9, 14, cF_9, by decide, by decide, rfl, Or.inl (mh_b (List.mem_append_right _ (List.mem_of_getElem? (i := 284) (by decide +kernel))) (by decide +kernel))⟩
theorem gf_X9_64 : mh_gF RX9 64 9 10 2 := ⟨RX9, TX9, 14, cF_9, by decide, by decide, rfl, Or.inl (mh_b (List.mem_append_right _ (List.mem_of_getElem? (i := 285) (by decide +kernel))) (by decide +kernel))⟩
theorem gf_X9_71 : mh_gF RX9 71 9 11 2 := ⟨RX9, TX9, 14, cF_9, by decide, by decide, rfl, Or.inl (mh_b (List.mem_append_right _ (List.mem_of_getElem? (i := 286) (by decide +kernel))) (by decide +kernel))⟩
theorem pf_X9_71 : mh_pF RX9 71 9 11 2 (.object "MistHands$Law") := ⟨RX9, TX9, 14, cF_9, by decide, by decide, rfl, Or.inl (mh_b (List.mem_append_right _ (List.mem_of_getElem? (i := 286) (by decide +kernel))) (by decide +kernel)), rfl, by decide +kernel⟩
theorem gf_X9_75 : mh_gF RX9 75 9 12 2 := ⟨RX9, TX9, 14, cF_9, by decide, by decide, rfl, Or.inl (mh_b (List.mem_append_right _ (List.mem_of_getElem? (i := 287) (by decide +kernel))) (by decide +kernel))⟩
theorem pf_X9_75 : mh_pF RX9 75 9 12 2 (.object "MistHands$Law") := ⟨RX9, TX9, 14, cF_9, by decide, by decide, rfl, Or.inl (mh_b (List.mem_append_right _ (List.mem_of_getElem? (i := 287) (by decide +kernel))) (by decide +kernel)), rfl, by decide +kernel⟩
theorem gf_X9_90 : mh_gF RX9 90 9 13 0 := ⟨RX9, TX9, 14, cF_9, by decide, by decide, rfl, Or.inl (mh_b (List.mem_append_right _ (List.mem_of_getElem? (i := 288) (by decide +kernel))) (by decide +kernel))⟩
theorem pf_X9_90 : mh_pF RX9 90 9 13 0 .boolean := ⟨RX9, TX9, 14, cF_9, by decide, by decide, rfl, Or.inl (mh_b (List.mem_append_right _ (List.mem_of_getElem? (i := 288) (by decide +kernel))) (by decide +kernel)), rfl, by decide +kernel⟩
theorem gf_X10_7 : mh_gF RX10 7 10 0 2 := ⟨RX10, TX10, 67, cF_10, by decide, by decide, rfl, Or.inl (mh_b (List.mem_append_right _ (List.mem_of_getElem? (i := 826) (by decide +kernel))) (by decide +kernel))⟩
theorem gf_X10_181 : mh_gF RX10 181 10 1 0 := ⟨RX10, TX10, 67, cF_10, by decide, by decide, rfl, Or.inl (mh_b (List.mem_append_right _ (List.mem_of_getElem? (i := 827) (by decide +kernel))) (by decide +kernel))⟩
theorem pf_X10_181 : mh_pF RX10 181 10 1 0 .int := ⟨RX10, TX10, 67, cF_10, by decide, by decide, rfl, Or.inl (mh_b (List.mem_append_right _ (List.mem_of_getElem? (i := 827) (by decide +kernel))) (by decide +kernel)), rfl, by decide +kernel⟩
theorem gf_X10_301 : mh_gF RX10 301 10 2 0 := ⟨RX10, TX10, 67, cF_10, by decide, by decide, rfl, Or.inl (mh_b (List.mem_append_right _ (List.mem_of_getElem? (i := 828) (by decide +kernel))) (by decide +kernel))⟩
theorem pf_X10_301 : mh_pF RX10 301 10 2 0 .int := ⟨RX10, TX10, 67, cF_10, by decide, by decide, rfl, Or.inl (mh_b (List.mem_append_right _ (List.mem_of_getElem? (i := 828) (by decide +kernel))) (by decide +kernel)), rfl, by decide +kernel⟩
theorem gf_X10_13 : mh_gF RX10 13 10 3 0 := ⟨RX10, TX10, 67, cF_10, by decide, by decide, rfl, Or.inl (mh_b (List.mem_append_right _ (List.mem_of_getElem? (i := 829) (by decide +kernel))) (by decide +kernel))⟩
theorem pf_X10_13 : mh_pF RX10 13 10 3 0 .int := ⟨RX10, TX10, 67, cF_10, by decide, by decide, rfl, Or.inl (mh_b (List.mem_append_right _ (List.mem_of_getElem? (i := 829) (by decide +kernel))) (by decide +kernel)), rfl, by decide +kernel⟩
theorem gf_X10_361 : mh_gF RX10 361 10 4 1 := ⟨RX10, TX10, 67, cF_10, by decide, by decide, rfl, Or.inl (mh_b (List.mem_append_right _ (List.mem_of_getElem? (i := 830) (by decide +kernel))) (by decide +kernel))⟩
theorem pf_X10_361 : mh_pF RX10 361 10 4 1 .long := ⟨RX10, TX10, 67, cF_10, by decide, by decide, rfl, Or.inl (mh_b (List.mem_append_right _ (List.mem_of_getElem? (i := 830) (by decide +kernel))) (by decide +kernel)), rfl, by decide +kernel⟩
theorem gf_X10_17 : mh_gF RX10 17 10 5 2 := ⟨RX10, TX10, 67, cF_10, by decide, by decide, rfl, Or.inl (mh_b (List.mem_append_right _ (List.mem_of_getElem? (i := 831) (by decide +kernel))) (by decide +kernel))⟩
theorem gf_X10_21 : mh_gF RX10 21 10 6 2 := ⟨RX10, TX10, 67, cF_10, by decide, by decide, rfl, Or.inl (mh_b (List.mem_append_right _ (List.mem_of_getElem? (i := 832) (by decide +kernel))) (by decide +kernel))⟩
theorem gf_X10_24 : mh_gF RX10 24 10 7 2 := ⟨RX10, TX10, 67, cF_10, by decide, by decide, rfl, Or.inl (mh_b (List.mem_append_right _ (List.mem_of_getElem? (i := 833) (by decide +kernel))) (by decide +kernel))⟩
theorem gf_X10_27 : mh_gF RX10 27 10 8 2 := ⟨RX10, TX10, 67, cF_10, by decide, by decide, rfl, Or.inl (mh_b (List.mem_append_right _ (List.mem_of_getElem? (i := 834) (by decide +kernel))) (by decide +kernel))⟩
theorem gf_X10_30 : mh_gF RX10 30 10 9 2 := ⟨RX10, TX10, 67, cF_10, by decide, by decide, rfl, Or.inl (mh_b (List.mem_append_right _ (List.mem_of_getElem? (i := 835) (by decide +kernel))) (by decide +kernel))⟩
theorem gf_X10_298 : mh_gF RX10 298 10 10 0 := ⟨RX10, TX10, 67, cF_10, by decide, by decide, rfl, Or.inl (mh_b (List.mem_append_right _ (List.mem_of_getElem? (i := 836) (by decide +kernel))) (by decide +kernel))⟩
theorem pf_X10_298 : mh_pF RX10 298 10 10 0 .int := ⟨RX10, TX10, 67, cF_10, by decide, by decide, rfl, Or.inl (mh_b (List.mem_append_right _ (List.mem_of_getElem? (i := 836) (by decide +kernel))) (by decide +kernel)), rfl, by decide +kernel⟩
theorem gf_X10_33 : mh_gF RX10 33 10 11 2 := ⟨RX10, TX10, 67, cF_10, by decide, by decide, rfl, Or.inl (mh_b (List.mem_append_right _ (List.mem_of_getElem? (i := 837) (by decide +kernel))) (by decide +kernel))⟩
theorem gf_X10_36 : mh_gF RX10 36 10 12 2 := ⟨RX10, TX10, 67, cF_10, by decide, by decide, rfl, Or.inl (mh_b (List.mem_append_right _ (List.mem_of_getElem? (i := 838) (by decide +kernel))) (by decide +kernel))⟩
theorem gf_X10_39 : mh_gF RX10 39 10 13 2 := ⟨RX10, TX10, 67, cF_10, by decide, by decide, rfl, Or.inl (mh_b (List.mem_append_right _ (List.mem_of_getElem? (i := 839) (by decide +kernel))) (by decide +kernel))⟩
theorem gf_X10_42 : mh_gF RX10 42 10 14 2 := ⟨RX10, TX10, 67, cF_10, by decide, by decide, rfl, Or.inl (mh_b (List.mem_append_right _ (List.mem_of_getElem? (i := 840) (by decide +kernel))) (by decide +kernel))⟩
theorem gf_X10_45 : mh_gF RX10 45 10 15 2 := ⟨RX10, TX10, 67, cF_10, by decide, by decide, rfl, Or.inl (mh_b (List.mem_append_right _ (List.mem_of_getElem? (i := 841) (by decide +kernel))) (by decide +kernel))⟩
theorem gf_X10_48 : mh_gF RX10 48 10 16 2 := ⟨RX10, TX10, 67, cF_10, by decide, by decide, rfl, Or.inl (mh_b (List.mem_append_right _ (List.mem_of_getElem? (i := 842) (by decide +kernel))) (by decide +kernel))⟩
theorem gf_X10_51 : mh_gF RX10 51 10 17 2 := ⟨RX10, TX10, 67, cF_10, by decide, by decide, rfl, Or.inl (mh_b (List.mem_append_right _ (List.mem_of_getElem? (i := 843) (by decide +kernel))) (by decide +kernel))⟩
theorem gf_X10_54 : mh_gF RX10 54 10 18 2 := ⟨RX10, TX10, 67, cF_10, by decide, by decide, rfl, Or.inl (mh_b (List.mem_append_right _ (List.mem_of_getElem? (i := 844) (by decide +kernel))) (by decide +kernel))⟩
theorem gf_X10_57 : mh_gF RX10 57 10 19 2 := ⟨RX10, TX10, 67, cF_10, by decide, by decide, rfl, Or.inl (mh_b (List.mem_append_right _ (List.mem_of_getElem? (i := 845) (by decide +kernel))) (by decide +kernel))⟩
theorem gf_X10_60 : mh_gF RX10 60 10 20 2 := ⟨RX10, TX10, 67, cF_10, by decide, by decide, rfl, Or.inl (mh_b (List.mem_append_right _ (List.mem_of_getElem? (i := 846) (by decide +kernel))) (by decide +kernel))⟩
theorem gf_X10_63 : mh_gF RX10 63 10 21 2 := ⟨RX10, TX10, 67, cF_10, by decide, by decide, rfl, Or.inl (mh_b (List.mem_append_right _ (List.mem_of_getElem? (i := 847) (by decide +kernel))) (by decide +kernel))⟩
theorem gf_X10_66 : mh_gF RX10 66 10 22 2 := ⟨RX10, TX10, 67, cF_10, by decide, by decide, rfl, Or.inl (mh_b (List.mem_append_right _ (List.mem_of_getElem? (i := 848) (by decide +kernel))) (by decide +kernel))⟩
theorem gf_X10_188 : mh_gF RX10 188 10 23 0 := ⟨RX10, TX10, 67, cF_10, by decide, by decide, rfl, Or.inl (mh_b (List.mem_append_right _ (List.mem_of_getElem? (i := 849) (by decide +kernel))) (by decide +kernel))⟩
theorem pf_X10_188 : mh_pF RX10 188 10 23 0 .int := ⟨RX10, TX10, 67, cF_10, by decide, by decide, rfl, Or.inl (mh_b (List.mem_append_right _ (List.mem_of_getElem? (i := 849) (by decide +kernel))) (by decide +kernel)), rfl, by decide +kernel⟩
theorem gf_X10_191 : mh_gF RX10 191 10 24 0 := ⟨RX10, TX10, 67, cF_10, by decide, by decide, rfl, Or.inl (mh_b (List.mem_append_right _ (List.mem_of_getElem? (i := 850) (by decide +kernel))) (by decide +kernel))⟩
theorem pf_X10_191 : mh_pF RX10 191 10 24 0 .int := ⟨RX10, TX10, 67, cF_10, by decide, by decide, rfl, Or.inl (mh_b (List.mem_append_right _ (List.mem_of_getElem? (i := 850) (by decide +kernel))) (by decide +kernel)), rfl, by decide +kernel⟩
theorem gf_X10_194 : mh_gF RX10 194 10 25 0 := ⟨RX10, TX10, 67, cF_10, by decide, by decide, rfl, Or.inl (mh_b (List.mem_append_right _ (List.mem_of_getElem? (i := 851) (by decide +kernel))) (by decide +kernel))⟩
theorem pf_X10_194 : mh_pF RX10 194 10 25 0 .int := ⟨RX10, TX10, 67, cF_10, by decide, by decide, rfl, Or.inl (mh_b (List.mem_append_right _ (List.mem_of_getElem? (i := 851) (by decide +kernel))) (by decide +kernel)), rfl, by decide +kernel⟩
theorem gf_X10_287 : mh_gF RX10 287 10 26 0 := ⟨RX10, TX10, 67, cF_10, by decide, by decide, rfl, Or.inl (mh_b (List.mem_append_right _ (List.mem_of_getElem? (i := 852) (by decide +kernel))) (by decide +kernel))⟩
theorem pf_X10_287 : mh_pF RX10 287 10 26 0 .int := ⟨RX10, TX10, 67, cF_10, by decide, by decide, rfl, Or.inl (mh_b (List.mem_append_right _ (List.mem_of_getElem? (i := 852) (by decide +kernel))) (by decide +kernel)), rfl, by decide +kernel⟩
theorem gf_X10_201 : mh_gF RX10 201 10 27 0 := ⟨RX10, TX10, 67, cF_10, by decide, by decide, rfl, Or.inl (mh_b (List.mem_append_right _ (List.mem_of_getElem? (i := 853) (by decide +kernel))) (by decide +kernel))⟩
theorem pf_X10_201 : mh_pF RX10 201 10 27 0 .int := ⟨RX10, TX10, 67, cF_10, by decide, by decide, rfl, Or.inl (mh_b (List.mem_append_right _ (List.mem_of_getElem? (i := 853) (by decide +kernel))) (by decide +kernel)), rfl, by decide +kernel⟩
theorem gf_X10_207 : mh_gF RX10 207 10 28 0 := ⟨RX10, TX10, 67, cF_10, by decide, by decide, rfl, Or.inl (mh_b (List.mem_append_right _ (List.mem_of_getElem? (i := 854) (by decide +kernel))) (by decide +kernel))⟩
theorem pf_X10_207 : mh_pF RX10 207 10 28 0 .int := ⟨RX10, TX10, 67, cF_10, by decide, by decide, rfl, Or.inl (mh_b (List.mem_append_right _ (List.mem_of_getElem? (i := 854) (by decide +kernel))) (by decide +kernel)), rfl, by decide +kernel⟩
theorem gf_X10_204 : mh_gF RX10 204 10 29 0 := ⟨RX10, TX10, 67, cF_10, by decide, by decide, rfl, Or.inl (mh_b (List.mem_append_right _ (List.mem_of_getElem? (i := 855) (by decide +kernel))) (by decide +kernel))⟩
theorem pf_X10_204 : mh_pF RX10 204 10 29 0 .int := ⟨RX10, TX10, 67, cF_10, by decide, by decide, rfl, Or.inl (mh_b (List.mem_append_right _ (List.mem_of_getElem? (i := 855) (by decide +kernel))) (by decide +kernel)), rfl, by decide +kernel⟩
theorem gf_X10_275 : mh_gF RX10 275 10 30 0 := ⟨RX10, TX10, 67, cF_10, by decide, by decide, rfl, Or.inl (mh_b (List.mem_append_right _ (List.mem_of_getElem? (i := 856) (by decide +kernel))) (by decide +kernel))⟩
theorem pf_X10_275 : mh_pF RX10 275 10 30 0 .boolean := ⟨RX10, TX10, 67, cF_10, by decide, by decide, rfl, Or.inl (mh_b (List.mem_append_right _ (List.mem_of_getElem? (i := 856) (by decide +kernel))) (by decide +kernel)), rfl, by decide +kernel⟩
theorem gf_X10_253 : mh_gF RX10 253 10 31 0 := ⟨RX10, TX10, 67, cF_10, by decide, by decide, rfl, Or.inl (mh_b (List.mem_append_right _ (List.mem_of_getElem? (i := 857) (by decide +kernel))) (by decide +kernel))⟩
theorem pf_X10_253 : mh_pF RX10 253 10 31 0 .boolean := ⟨RX10, TX10, 67, cF_10, by decide, by decide, rfl, Or.inl (mh_b (List.mem_append_right _ (List.mem_of_getElem? (i := 857) (by decide +kernel))) (by decide +kernel)), rfl, by decide +kernel⟩
theorem gf_X10_69 : mh_gF RX10 69 10 32 2 := ⟨RX10, TX10, 67, cF_10, by decide, by decide, rfl, Or.inl (mh_b (List.mem_append_right _ (List.mem_of_getElem? (i := 858) (by decide +kernel))) (by decide +kernel))⟩
theorem gf_X10_304 : mh_gF RX10 304 10 33 0 := ⟨RX10, TX10, 67, cF_10, by decide, by decide, rfl, Or.inl (mh_b (List.mem_append_right _ (List.mem_of_getElem? (i := 859) (by decide +kernel))) (by decide +kernel))⟩
theorem pf_X10_304 : mh_pF RX10 304 10 33 0 .int := ⟨RX10, TX10, 67, cF_10, by decide, by decide, rfl, Or.inl (mh_b (List.mem_append_right _ (List.mem_of_getElem? (i := 859) (by decide +kernel))) (by decide +kernel)), rfl, by decide +kernel⟩
theorem gf_X10_314 : mh_gF RX10 314 10 34 0 := ⟨RX10, TX10, 67, cF_10, by decide, by decide, rfl, Or.inl (mh_b (List.mem_append_right _ (List.mem_of_getElem? (i := 860) (by decide +kernel))) (by decide +kernel))⟩
theorem pf_X10_314 : mh_pF RX10 314 10 34 0 .int := ⟨RX10, TX10, 67, cF_10, by decide, by decide, rfl, Or.inl (mh_b (List.mem_append_right _ (List.mem_of_getElem? (i := 860) (by decide +kernel))) (by decide +kernel)), rfl, by decide +kernel⟩
theorem gf_X10_317 : mh_gF RX10 317 10 35 0 := ⟨RX10, TX10, 67, cF_10, by decide, by decide, rfl, Or.inl (mh_b (List.mem_append_right _ (List.mem_of_getElem? (i := 861) (by decide +kernel))) (by decide +kernel))⟩
theorem pf_X10_317 : mh_pF RX10 317 10 35 0 .int := ⟨RX10, TX10, 67, cF_10, by decide, by decide, rfl, Or.inl (mh_b (List.mem_append_right _ (List.mem_of_getElem? (i := 861) (by decide +kernel))) (by decide +kernel)), rfl, by decide +kernel⟩
theorem gf_X10_320 : mh_gF RX10 320 10 36 0 := ⟨RX10, TX10, 67, cF_10, by decide, by decide, rfl, Or.inl (mh_b (List.mem_append_right _ (List.mem_of_getElem? (i := 862) (by decide +kernel))) (by decide +kernel))⟩
theorem pf_X10_320 : mh_pF RX10 320 10 36 0 .int := ⟨RX10, TX10, 67, cF_10, by decide, by decide, rfl, Or.inl (mh_b (List.mem_append_right _ (List.mem_of_getElem? (i := 862) (by decide +kernel))) (by decide +kernel)), rfl, by decide +kernel⟩
theorem gf_X10_323 : mh_gF RX10 323 10 37 0 := ⟨RX10, TX10, 67, cF_10, by decide, by decide, rfl, Or.inl (mh_b (List.mem_append_right _ (List.mem_of_getElem? (i := 863) (by decide +kernel))) (by decide +kernel))⟩
theorem pf_X10_323 : mh_pF RX10 323 10 37 0 .int := ⟨RX10, TX10, 67, cF_10, by decide, by decide, rfl, Or.inl (mh_b (List.mem_append_right _ (List.mem_of_getElem? (i := 863) (by decide +kernel))) (by decide +kernel)), rfl, by decide +kernel⟩
theorem gf_X10_72 : mh_gF RX10 72 10 38 2 := ⟨RX10, TX10, 67, cF_10, by decide, by decide, rfl, Or.inl (mh_b (List.mem_append_right _ (List.mem_of_getElem? (i := 864) (by decide +kernel))) (by decide +kernel))⟩
theorem gf_X10_75 : mh_gF RX10 75 10 39 2 := ⟨RX10, TX10, 67, cF_10, by decide, by decide, rfl, Or.inl (mh_b (List.mem_append_right _ (List.mem_of_getElem? (i := 865) (by decide +kernel))) (by decide +kernel))⟩
theorem gf_X10_79 : mh_gF RX10 79 10 40 2 := ⟨RX10, TX10, 67, cF_10, by decide, by decide, rfl, Or.inl (mh_b (List.mem_append_right _ (List.mem_of_getElem? (i := 866) (by decide +kernel))) (by decide +kernel))⟩
theorem gf_X10_82 : mh_gF RX10 82 10 41 2 := ⟨RX10, TX10, 67, cF_10, by decide, by decide, rfl, Or.inl (mh_b (List.mem_append_right _ (List.mem_of_getElem? (i := 867) (by decide +kernel))) (by decide +kernel))⟩
theorem gf_X10_85 : mh_gF RX10 85 10 42 2 := ⟨RX10, TX10, 67, cF_10, by decide, by decide, rfl, Or.inl (mh_b (List.mem_append_right _ (List.mem_of_getElem? (i := 868) (by decide +kernel))) (by decide +kernel))⟩
theorem gf_X10_88 : mh_gF RX10 88 10 43 2 := ⟨RX10, TX10, 67, cF_10, by decide, by decide, rfl, Or.inl (mh_b (List.mem_append_right _ (List.mem_of_getElem? (i := 869) (by decide +kernel))) (by decide +kernel))⟩
theorem gf_X10_91 : mh_gF RX10 91 10 44 2 := ⟨RX10, TX10, 67, cF_10, by decide, by decide, rfl, Or.inl (mh_b (List.mem_append_right _ (List.mem_of_getElem? (i := 870) (by decide +kernel))) (by decide +kernel))⟩
theorem gf_X10_94 : mh_gF RX10 94 10 45 2 := ⟨RX10, TX10, 67, cF_10, by decide, by decide, rfl, Or.inl (mh_b (List.mem_append_right _ (List.mem_of_getElem? (i := 871) (by decide +kernel))) (by decide +kernel))⟩
theorem gf_X10_97 : mh_gF RX10 97 10 46 2 := ⟨RX10, TX10, 67, cF_10, by decide, by decide, rfl, Or.inl (mh_b (List.mem_append_right _ (List.mem_of_getElem? (i := 872) (by decide +kernel))) (by decide +kernel))⟩
theorem gf_X10_100 : mh_gF RX10 100 10 47 2 := ⟨RX10, TX10, 67, cF_10, by decide, by decide, rfl, Or.inl (mh_b (List.mem_append_right _ (List.mem_of_getElem? (i := 873) (by decide +kernel))) (by decide +kernel))⟩
theorem gf_X10_103 : mh_gF RX10 103 10 48 2 := ⟨RX10, TX10, 67, cF_10, by decide, by decide, rfl, Or.inl (mh_b (List.mem_append_right _ (List.mem_of_getElem? (i := 874) (by decide +kernel))) (by decide +kernel))⟩
theorem gf_X10_106 : mh_gF RX10 106 10 49 2 := ⟨RX10, TX10, 67, cF_10, by decide, by decide, rfl, Or.inl (mh_b (List.mem_append_right _ (List.mem_of_getElem? (i := 875) (by decide +kernel))) (by decide +kernel))⟩
theorem gf_X10_110 : mh_gF RX10 110 10 50 2 := ⟨RX10, TX10, 67, cF_10, by decide, by decide, rfl, Or.inl (mh_b (List.mem_append_right _ (List.mem_of_getElem? (i := 876) (by decide +kernel))) (by decide +kernel))⟩
theorem gf_X10_113 : mh_gF RX10 113 10 51 2 := ⟨RX10, TX10, 67, cF_10, by decide, by decide, rfl, Or.inl (mh_b (List.mem_append_right _ (List.mem_of_getElem? (i := 877) (by decide +kernel))) (by decide +kernel))⟩
theorem gf_X10_116 : mh_gF RX10 116 10 52 2 := ⟨RX10, TX10, 67, cF_10, by decide, by decide, rfl, Or.inl (mh_b (List.mem_append_right _ (List.mem_of_getElem? (i := 878) (by decide +kernel))) (by decide +kernel))⟩
theorem gf_X10_119 : mh_gF RX10 119 10 53 2 := ⟨RX10, TX10, 67, cF_10, by decide, by decide, rfl, Or.inl (mh_b (List.mem_append_right _ (List.mem_of_getElem? (i := 879) (by decide +kernel))) (by decide +kernel))⟩
theorem gf_X10_122 : mh_gF RX10 122 10 54 2 := ⟨RX10, TX10, 67, cF_10, by decide, by decide, rfl, Or.inl (mh_b (List.mem_append_right _ (List.mem_of_getElem? (i := 880) (by decide +kernel))) (by decide +kernel))⟩
theorem gf_X10_125 : mh_gF RX10 125 10 55 2 := ⟨RX10, TX10, 67, cF_10, by decide, by decide, rfl, Or.inl (mh_b (List.mem_append_right _ (List.mem_of_getElem? (i := 881) (by decide +kernel))) (by decide +kernel))⟩
theorem gf_X10_128 : mh_gF RX10 128 10 56 2 := ⟨RX10, TX10, 67, cF_10, by decide, by decide, rfl, Or.inl (mh_b (List.mem_append_right _ (List.mem_of_getElem? (i := 882) (by decide +kernel))) (by decide +kernel))⟩
theorem gf_X10_131 : mh_gF RX10 131 10 57 2 := ⟨RX10, TX10, 67, cF_10, by decide, by decide, rfl, Or.inl (mh_b (List.mem_append_right _ (List.mem_of_getElem? (i := 883) (by decide +kernel))) (by decide +kernel))⟩
theorem gf_X10_432 : mh_gF RX10 432 10 58 0 := ⟨RX10, TX10, 67, cF_10, by decide, by decide, rfl, Or.inl (mh_b (List.mem_append_right _ (List.mem_of_getElem? (i := 884) (by decide +kernel))) (by decide +kernel))⟩
theorem pf_X10_432 : mh_pF RX10 432 10 58 0 .int := ⟨RX10, TX10, 67, cF_10, by decide, by decide, rfl, Or.inl (mh_b (List.mem_append_right _ (List.mem_of_getElem? (i := 884) (by decide +kernel))) (by decide +kernel)), rfl, by decide +kernel⟩
theorem gf_X10_134 : mh_gF RX10 134 10 59 2 := ⟨RX10, TX10, 67, cF_10, by decide, by decide, rfl, Or.inl (mh_b (List.mem_append_right _ (List.mem_of_getElem? (i := 885) (by decide +kernel))) (by decide +kernel))⟩
theorem gf_X10_137 : mh_gF RX10 137 10 60 2 := ⟨RX10, TX10, 67, cF_10, by decide, by decide, rfl, Or.inl (mh_b (List.mem_append_right _ (List.mem_of_getElem? (i := 886) (by decide +kernel))) (by decide +kernel))⟩
theorem gf_X10_140 : mh_gF RX10 140 10 61 2 := ⟨RX10, TX10, 67, cF_10, by decide, by decide, rfl, Or.inl (mh_b (List.mem_append_right _ (List.mem_of_getElem? (i := 887) (by decide +kernel))) (by decide +kernel))⟩
theorem gf_X10_143 : mh_gF RX10 143 10 62 2 := ⟨RX10, TX10, 67, cF_10, by decide, by decide, rfl, Or.inl (mh_b (List.mem_append_right _ (List.mem_of_getElem? (i := 888) (by decide +kernel))) (by decide +kernel))⟩
theorem gf_X10_146 : mh_gF RX10 146 10 63 2 := ⟨RX10, TX10, 67, cF_10, by decide, by decide, rfl, Or.inl (mh_b (List.mem_append_right _ (List.mem_of_getElem? (i := 889) (by decide +kernel))) (by decide +kernel))⟩
theorem gf_X10_462 : mh_gF RX10 462 10 64 0 := ⟨RX10, TX10, 67, cF_10, by decide, by decide, rfl, Or.inl (mh_b (List.mem_append_right _ (List.mem_of_getElem? (i := 890) (by decide +kernel))) (by decide +kernel))⟩
theorem pf_X10_462 : mh_pF RX10 462 10 64 0 .boolean := ⟨RX10, TX10, 67, cF_10, by decide, by decide, rfl, Or.inl (mh_b (List.mem_append_right _ (List.mem_of_getElem? (i := 890) (by decide +kernel))) (by decide +kernel)), rfl, by decide +kernel⟩
theorem gf_X10_465 : mh_gF RX10 465 10 65 0 := ⟨RX10, TX10, 67, cF_10, by decide, by decide, rfl, Or.inl (mh_b (List.mem_append_right _ (List.mem_of_getElem? (i := 891) (by decide +kernel))) (by decide +kernel))⟩
theorem pf_X10_465 : mh_pF RX10 465 10 65 0 .int := ⟨RX10, TX10, 67, cF_10, by decide, by decide, rfl, Or.inl (mh_b (List.mem_append_right _ (List.mem_of_getElem? (i := 891) (by decide +kernel))) (by decide +kernel)), rfl, by decide +kernel⟩
theorem gf_X10_149 : mh_gF RX10 149 10 66 2 := ⟨RX10, TX10, 67, cF_10, by decide, by decide, rfl, Or.inl (mh_b (List.mem_append_right _ (List.mem_of_getElem? (i := 892) (by decide +kernel))) (by decide +kernel))⟩
theorem gf_X9_101 : mh_gF RX9 101 8 0 2 := ⟨RX8, TX8, 8, cF_8, by decide, by decide, rfl, Or.inr ⟨"MistHands", mh_n (List.mem_append_right _ (List.mem_of_getElem? (i := 35) (by decide +kernel))) (by decide +kernel)⟩⟩
theorem gf_X1_63 : mh_gF RX1 63 8 0 2 := ⟨RX8, TX8, 8, cF_8, by decide, by decide, rfl, Or.inr ⟨"MistHands", mh_n (List.mem_append_right _ (List.mem_of_getElem? (i := 36) (by decide +kernel))) (by decide +kernel)⟩⟩
theorem gf_X9_104 : mh_gF RX9 104 8 1 2 := ⟨RX8, TX8, 8, cF_8, by decide, by decide, rfl, Or.inr ⟨"MistHands", mh_n (List.mem_append_right _ (List.mem_of_getElem? (i := 38) (by decide +kernel))) (by decide +kernel)⟩⟩
theorem gf_X1_68 : mh_gF RX1 68 8 1 2 := ⟨RX8, TX8, 8, cF_8, by decide, by decide, rfl, Or.inr ⟨"MistHands", mh_n (List.mem_append_right _ (List.mem_of_getElem? (i := 39) (by decide +kernel))) (by decide +kernel)⟩⟩
theorem gf_X0_46 : mh_gF RX0 46 8 2 2 := ⟨RX8, TX8, 8, cF_8, by decide, by decide, rfl, Or.inr ⟨"MistHands", mh_n (List.mem_append_right _ (List.mem_of_getElem? (i := 41) (by decide +kernel))) (by decide +kernel)⟩⟩
theorem gf_X9_107 : mh_gF RX9 107 8 2 2 := ⟨RX8, TX8, 8, cF_8, by decide, by decide, rfl, Or.inr ⟨"MistHands", mh_n (List.mem_append_right _ (List.mem_of_getElem? (i := 42) (by decide +kernel))) (by decide +kernel)⟩⟩
theorem gf_X1_78 : mh_gF RX1 78 8 2 2 := ⟨RX8, TX8, 8, cF_8, by decide, by decide, rfl, Or.inr ⟨"MistHands", mh_n (List.mem_append_right _ (List.mem_of_getElem? (i := 43) (by decide +kernel))) (by decide +kernel)⟩⟩
theorem gf_X9_110 : mh_gF RX9 110 8 3 2 := ⟨RX8, TX8, 8, cF_8, by decide, by decide, rfl, Or.inr ⟨"MistHands", mh_n (List.mem_append_right _ (List.mem_of_getElem? (i := 45) (by decide +kernel))) (by decide +kernel)⟩⟩
theorem gf_X0_53 : mh_gF RX0 53 8 3 2 := ⟨RX8, TX8, 8, cF_8, by decide, by decide, rfl, Or.inr ⟨"MistHands", mh_n (List.mem_append_right _ (List.mem_of_getElem? (i := 46) (by decide +kernel))) (by decide +kernel)⟩⟩
theorem gf_X1_81 : mh_gF RX1 81 8 3 2 := ⟨RX8, TX8, 8, cF_8, by decide, by decide, rfl, Or.inr ⟨"MistHands", mh_n (List.mem_append_right _ (List.mem_of_getElem? (i := 47) (by decide +kernel))) (by decide +kernel)⟩⟩
theorem gf_X9_113 : mh_gF RX9 113 8 4 2 := ⟨RX8, TX8, 8, cF_8, by decide, by decide, rfl, Or.inr ⟨"MistHands", mh_n (List.mem_append_right _ (List.mem_of_getElem? (i := 49) (by decide +kernel))) (by decide +kernel)⟩⟩
theorem gf_X0_32 : mh_gF RX0 32 8 5 0 := ⟨RX8, TX8, 8, cF_8, by decide, by decide, rfl, Or.inr ⟨"MistHands", mh_n (List.mem_append_right _ (List.mem_of_getElem? (i := 51) (by decide +kernel))) (by decide +kernel)⟩⟩
theorem pf_X0_32 : mh_pF RX0 32 8 5 0 .int := ⟨RX8, TX8, 8, cF_8, by decide, by decide, rfl, Or.inr ⟨"MistHands", mh_n (List.mem_append_right _ (List.mem_of_getElem? (i := 51) (by decide +kernel))) (by decide +kernel)⟩, rfl, by decide +kernel⟩
theorem gf_X1_71 : mh_gF RX1 71 8 5 0 := ⟨RX8, TX8, 8, cF_8, by decide, by decide, rfl, Or.inr ⟨"MistHands", mh_n (List.mem_append_right _ (List.mem_of_getElem? (i := 52) (by decide +kernel))) (by decide +kernel)⟩⟩
theorem pf_X1_71 : mh_pF RX1 71 8 5 0 .int := ⟨RX8, TX8, 8, cF_8, by decide, by decide, rfl, Or.inr ⟨"MistHands", mh_n (List.mem_append_right _ (List.mem_of_getElem? (i := 52) (by decide +kernel))) (by decide +kernel)⟩, rfl, by decide +kernel⟩
theorem gf_X9_176 : mh_gF RX9 176 8 5 0 := ⟨RX8, TX8, 8, cF_8, by decide, by decide, rfl, Or.inr ⟨"MistHands", mh_n (List.mem_append_right _ (List.mem_of_getElem? (i := 53) (by decide +kernel))) (by decide +kernel)⟩⟩
theorem pf_X9_176 : mh_pF RX9 176 8 5 0 .int := ⟨RX8, TX8, 8, cF_8, by decide, by decide, rfl, Or.inr ⟨"MistHands", mh_n (List.mem_append_right _ (List.mem_of_getElem? (i := 53) (by decide +kernel))) (by decide +kernel)⟩, rfl, by decide +kernel⟩
theorem gf_X0_67 : mh_gF RX0 67 8 6 0 := ⟨RX8, TX8, 8, cF_8, by decide, by decide, rfl, Or.inr ⟨"MistHands", mh_n (List.mem_append_right _ (List.mem_of_getElem? (i := 55) (by decide +kernel))) (by decide +kernel)⟩⟩
theorem pf_X0_67 : mh_pF RX0 67 8 6 0 .int := ⟨RX8, TX8, 8, cF_8, by decide, by decide, rfl, Or.inr ⟨"MistHands", mh_n (List.mem_append_right _ (List.mem_of_getElem? (i := 55) (by decide +kernel))) (by decide +kernel)⟩, rfl, by decide +kernel⟩
theorem gf_X9_132 : mh_gF RX9 132 8 6 0 := ⟨RX8, TX8, 8, cF_8, by decide, by decide, rfl, Or.inr ⟨"MistHands", mh_n (List.mem_append_right _ (List.mem_of_getElem? (i := 56) (by decide +kernel))) (by decide +kernel)⟩⟩
theorem pf_X9_132 : mh_pF RX9 132 8 6 0 .int := ⟨RX8, TX8, 8, cF_8, by decide, by decide, rfl, Or.inr ⟨"MistHands", mh_n (List.mem_append_right _ (List.mem_of_getElem? (i := 56) (by decide +kernel))) (by decide +kernel)⟩, rfl, by decide +kernel⟩
theorem gf_X9_295 : mh_gF RX9 295 8 7 0 := ⟨RX8, TX8, 8, cF_8, by decide, by decide, rfl, Or.inr ⟨"MistHands", mh_n (List.mem_append_right _ (List.mem_of_getElem? (i := 58) (by decide +kernel))) (by decide +kernel)⟩⟩
theorem pf_X9_295 : mh_pF RX9 295 8 7 0 .int := ⟨RX8, TX8, 8, cF_8, by decide, by decide, rfl, Or.inr ⟨"MistHands", mh_n (List.mem_append_right _ (List.mem_of_getElem? (i := 58) (by decide +kernel))) (by decide +kernel)⟩, rfl, by decide +kernel⟩
theorem gf_X9_163 : mh_gF RX9 163 6 0 0 := ⟨RX6, TX6, 3, cF_6, by decide, by decide, rfl, Or.inr ⟨"MistHands", mh_n (List.mem_append_right _ (List.mem_of_getElem? (i := 97) (by decide +kernel))) (by decide +kernel)⟩⟩
theorem pf_X9_163 : mh_pF RX9 163 6 0 0 .int := ⟨RX6, TX6, 3, cF_6, by decide, by decide, rfl, Or.inr ⟨"MistHands", mh_n (List.mem_append_right _ (List.mem_of_getElem? (i := 97) (by decide +kernel))) (by decide +kernel)⟩, rfl, by decide +kernel⟩
theorem gf_X9_173 : mh_gF RX9 173 6 1 0 := ⟨RX6, TX6, 3, cF_6, by decide, by decide, rfl, Or.inr ⟨"MistHands", mh_n (List.mem_append_right _ (List.mem_of_getElem? (i := 99) (by decide +kernel))) (by decide +kernel)⟩⟩
theorem pf_X9_173 : mh_pF RX9 173 6 1 0 .int := ⟨RX6, TX6, 3, cF_6, by decide, by decide, rfl, Or.inr ⟨"MistHands", mh_n (List.mem_append_right _ (List.mem_of_getElem? (i := 99) (by decide +kernel))) (by decide +kernel)⟩, rfl, by decide +kernel⟩
theorem gf_X9_166 : mh_gF RX9 166 6 2 0 := ⟨RX6, TX6, 3, cF_6, by decide, by decide, rfl, Or.inr ⟨"MistHands", mh_n (List.mem_append_right _ (List.mem_of_getElem? (i := 101) (by decide +kernel))) (by decide +kernel)⟩⟩
theorem pf_X9_166 : mh_pF RX9 166 6 2 0 .int := ⟨RX6, TX6, 3, cF_6, by decide, by decide, rfl, Or.inr ⟨"MistHands", mh_n (List.mem_append_right _ (List.mem_of_getElem? (i := 101) (by decide +kernel))) (by decide +kernel)⟩, rfl, by decide +kernel⟩
theorem gf_X9_201 : mh_gF RX9 201 5 0 2 := ⟨RX5, TX5, 6, cF_5, by decide, by decide, rfl, Or.inr ⟨"MistHands", mh_n (List.mem_append_right _ (List.mem_of_getElem? (i := 116) (by decide +kernel))) (by decide +kernel)⟩⟩
theorem gf_X9_204 : mh_gF RX9 204 5 1 2 := ⟨RX5, TX5, 6, cF_5, by decide, by decide, rfl, Or.inr ⟨"MistHands", mh_n (List.mem_append_right _ (List.mem_of_getElem? (i := 118) (by decide +kernel))) (by decide +kernel)⟩⟩
theorem gf_X9_207 : mh_gF RX9 207 5 2 2 := ⟨RX5, TX5, 6, cF_5, by decide, by decide, rfl, Or.inr ⟨"MistHands", mh_n (List.mem_append_right _ (List.mem_of_getElem? (i := 120) (by decide +kernel))) (by decide +kernel)⟩⟩
theorem gf_X9_227 : mh_gF RX9 227 5 3 2 := ⟨RX5, TX5, 6, cF_5, by decide, by decide, rfl, Or.inr ⟨"MistHands", mh_n (List.mem_append_right _ (List.mem_of_getElem? (i := 122) (by decide +kernel))) (by decide +kernel)⟩⟩
theorem gf_X9_210 : mh_gF RX9 210 5 5 0 := ⟨RX5, TX5, 6, cF_5, by decide, by decide, rfl, Or.inr ⟨"MistHands", mh_n (List.mem_append_right _ (List.mem_of_getElem? (i := 125) (by decide +kernel))) (by decide +kernel)⟩⟩
theorem pf_X9_210 : mh_pF RX9 210 5 5 0 .int := ⟨RX5, TX5, 6, cF_5, by decide, by decide, rfl, Or.inr ⟨"MistHands", mh_n (List.mem_append_right _ (List.mem_of_getElem? (i := 125) (by decide +kernel))) (by decide +kernel)⟩, rfl, by decide +kernel⟩
theorem gf_X9_237 : mh_gF RX9 237 3 0 2 := ⟨RX3, TX3, 6, cF_3, by decide, by decide, rfl, Or.inr ⟨"MistHands", mh_n (List.mem_append_right _ (List.mem_of_getElem? (i := 146) (by decide +kernel))) (by decide +kernel)⟩⟩
theorem gf_X9_240 : mh_gF RX9 240 3 1 2 := ⟨RX3, TX3, 6, cF_3, by decide, by decide, rfl, Or.inr ⟨"MistHands", mh_n (List.mem_append_right _ (List.mem_of_getElem? (i := 148) (by decide +kernel))) (by decide +kernel)⟩⟩
theorem gf_X9_243 : mh_gF RX9 243 3 2 2 := ⟨RX3, TX3, 6, cF_3, by decide, by decide, rfl, Or.inr ⟨"MistHands", mh_n (List.mem_append_right _ (List.mem_of_getElem? (i := 150) (by decide +kernel))) (by decide +kernel)⟩⟩
theorem gf_X9_246 : mh_gF RX9 246 3 3 2 := ⟨RX3, TX3, 6, cF_3, by decide, by decide, rfl, Or.inr ⟨"MistHands", mh_n (List.mem_append_right _ (List.mem_of_getElem? (i := 152) (by decide +kernel))) (by decide +kernel)⟩⟩
theorem gf_X9_249 : mh_gF RX9 249 3 4 2 := ⟨RX3, TX3, 6, cF_3, by decide, by decide, rfl, Or.inr ⟨"MistHands", mh_n (List.mem_append_right _ (List.mem_of_getElem? (i := 154) (by decide +kernel))) (by decide +kernel)⟩⟩
theorem gf_X9_236 : mh_gF RX9 236 3 5 0 := ⟨RX3, TX3, 6, cF_3, by decide, by decide, rfl, Or.inr ⟨"MistHands", mh_n (List.mem_append_right _ (List.mem_of_getElem? (i := 156) (by decide +kernel))) (by decide +kernel)⟩⟩
theorem pf_X9_236 : mh_pF RX9 236 3 5 0 .int := ⟨RX3, TX3, 6, cF_3, by decide, by decide, rfl, Or.inr ⟨"MistHands", mh_n (List.mem_append_right _ (List.mem_of_getElem? (i := 156) (by decide +kernel))) (by decide +kernel)⟩, rfl, by decide +kernel⟩
theorem gf_X9_80 : mh_gF RX9 80 7 0 2 := ⟨RX7, TX7, 2, cF_7, by decide, by decide, rfl, Or.inr ⟨"MistHands", mh_n (List.mem_append_right _ (List.mem_of_getElem? (i := 188) (by decide +kernel))) (by decide +kernel)⟩⟩
theorem gf_X9_116 : mh_gF RX9 116 7 1 0 := ⟨RX7, TX7, 2, cF_7, by decide, by decide, rfl, Or.inr ⟨"MistHands", mh_n (List.mem_append_right _ (List.mem_of_getElem? (i := 190) (by decide +kernel))) (by decide +kernel)⟩⟩
theorem pf_X9_116 : mh_pF RX9 116 7 1 0 .int := ⟨RX7, TX7, 2, cF_7, by decide, by decide, rfl, Or.inr ⟨"MistHands", mh_n (List.mem_append_right _ (List.mem_of_getElem? (i := 190) (by decide +kernel))) (by decide +kernel)⟩, rfl, by decide +kernel⟩
theorem gf_X4_44 : mh_gF RX4 44 1 7 0 := ⟨RX1, TX1, 11, cF_1, by decide, by decide, rfl, Or.inr ⟨"MistHands", mh_n (List.mem_append_right _ (List.mem_of_getElem? (i := 221) (by decide +kernel))) (by decide +kernel)⟩⟩
theorem pf_X4_44 : mh_pF RX4 44 1 7 0 .int := ⟨RX1, TX1, 11, cF_1, by decide, by decide, rfl, Or.inr ⟨"MistHands", mh_n (List.mem_append_right _ (List.mem_of_getElem? (i := 221) (by decide +kernel))) (by decide +kernel)⟩, rfl, by decide +kernel⟩
theorem gf_X9_304 : mh_gF RX9 304 1 7 0 := ⟨RX1, TX1, 11, cF_1, by decide, by decide, rfl, Or.inr ⟨"MistHands", mh_n (List.mem_append_right _ (List.mem_of_getElem? (i := 222) (by decide +kernel))) (by decide +kernel)⟩⟩
theorem pf_X9_304 : mh_pF RX9 304 1 7 0 .int := ⟨RX1, TX1, 11, cF_1, by decide, by decide, rfl, Or.inr ⟨"MistHands", mh_n (List.mem_append_right _ (List.mem_of_getElem? (i := 222) (by decide +kernel))) (by decide +kernel)⟩, rfl, by decide +kernel⟩
theorem gf_X4_66 : mh_gF RX4 66 1 8 0 := ⟨RX1, TX1, 11, cF_1, by decide, by decide, rfl, Or.inr ⟨"MistHands", mh_n (List.mem_append_right _ (List.mem_of_getElem? (i := 224) (by decide +kernel))) (by decide +kernel)⟩⟩
theorem pf_X4_66 : mh_pF RX4 66 1 8 0 .int := ⟨RX1, TX1, 11, cF_1, by decide, by decide, rfl, Or.inr ⟨"MistHands", mh_n (List.mem_append_right _ (List.mem_of_getElem? (i := 224) (by decide +kernel))) (by decide +kernel)⟩, rfl, by decide +kernel⟩
theorem gf_X0_18 : mh_gF RX0 18 1 9 0 := ⟨RX1, TX1, 11, cF_1, by decide, by decide, rfl, Or.inr ⟨"MistHands", mh_n (List.mem_append_right _ (List.mem_of_getElem? (i := 226) (by decide +kernel))) (by decide +kernel)⟩⟩
theorem pf_X0_18 : mh_pF RX0 18 1 9 0 .boolean := ⟨RX1, TX1, 11, cF_1, by decide, by decide, rfl, Or.inr ⟨"MistHands", mh_n (List.mem_append_right _ (List.mem_of_getElem? (i := 226) (by decide +kernel))) (by decide +kernel)⟩, rfl, by decide +kernel⟩
theorem gf_X4_112 : mh_gF RX4 112 1 10 0 := ⟨RX1, TX1, 11, cF_1, by decide, by decide, rfl, Or.inr ⟨"MistHands", mh_n (List.mem_append_right _ (List.mem_of_getElem? (i := 228) (by decide +kernel))) (by decide +kernel)⟩⟩
theorem pf_X4_112 : mh_pF RX4 112 1 10 0 .boolean := ⟨RX1, TX1, 11, cF_1, by decide, by decide, rfl, Or.inr ⟨"MistHands", mh_n (List.mem_append_right _ (List.mem_of_getElem? (i := 228) (by decide +kernel))) (by decide +kernel)⟩, rfl, by decide +kernel⟩
theorem ml_X1_29 : mh_lk RX1 29 mM_J0_length_8abf5 := Or.inl (mh_b (List.mem_append_right _ (List.mem_of_getElem? (i := 203) (by decide +kernel))) (by decide +kernel))
theorem ml_J0_335 : mh_lk RJ0 335 mM_J0_coder_7d493 := Or.inl (mh_b (List.mem_append_right _ (List.mem_of_getElem? (i := 207) (by decide +kernel))) (by decide +kernel))
theorem ml_L_13 : mh_lk RL 13 mM_X9_ground := Or.inl (mh_b (List.mem_append_right _ (List.mem_of_getElem? (i := 318) (by decide +kernel))) (by decide +kernel))
theorem ml_X9_94 : mh_lk RX9 94 mM_X9_isPlace := Or.inl (mh_b (List.mem_append_right _ (List.mem_of_getElem? (i := 322) (by decide +kernel))) (by decide +kernel))
theorem ml_X9_98 : mh_lk RX9 98 mM_X9_isWithin := Or.inl (mh_b (List.mem_append_right _ (List.mem_of_getElem? (i := 325) (by decide +kernel))) (by decide +kernel))
theorem ml_L_18 : mh_lk RL 18 mM_X9_air := Or.inl (mh_b (List.mem_append_right _ (List.mem_of_getElem? (i := 328) (by decide +kernel))) (by decide +kernel))
theorem ml_L_22 : mh_lk RL 22 mM_X9_wind := Or.inl (mh_b (List.mem_append_right _ (List.mem_of_getElem? (i := 332) (by decide +kernel))) (by decide +kernel))
theorem ml_L_27 : mh_lk RL 27 mM_X9_feed := Or.inl (mh_b (List.mem_append_right _ (List.mem_of_getElem? (i := 336) (by decide +kernel))) (by decide +kernel))
theorem ml_L_32 : mh_lk RL 32 mM_X9_law := Or.inl (mh_b (List.mem_append_right _ (List.mem_of_getElem? (i := 344) (by decide +kernel))) (by decide +kernel))
theorem ml_X4_29 : Cond.methodLink RX4 29 Lib.Math.min.name ∈ mh_base := mh_b (List.mem_append_right _ (List.mem_of_getElem? (i := 352) (by decide +kernel))) (by decide +kernel)
theorem ml_X4_40 : mh_lk RX4 40 mM_X4_readClause := Or.inl (mh_b (List.mem_append_right _ (List.mem_of_getElem? (i := 359) (by decide +kernel))) (by decide +kernel))
theorem ml_X4_51 : mh_lk RX4 51 mM_X4_sign := Or.inl (mh_b (List.mem_append_right _ (List.mem_of_getElem? (i := 363) (by decide +kernel))) (by decide +kernel))
theorem ml_X4_60 : mh_lk RX4 60 mM_J0_indexOf_0f7a4 := Or.inl (mh_b (List.mem_append_right _ (List.mem_of_getElem? (i := 368) (by decide +kernel))) (by decide +kernel))
theorem ml_J0_633 : mh_lk RJ0 633 mM_J0_indexOf_7cf53 := Or.inl (mh_b (List.mem_append_right _ (List.mem_of_getElem? (i := 372) (by decide +kernel))) (by decide +kernel))
theorem ml_J0_492 : mh_lk RJ0 492 mM_J0_isLatin1_aae02 := Or.inl (mh_b (List.mem_append_right _ (List.mem_of_getElem? (i := 376) (by decide +kernel))) (by decide +kernel))
theorem ml_J0_505 : mh_lk RJ0 505 mM_J0_length_8abf5 := Or.inl (mh_b (List.mem_append_right _ (List.mem_of_getElem? (i := 380) (by decide +kernel))) (by decide +kernel))
theorem ml_J0_637 : mh_lk RJ0 637 mM_J1_indexOf_4cfef := Or.inl (mh_b (List.mem_append_right _ (List.mem_of_getElem? (i := 381) (by decide +kernel))) (by decide +kernel))
theorem ml_J1_88 : mh_lk RJ1 88 mM_J1_canEncode_9a6ad := Or.inl (mh_b (List.mem_append_right _ (List.mem_of_getElem? (i := 384) (by decide +kernel))) (by decide +kernel))
theorem ml_J1_92 : Cond.methodLink RJ1 92 Lib.Math.max.name ∈ mh_base := mh_b (List.mem_append_right _ (List.mem_of_getElem? (i := 387) (by decide +kernel))) (by decide +kernel)
theorem ml_J1_38 : Cond.methodLink RJ1 38 Lib.Math.min.name ∈ mh_base := mh_b (List.mem_append_right _ (List.mem_of_getElem? (i := 390) (by decide +kernel))) (by decide +kernel)
theorem ml_J1_95 : mh_lk RJ1 95 mM_J1_indexOfChar_4cfef := Or.inl (mh_b (List.mem_append_right _ (List.mem_of_getElem? (i := 391) (by decide +kernel))) (by decide +kernel))
theorem ml_X4_55 : mh_lk RX4 55 mM_X4_fail := Or.inl (mh_b (List.mem_append_right _ (List.mem_of_getElem? (i := 443) (by decide +kernel))) (by decide +kernel))
theorem ml_X4_69 : mh_lk RX4 69 mM_X4_readSum := Or.inl (mh_b (List.mem_append_right _ (List.mem_of_getElem? (i := 447) (by decide +kernel))) (by decide +kernel))
theorem ml_X4_98 : mh_lk RX4 98 mM_X4_readTerm := Or.inl (mh_b (List.mem_append_right _ (List.mem_of_getElem? (i := 451) (by decide +kernel))) (by decide +kernel))
theorem ml_X4_101 : mh_lk RX4 101 mM_X4_readFactor := Or.inl (mh_b (List.mem_append_right _ (List.mem_of_getElem? (i := 455) (by decide +kernel))) (by decide +kernel))
theorem ml_X4_47 : mh_lk RX4 47 mM_X4_take := Or.inl (mh_b (List.mem_append_right _ (List.mem_of_getElem? (i := 459) (by decide +kernel))) (by decide +kernel))
theorem ml_X4_104 : mh_lk RX4 104 mM_X4_isDigit := Or.inl (mh_b (List.mem_append_right _ (List.mem_of_getElem? (i := 463) (by decide +kernel))) (by decide +kernel))
theorem ml_X4_107 : mh_lk RX4 107 mM_X4_readNumber := Or.inl (mh_b (List.mem_append_right _ (List.mem_of_getElem? (i := 466) (by decide +kernel))) (by decide +kernel))
theorem ml_X4_72 : mh_lk RX4 72 mM_X4_readChoice := Or.inl (mh_b (List.mem_append_right _ (List.mem_of_getElem? (i := 475) (by decide +kernel))) (by decide +kernel))
theorem ml_X4_79 : mh_lk RX4 79 mM_X4_readPart := Or.inl (mh_b (List.mem_append_right _ (List.mem_of_getElem? (i := 479) (by decide +kernel))) (by decide +kernel))
theorem ml_X4_89 : mh_lk RX4 89 mM_X4_readPiece := Or.inl (mh_b (List.mem_append_right _ (List.mem_of_getElem? (i := 483) (by decide +kernel))) (by decide +kernel))
theorem ml_X4_92 : mh_lk RX4 92 mM_X4_readCompared := Or.inl (mh_b (List.mem_append_right _ (List.mem_of_getElem? (i := 487) (by decide +kernel))) (by decide +kernel))
theorem ml_X1_55 : mh_lk RX1 55 mM_X1_put := Or.inl (mh_b (List.mem_append_right _ (List.mem_of_getElem? (i := 495) (by decide +kernel))) (by decide +kernel))
theorem ml_L_37 : mh_lk RL 37 mM_X9_steps := Or.inl (mh_b (List.mem_append_right _ (List.mem_of_getElem? (i := 505) (by decide +kernel))) (by decide +kernel))
theorem ml_X9_128 : mh_lk RX9 128 mM_X9_isNight := Or.inl (mh_b (List.mem_append_right _ (List.mem_of_getElem? (i := 509) (by decide +kernel))) (by decide +kernel))
theorem ml_X0_24 : mh_lk RX0 24 mM_X0_comeAndDry := Or.inl (mh_b (List.mem_append_right _ (List.mem_of_getElem? (i := 516) (by decide +kernel))) (by decide +kernel))
theorem ml_X1_104 : mh_lk RX1 104 mM_X1_run := Or.inl (mh_b (List.mem_append_right _ (List.mem_of_getElem? (i := 537) (by decide +kernel))) (by decide +kernel))
theorem ml_X1_114 : Cond.methodLink RX1 114 Lib.Math.max.name ∈ mh_base := mh_b (List.mem_append_right _ (List.mem_of_getElem? (i := 541) (by decide +kernel))) (by decide +kernel)
theorem ml_X1_119 : Cond.methodLink RX1 119 Lib.Math.min.name ∈ mh_base := mh_b (List.mem_append_right _ (List.mem_of_getElem? (i := 542) (by decide +kernel))) (by decide +kernel)
theorem ml_X1_122 : mh_lk RX1 122 mM_X1_combine := Or.inl (mh_b (List.mem_append_right _ (List.mem_of_getElem? (i := 543) (by decide +kernel))) (by decide +kernel))
theorem ml_X1_108 : mh_lk RX1 108 mM_X1_most := Or.inl (mh_b (List.mem_append_right _ (List.mem_of_getElem? (i := 546) (by decide +kernel))) (by decide +kernel))
theorem ml_X9_310 : Cond.methodLink RX9 310 Lib.Math.min.name ∈ mh_base := mh_b (List.mem_append_right _ (List.mem_of_getElem? (i := 552) (by decide +kernel))) (by decide +kernel)
theorem ml_X9_182 : Cond.methodLink RX9 182 Lib.Math.max.name ∈ mh_base := mh_b (List.mem_append_right _ (List.mem_of_getElem? (i := 553) (by decide +kernel))) (by decide +kernel)
theorem ml_X0_28 : mh_lk RX0 28 mM_X0_runDown := Or.inl (mh_b (List.mem_append_right _ (List.mem_of_getElem? (i := 555) (by decide +kernel))) (by decide +kernel))
theorem ml_X0_59 : mh_lk RX0 59 mM_X0_lowestBeside := Or.inl (mh_b (List.mem_append_right _ (List.mem_of_getElem? (i := 563) (by decide +kernel))) (by decide +kernel))
theorem ml_X0_62 : Cond.methodLink RX0 62 Lib.Math.min.name ∈ mh_base := mh_b (List.mem_append_right _ (List.mem_of_getElem? (i := 567) (by decide +kernel))) (by decide +kernel)
theorem ml_L_41 : mh_lk RL 41 mM_X9_cell := Or.inl (mh_b (List.mem_append_right _ (List.mem_of_getElem? (i := 568) (by decide +kernel))) (by decide +kernel))
theorem ml_X1_87 : mh_lk RX1 87 mM_X1_see := Or.inl (mh_b (List.mem_append_right _ (List.mem_of_getElem? (i := 576) (by decide +kernel))) (by decide +kernel))
theorem ml_X1_91 : mh_lk RX1 91 mM_X1_worth := Or.inl (mh_b (List.mem_append_right _ (List.mem_of_getElem? (i := 577) (by decide +kernel))) (by decide +kernel))
theorem ml_X1_94 : mh_lk RX1 94 mM_X1_mist := Or.inl (mh_b (List.mem_append_right _ (List.mem_of_getElem? (i := 582) (by decide +kernel))) (by decide +kernel))
theorem ml_X9_146 : mh_lk RX9 146 mM_X9_orNothing := Or.inl (mh_b (List.mem_append_right _ (List.mem_of_getElem? (i := 583) (by decide +kernel))) (by decide +kernel))
theorem ml_L_46 : mh_lk RL 46 mM_X9_sums := Or.inl (mh_b (List.mem_append_right _ (List.mem_of_getElem? (i := 591) (by decide +kernel))) (by decide +kernel))
theorem ml_X9_156 : mh_lk RX9 156 mM_X9_sumOf := Or.inl (mh_b (List.mem_append_right _ (List.mem_of_getElem? (i := 595) (by decide +kernel))) (by decide +kernel))
theorem ml_X6_27 : Cond.methodLink RX6 27 Lib.Math.max.name ∈ mh_base := mh_b (List.mem_append_right _ (List.mem_of_getElem? (i := 603) (by decide +kernel))) (by decide +kernel)
theorem ml_L_50 : mh_lk RL 50 mM_X9_night := Or.inl (mh_b (List.mem_append_right _ (List.mem_of_getElem? (i := 604) (by decide +kernel))) (by decide +kernel))
theorem ml_X8_37 : Cond.methodLink RX8 37 arraycopyName ∈ mh_base := mh_b (List.mem_append_right _ (List.mem_of_getElem? (i := 612) (by decide +kernel))) (by decide +kernel)
theorem ml_L_55 : mh_lk RL 55 mM_X9_sun := Or.inl (mh_b (List.mem_append_right _ (List.mem_of_getElem? (i := 615) (by decide +kernel))) (by decide +kernel))
theorem ml_L_60 : mh_lk RL 60 mM_X9_band := Or.inl (mh_b (List.mem_append_right _ (List.mem_of_getElem? (i := 619) (by decide +kernel))) (by decide +kernel))
theorem ml_X9_179 : mh_lk RX9 179 mM_X9_heightFreeOf := Or.inl (mh_b (List.mem_append_right _ (List.mem_of_getElem? (i := 623) (by decide +kernel))) (by decide +kernel))
theorem ml_L_64 : mh_lk RL 64 mM_X9_works := Or.inl (mh_b (List.mem_append_right _ (List.mem_of_getElem? (i := 627) (by decide +kernel))) (by decide +kernel))
theorem ml_X9_188 : mh_lk RX9 188 mM_X9_passTrial := Or.inl (mh_b (List.mem_append_right _ (List.mem_of_getElem? (i := 631) (by decide +kernel))) (by decide +kernel))
theorem ml_X9_192 : Cond.methodLink RX9 192 arraycopyName ∈ mh_base := mh_b (List.mem_append_right _ (List.mem_of_getElem? (i := 635) (by decide +kernel))) (by decide +kernel)
theorem ml_X9_198 : mh_lk RX9 198 mM_X9_tellWorks := Or.inl (mh_b (List.mem_append_right _ (List.mem_of_getElem? (i := 636) (by decide +kernel))) (by decide +kernel))
theorem ml_L_68 : mh_lk RL 68 mM_X9_dam := Or.inl (mh_b (List.mem_append_right _ (List.mem_of_getElem? (i := 640) (by decide +kernel))) (by decide +kernel))
theorem ml_L_72 : mh_lk RL 72 mM_X9_road := Or.inl (mh_b (List.mem_append_right _ (List.mem_of_getElem? (i := 644) (by decide +kernel))) (by decide +kernel))
theorem ml_L_77 : mh_lk RL 77 mM_X9_soonest := Or.inl (mh_b (List.mem_append_right _ (List.mem_of_getElem? (i := 648) (by decide +kernel))) (by decide +kernel))
theorem ml_X5_40 : mh_lk RX5 40 mM_J7_fill_53178 := Or.inl (mh_b (List.mem_append_right _ (List.mem_of_getElem? (i := 656) (by decide +kernel))) (by decide +kernel))
theorem ml_X5_31 : mh_lk RX5 31 mM_X5_isTold := Or.inl (mh_b (List.mem_append_right _ (List.mem_of_getElem? (i := 663) (by decide +kernel))) (by decide +kernel))
theorem ml_X5_46 : Cond.methodLink RX5 46 Lib.Math.min.name ∈ mh_base := mh_b (List.mem_append_right _ (List.mem_of_getElem? (i := 672) (by decide +kernel))) (by decide +kernel)
theorem ml_X5_52 : mh_lk RX5 52 mM_X5_isAt := Or.inl (mh_b (List.mem_append_right _ (List.mem_of_getElem? (i := 673) (by decide +kernel))) (by decide +kernel))
theorem ml_X5_56 : mh_lk RX5 56 mM_X5_goIn := Or.inl (mh_b (List.mem_append_right _ (List.mem_of_getElem? (i := 677) (by decide +kernel))) (by decide +kernel))
theorem ml_L_81 : mh_lk RL 81 mM_X9_edge := Or.inl (mh_b (List.mem_append_right _ (List.mem_of_getElem? (i := 682) (by decide +kernel))) (by decide +kernel))
theorem ml_X9_229 : Cond.methodLink RX9 229 Lib.Math.abs.name ∈ mh_base := mh_b (List.mem_append_right _ (List.mem_of_getElem? (i := 690) (by decide +kernel))) (by decide +kernel)
theorem ml_L_85 : mh_lk RL 85 mM_X9_was := Or.inl (mh_b (List.mem_append_right _ (List.mem_of_getElem? (i := 693) (by decide +kernel))) (by decide +kernel))
theorem ml_X9_232 : mh_lk RX9 232 mM_X9_isEvening := Or.inl (mh_b (List.mem_append_right _ (List.mem_of_getElem? (i := 697) (by decide +kernel))) (by decide +kernel))
theorem ml_L_89 : mh_lk RL 89 mM_X9_line := Or.inl (mh_b (List.mem_append_right _ (List.mem_of_getElem? (i := 700) (by decide +kernel))) (by decide +kernel))
theorem ml_X9_252 : mh_lk RX9 252 mM_X9_arePrices := Or.inl (mh_b (List.mem_append_right _ (List.mem_of_getElem? (i := 704) (by decide +kernel))) (by decide +kernel))
theorem ml_X3_42 : mh_lk RX3 42 mM_X3_lineCost := Or.inl (mh_b (List.mem_append_right _ (List.mem_of_getElem? (i := 712) (by decide +kernel))) (by decide +kernel))
theorem ml_X3_31 : mh_lk RX3 31 mM_X3_eveningNumber := Or.inl (mh_b (List.mem_append_right _ (List.mem_of_getElem? (i := 716) (by decide +kernel))) (by decide +kernel))
theorem ml_X3_35 : mh_lk RX3 35 mM_X3_cost := Or.inl (mh_b (List.mem_append_right _ (List.mem_of_getElem? (i := 720) (by decide +kernel))) (by decide +kernel))
theorem ml_L_93 : mh_lk RL 93 mM_X9_tells := Or.inl (mh_b (List.mem_append_right _ (List.mem_of_getElem? (i := 725) (by decide +kernel))) (by decide +kernel))
theorem ml_L_97 : mh_lk RL 97 mM_X9_held := Or.inl (mh_b (List.mem_append_right _ (List.mem_of_getElem? (i := 730) (by decide +kernel))) (by decide +kernel))
theorem ml_X1_98 : mh_lk RX1 98 mM_J7_fill_53178 := Or.inl (mh_b (List.mem_append_right _ (List.mem_of_getElem? (i := 738) (by decide +kernel))) (by decide +kernel))
theorem ml_L_101 : mh_lk RL 101 mM_X9_odds := Or.inl (mh_b (List.mem_append_right _ (List.mem_of_getElem? (i := 740) (by decide +kernel))) (by decide +kernel))
theorem ml_X3_46 : Cond.methodLink RX3 46 Lib.Math.abs.name ∈ mh_base := mh_b (List.mem_append_right _ (List.mem_of_getElem? (i := 748) (by decide +kernel))) (by decide +kernel)
theorem ml_X9_277 : mh_lk RX9 277 mM_X9_lowestTerm := Or.inl (mh_b (List.mem_append_right _ (List.mem_of_getElem? (i := 749) (by decide +kernel))) (by decide +kernel))
theorem ml_L_105 : mh_lk RL 105 mM_X9_when := Or.inl (mh_b (List.mem_append_right _ (List.mem_of_getElem? (i := 752) (by decide +kernel))) (by decide +kernel))
theorem ml_L_109 : mh_lk RL 109 mM_X9_lid := Or.inl (mh_b (List.mem_append_right _ (List.mem_of_getElem? (i := 760) (by decide +kernel))) (by decide +kernel))
theorem ml_X2_13 : mh_lk RX2 13 mM_J7_fill_d0a16 := Or.inl (mh_b (List.mem_append_right _ (List.mem_of_getElem? (i := 769) (by decide +kernel))) (by decide +kernel))
theorem ml_X2_19 : mh_lk RX2 19 mM_X2_push := Or.inl (mh_b (List.mem_append_right _ (List.mem_of_getElem? (i := 772) (by decide +kernel))) (by decide +kernel))
theorem ml_L_114 : mh_lk RL 114 mM_X9_seed := Or.inl (mh_b (List.mem_append_right _ (List.mem_of_getElem? (i := 780) (by decide +kernel))) (by decide +kernel))
theorem ml_L_119 : mh_lk RL 119 mM_X9_draw := Or.inl (mh_b (List.mem_append_right _ (List.mem_of_getElem? (i := 785) (by decide +kernel))) (by decide +kernel))
theorem ml_L_123 : mh_lk RL 123 mM_X9_keep := Or.inl (mh_b (List.mem_append_right _ (List.mem_of_getElem? (i := 794) (by decide +kernel))) (by decide +kernel))
theorem ml_L_128 : mh_lk RL 128 mM_X9_undo := Or.inl (mh_b (List.mem_append_right _ (List.mem_of_getElem? (i := 798) (by decide +kernel))) (by decide +kernel))
theorem ml_L_133 : mh_lk RL 133 mM_X9_check := Or.inl (mh_b (List.mem_append_right _ (List.mem_of_getElem? (i := 802) (by decide +kernel))) (by decide +kernel))
theorem ml_X7_23 : mh_lk RX7 23 mM_X7_sign := Or.inl (mh_b (List.mem_append_right _ (List.mem_of_getElem? (i := 810) (by decide +kernel))) (by decide +kernel))
theorem ml_L_137 : mh_lk RL 137 mM_X9_count := Or.inl (mh_b (List.mem_append_right _ (List.mem_of_getElem? (i := 815) (by decide +kernel))) (by decide +kernel))
theorem ml_L_17 : mh_lk RL 17 mM_X10_ground := Or.inl (mh_b (List.mem_append_right _ (List.mem_of_getElem? (i := 1029) (by decide +kernel))) (by decide +kernel))
theorem ml_X10_166 : mh_lk RX10 166 mM_X10_isCell := Or.inl (mh_b (List.mem_append_right _ (List.mem_of_getElem? (i := 1033) (by decide +kernel))) (by decide +kernel))
theorem ml_X10_158 : mh_lk RX10 158 mM_X10_isSide := Or.inl (mh_b (List.mem_append_right _ (List.mem_of_getElem? (i := 1036) (by decide +kernel))) (by decide +kernel))
theorem ml_X10_154 : mh_lk RX10 154 mM_X10_lies := Or.inl (mh_b (List.mem_append_right _ (List.mem_of_getElem? (i := 1040) (by decide +kernel))) (by decide +kernel))
theorem ml_X10_174 : mh_lk RX10 174 mM_X10_cellAt := Or.inl (mh_b (List.mem_append_right _ (List.mem_of_getElem? (i := 1045) (by decide +kernel))) (by decide +kernel))
theorem ml_L_21 : mh_lk RL 21 mM_X10_air := Or.inl (mh_b (List.mem_append_right _ (List.mem_of_getElem? (i := 1048) (by decide +kernel))) (by decide +kernel))
theorem ml_L_26 : mh_lk RL 26 mM_X10_wind := Or.inl (mh_b (List.mem_append_right _ (List.mem_of_getElem? (i := 1053) (by decide +kernel))) (by decide +kernel))
theorem ml_L_31 : mh_lk RL 31 mM_X10_feed := Or.inl (mh_b (List.mem_append_right _ (List.mem_of_getElem? (i := 1058) (by decide +kernel))) (by decide +kernel))
theorem ml_X10_184 : mh_lk RX10 184 mM_X10_push := Or.inl (mh_b (List.mem_append_right _ (List.mem_of_getElem? (i := 1062) (by decide +kernel))) (by decide +kernel))
theorem ml_L_36 : mh_lk RL 36 mM_X10_law := Or.inl (mh_b (List.mem_append_right _ (List.mem_of_getElem? (i := 1066) (by decide +kernel))) (by decide +kernel))
theorem ml_X10_197 : mh_lk RX10 197 mM_X10_isGood := Or.inl (mh_b (List.mem_append_right _ (List.mem_of_getElem? (i := 1071) (by decide +kernel))) (by decide +kernel))
theorem ml_X10_295 : mh_lk RX10 295 mM_X10_clause := Or.inl (mh_b (List.mem_append_right _ (List.mem_of_getElem? (i := 1075) (by decide +kernel))) (by decide +kernel))
theorem ml_X10_214 : mh_lk RX10 214 mM_X10_here := Or.inl (mh_b (List.mem_append_right _ (List.mem_of_getElem? (i := 1079) (by decide +kernel))) (by decide +kernel))
theorem ml_X10_284 : mh_lk RX10 284 mM_X10_isClause := Or.inl (mh_b (List.mem_append_right _ (List.mem_of_getElem? (i := 1083) (by decide +kernel))) (by decide +kernel))
theorem ml_X10_210 : mh_lk RX10 210 mM_X10_wrongs := Or.inl (mh_b (List.mem_append_right _ (List.mem_of_getElem? (i := 1086) (by decide +kernel))) (by decide +kernel))
theorem ml_X10_263 : mh_lk RX10 263 mM_X10_value := Or.inl (mh_b (List.mem_append_right _ (List.mem_of_getElem? (i := 1090) (by decide +kernel))) (by decide +kernel))
theorem ml_X10_257 : mh_lk RX10 257 mM_X10_factor := Or.inl (mh_b (List.mem_append_right _ (List.mem_of_getElem? (i := 1094) (by decide +kernel))) (by decide +kernel))
theorem ml_X10_240 : mh_lk RX10 240 mM_X10_opens := Or.inl (mh_b (List.mem_append_right _ (List.mem_of_getElem? (i := 1098) (by decide +kernel))) (by decide +kernel))
theorem ml_X10_218 : mh_lk RX10 218 mM_X10_puts := Or.inl (mh_b (List.mem_append_right _ (List.mem_of_getElem? (i := 1102) (by decide +kernel))) (by decide +kernel))
theorem ml_X10_225 : mh_lk RX10 225 mM_X10_seesDigit := Or.inl (mh_b (List.mem_append_right _ (List.mem_of_getElem? (i := 1106) (by decide +kernel))) (by decide +kernel))
theorem ml_X10_243 : mh_lk RX10 243 mM_X10_reads := Or.inl (mh_b (List.mem_append_right _ (List.mem_of_getElem? (i := 1112) (by decide +kernel))) (by decide +kernel))
theorem ml_X10_237 : mh_lk RX10 237 mM_X10_emit := Or.inl (mh_b (List.mem_append_right _ (List.mem_of_getElem? (i := 1116) (by decide +kernel))) (by decide +kernel))
theorem ml_X10_246 : mh_lk RX10 246 mM_X10_isValue := Or.inl (mh_b (List.mem_append_right _ (List.mem_of_getElem? (i := 1120) (by decide +kernel))) (by decide +kernel))
theorem ml_X10_260 : mh_lk RX10 260 mM_X10_stays := Or.inl (mh_b (List.mem_append_right _ (List.mem_of_getElem? (i := 1123) (by decide +kernel))) (by decide +kernel))
theorem ml_X10_231 : mh_lk RX10 231 mM_X10_isTimes := Or.inl (mh_b (List.mem_append_right _ (List.mem_of_getElem? (i := 1127) (by decide +kernel))) (by decide +kernel))
theorem ml_X10_234 : mh_lk RX10 234 mM_X10_isPlus := Or.inl (mh_b (List.mem_append_right _ (List.mem_of_getElem? (i := 1130) (by decide +kernel))) (by decide +kernel))
theorem ml_X10_249 : mh_lk RX10 249 mM_X10_folds := Or.inl (mh_b (List.mem_append_right _ (List.mem_of_getElem? (i := 1133) (by decide +kernel))) (by decide +kernel))
theorem ml_X10_228 : mh_lk RX10 228 mM_X10_top := Or.inl (mh_b (List.mem_append_right _ (List.mem_of_getElem? (i := 1137) (by decide +kernel))) (by decide +kernel))
theorem ml_X10_290 : mh_lk RX10 290 mM_X10_condition := Or.inl (mh_b (List.mem_append_right _ (List.mem_of_getElem? (i := 1141) (by decide +kernel))) (by decide +kernel))
theorem ml_X10_278 : mh_lk RX10 278 mM_X10_pieceOfC := Or.inl (mh_b (List.mem_append_right _ (List.mem_of_getElem? (i := 1145) (by decide +kernel))) (by decide +kernel))
theorem ml_X10_266 : mh_lk RX10 266 mM_X10_isSign := Or.inl (mh_b (List.mem_append_right _ (List.mem_of_getElem? (i := 1149) (by decide +kernel))) (by decide +kernel))
theorem ml_X10_269 : mh_lk RX10 269 mM_X10_ends := Or.inl (mh_b (List.mem_append_right _ (List.mem_of_getElem? (i := 1152) (by decide +kernel))) (by decide +kernel))
theorem ml_X10_281 : mh_lk RX10 281 mM_X10_goesBehind := Or.inl (mh_b (List.mem_append_right _ (List.mem_of_getElem? (i := 1156) (by decide +kernel))) (by decide +kernel))
theorem ml_X10_272 : mh_lk RX10 272 mM_X10_joins := Or.inl (mh_b (List.mem_append_right _ (List.mem_of_getElem? (i := 1160) (by decide +kernel))) (by decide +kernel))
theorem ml_L_40 : mh_lk RL 40 mM_X10_steps := Or.inl (mh_b (List.mem_append_right _ (List.mem_of_getElem? (i := 1164) (by decide +kernel))) (by decide +kernel))
theorem ml_X10_373 : mh_lk RX10 373 mM_X10_isNight := Or.inl (mh_b (List.mem_append_right _ (List.mem_of_getElem? (i := 1168) (by decide +kernel))) (by decide +kernel))
theorem ml_X10_376 : mh_lk RX10 376 mM_X10_stepOne := Or.inl (mh_b (List.mem_append_right _ (List.mem_of_getElem? (i := 1172) (by decide +kernel))) (by decide +kernel))
theorem ml_X10_365 : mh_lk RX10 365 mM_X10_cools := Or.inl (mh_b (List.mem_append_right _ (List.mem_of_getElem? (i := 1176) (by decide +kernel))) (by decide +kernel))
theorem ml_X10_345 : mh_lk RX10 345 mM_X10_byCell := Or.inl (mh_b (List.mem_append_right _ (List.mem_of_getElem? (i := 1180) (by decide +kernel))) (by decide +kernel))
theorem ml_X10_342 : mh_lk RX10 342 mM_X10_tellsBy := Or.inl (mh_b (List.mem_append_right _ (List.mem_of_getElem? (i := 1184) (by decide +kernel))) (by decide +kernel))
theorem ml_X10_339 : mh_lk RX10 339 mM_X10_goesThrough := Or.inl (mh_b (List.mem_append_right _ (List.mem_of_getElem? (i := 1188) (by decide +kernel))) (by decide +kernel))
theorem ml_X10_333 : mh_lk RX10 333 mM_X10_does := Or.inl (mh_b (List.mem_append_right _ (List.mem_of_getElem? (i := 1192) (by decide +kernel))) (by decide +kernel))
theorem ml_X10_329 : mh_lk RX10 329 mM_X10_worked := Or.inl (mh_b (List.mem_append_right _ (List.mem_of_getElem? (i := 1196) (by decide +kernel))) (by decide +kernel))
theorem ml_X10_336 : mh_lk RX10 336 mM_X10_valueOf := Or.inl (mh_b (List.mem_append_right _ (List.mem_of_getElem? (i := 1199) (by decide +kernel))) (by decide +kernel))
theorem ml_X10_326 : mh_lk RX10 326 mM_X10_ofCell := Or.inl (mh_b (List.mem_append_right _ (List.mem_of_getElem? (i := 1203) (by decide +kernel))) (by decide +kernel))
theorem ml_X10_307 : mh_lk RX10 307 mM_X10_windNow := Or.inl (mh_b (List.mem_append_right _ (List.mem_of_getElem? (i := 1207) (by decide +kernel))) (by decide +kernel))
theorem ml_X10_310 : mh_lk RX10 310 mM_X10_treesBeside := Or.inl (mh_b (List.mem_append_right _ (List.mem_of_getElem? (i := 1211) (by decide +kernel))) (by decide +kernel))
theorem ml_X10_162 : mh_lk RX10 162 mM_X10_beside := Or.inl (mh_b (List.mem_append_right _ (List.mem_of_getElem? (i := 1215) (by decide +kernel))) (by decide +kernel))
theorem ml_X10_352 : mh_lk RX10 352 mM_X10_bounded := Or.inl (mh_b (List.mem_append_right _ (List.mem_of_getElem? (i := 1218) (by decide +kernel))) (by decide +kernel))
theorem ml_X10_368 : mh_lk RX10 368 mM_X10_runsDown := Or.inl (mh_b (List.mem_append_right _ (List.mem_of_getElem? (i := 1221) (by decide +kernel))) (by decide +kernel))
theorem ml_X10_358 : mh_lk RX10 358 mM_X10_lowestBeside := Or.inl (mh_b (List.mem_append_right _ (List.mem_of_getElem? (i := 1225) (by decide +kernel))) (by decide +kernel))
theorem ml_X10_355 : mh_lk RX10 355 mM_X10_levelAt := Or.inl (mh_b (List.mem_append_right _ (List.mem_of_getElem? (i := 1229) (by decide +kernel))) (by decide +kernel))
theorem ml_L_45 : mh_lk RL 45 mM_X10_cell := Or.inl (mh_b (List.mem_append_right _ (List.mem_of_getElem? (i := 1233) (by decide +kernel))) (by decide +kernel))
theorem ml_X10_349 : mh_lk RX10 349 mM_X10_mistAt := Or.inl (mh_b (List.mem_append_right _ (List.mem_of_getElem? (i := 1237) (by decide +kernel))) (by decide +kernel))
theorem ml_X10_379 : mh_lk RX10 379 mM_X10_yardsAt := Or.inl (mh_b (List.mem_append_right _ (List.mem_of_getElem? (i := 1241) (by decide +kernel))) (by decide +kernel))
theorem ml_L_49 : mh_lk RL 49 mM_X10_sums := Or.inl (mh_b (List.mem_append_right _ (List.mem_of_getElem? (i := 1245) (by decide +kernel))) (by decide +kernel))
theorem ml_X10_382 : mh_lk RX10 382 mM_X10_misty := Or.inl (mh_b (List.mem_append_right _ (List.mem_of_getElem? (i := 1249) (by decide +kernel))) (by decide +kernel))
theorem ml_X10_385 : mh_lk RX10 385 mM_X10_highestTop := Or.inl (mh_b (List.mem_append_right _ (List.mem_of_getElem? (i := 1253) (by decide +kernel))) (by decide +kernel))
theorem ml_L_54 : mh_lk RL 54 mM_X10_night := Or.inl (mh_b (List.mem_append_right _ (List.mem_of_getElem? (i := 1257) (by decide +kernel))) (by decide +kernel))
theorem ml_X10_388 : mh_lk RX10 388 mM_X10_setsAside := Or.inl (mh_b (List.mem_append_right _ (List.mem_of_getElem? (i := 1261) (by decide +kernel))) (by decide +kernel))
theorem ml_X10_391 : mh_lk RX10 391 mM_X10_lowestMisty := Or.inl (mh_b (List.mem_append_right _ (List.mem_of_getElem? (i := 1265) (by decide +kernel))) (by decide +kernel))
theorem ml_X10_394 : mh_lk RX10 394 mM_X10_putsBack := Or.inl (mh_b (List.mem_append_right _ (List.mem_of_getElem? (i := 1269) (by decide +kernel))) (by decide +kernel))
theorem ml_L_59 : mh_lk RL 59 mM_X10_sun := Or.inl (mh_b (List.mem_append_right _ (List.mem_of_getElem? (i := 1273) (by decide +kernel))) (by decide +kernel))
theorem ml_L_63 : mh_lk RL 63 mM_X10_band := Or.inl (mh_b (List.mem_append_right _ (List.mem_of_getElem? (i := 1278) (by decide +kernel))) (by decide +kernel))
theorem ml_L_67 : mh_lk RL 67 mM_X10_works := Or.inl (mh_b (List.mem_append_right _ (List.mem_of_getElem? (i := 1282) (by decide +kernel))) (by decide +kernel))
theorem ml_X10_401 : mh_lk RX10 401 mM_X10_laysNight := Or.inl (mh_b (List.mem_append_right _ (List.mem_of_getElem? (i := 1287) (by decide +kernel))) (by decide +kernel))
theorem ml_L_71 : mh_lk RL 71 mM_X10_dam := Or.inl (mh_b (List.mem_append_right _ (List.mem_of_getElem? (i := 1291) (by decide +kernel))) (by decide +kernel))
theorem ml_L_76 : mh_lk RL 76 mM_X10_road := Or.inl (mh_b (List.mem_append_right _ (List.mem_of_getElem? (i := 1297) (by decide +kernel))) (by decide +kernel))
theorem ml_X10_410 : mh_lk RX10 410 mM_X10_isNode := Or.inl (mh_b (List.mem_append_right _ (List.mem_of_getElem? (i := 1302) (by decide +kernel))) (by decide +kernel))
theorem ml_L_80 : mh_lk RL 80 mM_X10_soonest := Or.inl (mh_b (List.mem_append_right _ (List.mem_of_getElem? (i := 1305) (by decide +kernel))) (by decide +kernel))
theorem ml_X10_416 : mh_lk RX10 416 mM_X10_laysYards := Or.inl (mh_b (List.mem_append_right _ (List.mem_of_getElem? (i := 1310) (by decide +kernel))) (by decide +kernel))
theorem ml_X10_419 : mh_lk RX10 419 mM_X10_arrives := Or.inl (mh_b (List.mem_append_right _ (List.mem_of_getElem? (i := 1314) (by decide +kernel))) (by decide +kernel))
theorem ml_X10_422 : mh_lk RX10 422 mM_X10_outOf := Or.inl (mh_b (List.mem_append_right _ (List.mem_of_getElem? (i := 1318) (by decide +kernel))) (by decide +kernel))
theorem ml_L_84 : mh_lk RL 84 mM_X10_edge := Or.inl (mh_b (List.mem_append_right _ (List.mem_of_getElem? (i := 1323) (by decide +kernel))) (by decide +kernel))
theorem ml_X10_427 : mh_lk RX10 427 mM_X10_meet := Or.inl (mh_b (List.mem_append_right _ (List.mem_of_getElem? (i := 1328) (by decide +kernel))) (by decide +kernel))
theorem ml_L_88 : mh_lk RL 88 mM_X10_was := Or.inl (mh_b (List.mem_append_right _ (List.mem_of_getElem? (i := 1332) (by decide +kernel))) (by decide +kernel))
theorem ml_L_92 : mh_lk RL 92 mM_X10_line := Or.inl (mh_b (List.mem_append_right _ (List.mem_of_getElem? (i := 1337) (by decide +kernel))) (by decide +kernel))
theorem ml_X10_438 : mh_lk RX10 438 mM_X10_isPrice := Or.inl (mh_b (List.mem_append_right _ (List.mem_of_getElem? (i := 1341) (by decide +kernel))) (by decide +kernel))
theorem ml_X10_441 : mh_lk RX10 441 mM_X10_bestLine := Or.inl (mh_b (List.mem_append_right _ (List.mem_of_getElem? (i := 1344) (by decide +kernel))) (by decide +kernel))
theorem ml_X10_435 : mh_lk RX10 435 mM_X10_costOf := Or.inl (mh_b (List.mem_append_right _ (List.mem_of_getElem? (i := 1348) (by decide +kernel))) (by decide +kernel))
theorem ml_L_96 : mh_lk RL 96 mM_X10_tells := Or.inl (mh_b (List.mem_append_right _ (List.mem_of_getElem? (i := 1352) (by decide +kernel))) (by decide +kernel))
theorem ml_L_100 : mh_lk RL 100 mM_X10_held := Or.inl (mh_b (List.mem_append_right _ (List.mem_of_getElem? (i := 1356) (by decide +kernel))) (by decide +kernel))
theorem ml_L_104 : mh_lk RL 104 mM_X10_odds := Or.inl (mh_b (List.mem_append_right _ (List.mem_of_getElem? (i := 1360) (by decide +kernel))) (by decide +kernel))
theorem ml_X10_444 : mh_lk RX10 444 mM_X10_isWithin := Or.inl (mh_b (List.mem_append_right _ (List.mem_of_getElem? (i := 1364) (by decide +kernel))) (by decide +kernel))
theorem ml_X10_448 : mh_lk RX10 448 mM_X10_divisor := Or.inl (mh_b (List.mem_append_right _ (List.mem_of_getElem? (i := 1367) (by decide +kernel))) (by decide +kernel))
theorem ml_L_108 : mh_lk RL 108 mM_X10_when := Or.inl (mh_b (List.mem_append_right _ (List.mem_of_getElem? (i := 1370) (by decide +kernel))) (by decide +kernel))
theorem ml_X10_452 : mh_lk RX10 452 mM_X10_costWhen := Or.inl (mh_b (List.mem_append_right _ (List.mem_of_getElem? (i := 1374) (by decide +kernel))) (by decide +kernel))
theorem ml_L_113 : mh_lk RL 113 mM_X10_lid := Or.inl (mh_b (List.mem_append_right _ (List.mem_of_getElem? (i := 1378) (by decide +kernel))) (by decide +kernel))
theorem ml_L_118 : mh_lk RL 118 mM_X10_seed := Or.inl (mh_b (List.mem_append_right _ (List.mem_of_getElem? (i := 1384) (by decide +kernel))) (by decide +kernel))
theorem ml_L_122 : mh_lk RL 122 mM_X10_draw := Or.inl (mh_b (List.mem_append_right _ (List.mem_of_getElem? (i := 1389) (by decide +kernel))) (by decide +kernel))
theorem ml_L_127 : mh_lk RL 127 mM_X10_keep := Or.inl (mh_b (List.mem_append_right _ (List.mem_of_getElem? (i := 1394) (by decide +kernel))) (by decide +kernel))
theorem ml_L_132 : mh_lk RL 132 mM_X10_undo := Or.inl (mh_b (List.mem_append_right _ (List.mem_of_getElem? (i := 1398) (by decide +kernel))) (by decide +kernel))
theorem ml_L_136 : mh_lk RL 136 mM_X10_check := Or.inl (mh_b (List.mem_append_right _ (List.mem_of_getElem? (i := 1402) (by decide +kernel))) (by decide +kernel))
theorem ml_X10_468 : mh_lk RX10 468 mM_X10_numberAt := Or.inl (mh_b (List.mem_append_right _ (List.mem_of_getElem? (i := 1406) (by decide +kernel))) (by decide +kernel))
theorem ml_L_140 : mh_lk RL 140 mM_X10_count := Or.inl (mh_b (List.mem_append_right _ (List.mem_of_getElem? (i := 1410) (by decide +kernel))) (by decide +kernel))
theorem ml_X10_475 : mh_lk RX10 475 mM_X10_roadsTold := Or.inl (mh_b (List.mem_append_right _ (List.mem_of_getElem? (i := 1416) (by decide +kernel))) (by decide +kernel))
theorem ml_X9_120 : mh_lk RX9 120 mM_X7_put := Or.inr ⟨"MistHands", mh_n (List.mem_append_right _ (List.mem_of_getElem? (i := 340) (by decide +kernel))) (by decide +kernel)⟩
theorem ml_X9_124 : mh_lk RX9 124 mM_X4_read := Or.inr ⟨"MistHands", mh_n (List.mem_append_right _ (List.mem_of_getElem? (i := 348) (by decide +kernel))) (by decide +kernel)⟩
theorem ml_X4_35 : mh_lk RX4 35 mM_X1_clear := Or.inr ⟨"MistHands", mh_n (List.mem_append_right _ (List.mem_of_getElem? (i := 355) (by decide +kernel))) (by decide +kernel)⟩
theorem ml_X4_95 : mh_lk RX4 95 mM_X1_put := Or.inr ⟨"MistHands", mh_n (List.mem_append_right _ (List.mem_of_getElem? (i := 470) (by decide +kernel))) (by decide +kernel)⟩
theorem ml_X4_82 : mh_lk RX4 82 mM_X1_putJump := Or.inr ⟨"MistHands", mh_n (List.mem_append_right _ (List.mem_of_getElem? (i := 491) (by decide +kernel))) (by decide +kernel)⟩
theorem ml_X4_85 : mh_lk RX4 85 mM_X1_land := Or.inr ⟨"MistHands", mh_n (List.mem_append_right _ (List.mem_of_getElem? (i := 496) (by decide +kernel))) (by decide +kernel)⟩
theorem ml_X1_59 : mh_lk RX1 59 mM_X9_isWithin := Or.inr ⟨"MistHands", mh_n (List.mem_append_right _ (List.mem_of_getElem? (i := 500) (by decide +kernel))) (by decide +kernel)⟩
theorem ml_X4_75 : mh_lk RX4 75 mM_X1_addClause := Or.inr ⟨"MistHands", mh_n (List.mem_append_right _ (List.mem_of_getElem? (i := 501) (by decide +kernel))) (by decide +kernel)⟩
theorem ml_X9_135 : mh_lk RX9 135 mM_X0_pass := Or.inr ⟨"MistHands", mh_n (List.mem_append_right _ (List.mem_of_getElem? (i := 512) (by decide +kernel))) (by decide +kernel)⟩
theorem ml_X0_38 : mh_lk RX0 38 mM_X1_see := Or.inr ⟨"MistHands", mh_n (List.mem_append_right _ (List.mem_of_getElem? (i := 520) (by decide +kernel))) (by decide +kernel)⟩
theorem ml_X1_74 : mh_lk RX1 74 mM_X8_windOf := Or.inr ⟨"MistHands", mh_n (List.mem_append_right _ (List.mem_of_getElem? (i := 524) (by decide +kernel))) (by decide +kernel)⟩
theorem ml_X8_43 : mh_lk RX8 43 mM_X9_isWithin := Or.inr ⟨"MistHands", mh_n (List.mem_append_right _ (List.mem_of_getElem? (i := 528) (by decide +kernel))) (by decide +kernel)⟩
theorem ml_X1_84 : mh_lk RX1 84 mM_X8_treesBeside := Or.inr ⟨"MistHands", mh_n (List.mem_append_right _ (List.mem_of_getElem? (i := 529) (by decide +kernel))) (by decide +kernel)⟩
theorem ml_X0_42 : mh_lk RX0 42 mM_X1_worth := Or.inr ⟨"MistHands", mh_n (List.mem_append_right _ (List.mem_of_getElem? (i := 533) (by decide +kernel))) (by decide +kernel)⟩
theorem ml_X1_111 : mh_lk RX1 111 mM_X9_bounded := Or.inr ⟨"MistHands", mh_n (List.mem_append_right _ (List.mem_of_getElem? (i := 549) (by decide +kernel))) (by decide +kernel)⟩
theorem ml_X0_49 : mh_lk RX0 49 mM_X9_bounded := Or.inr ⟨"MistHands", mh_n (List.mem_append_right _ (List.mem_of_getElem? (i := 554) (by decide +kernel))) (by decide +kernel)⟩
theorem ml_X0_56 : mh_lk RX0 56 mM_X8_level := Or.inr ⟨"MistHands", mh_n (List.mem_append_right _ (List.mem_of_getElem? (i := 559) (by decide +kernel))) (by decide +kernel)⟩
theorem ml_X9_139 : mh_lk RX9 139 mM_X1_mist := Or.inr ⟨"MistHands", mh_n (List.mem_append_right _ (List.mem_of_getElem? (i := 572) (by decide +kernel))) (by decide +kernel)⟩
theorem ml_X9_143 : mh_lk RX9 143 mM_X1_top := Or.inr ⟨"MistHands", mh_n (List.mem_append_right _ (List.mem_of_getElem? (i := 578) (by decide +kernel))) (by decide +kernel)⟩
theorem ml_X9_150 : mh_lk RX9 150 mM_X1_yards := Or.inr ⟨"MistHands", mh_n (List.mem_append_right _ (List.mem_of_getElem? (i := 586) (by decide +kernel))) (by decide +kernel)⟩
theorem ml_X9_153 : mh_lk RX9 153 mM_X8_level := Or.inr ⟨"MistHands", mh_n (List.mem_append_right _ (List.mem_of_getElem? (i := 590) (by decide +kernel))) (by decide +kernel)⟩
theorem ml_X9_160 : mh_lk RX9 160 mM_X6_look := Or.inr ⟨"MistHands", mh_n (List.mem_append_right _ (List.mem_of_getElem? (i := 598) (by decide +kernel))) (by decide +kernel)⟩
theorem ml_X6_21 : mh_lk RX6 21 mM_X1_top := Or.inr ⟨"MistHands", mh_n (List.mem_append_right _ (List.mem_of_getElem? (i := 602) (by decide +kernel))) (by decide +kernel)⟩
theorem ml_X9_169 : mh_lk RX9 169 mM_X8_copyFrom := Or.inr ⟨"MistHands", mh_n (List.mem_append_right _ (List.mem_of_getElem? (i := 608) (by decide +kernel))) (by decide +kernel)⟩
theorem ml_X9_213 : mh_lk RX9 213 mM_X5_leave := Or.inr ⟨"MistHands", mh_n (List.mem_append_right _ (List.mem_of_getElem? (i := 652) (by decide +kernel))) (by decide +kernel)⟩
theorem ml_X9_216 : mh_lk RX9 216 mM_X5_look := Or.inr ⟨"MistHands", mh_n (List.mem_append_right _ (List.mem_of_getElem? (i := 659) (by decide +kernel))) (by decide +kernel)⟩
theorem ml_X5_35 : mh_lk RX5 35 mM_X1_yards := Or.inr ⟨"MistHands", mh_n (List.mem_append_right _ (List.mem_of_getElem? (i := 667) (by decide +kernel))) (by decide +kernel)⟩
theorem ml_X9_217 : mh_lk RX9 217 mM_X5_go := Or.inr ⟨"MistHands", mh_n (List.mem_append_right _ (List.mem_of_getElem? (i := 668) (by decide +kernel))) (by decide +kernel)⟩
theorem ml_X9_221 : mh_lk RX9 221 mM_X5_isAt := Or.inr ⟨"MistHands", mh_n (List.mem_append_right _ (List.mem_of_getElem? (i := 681) (by decide +kernel))) (by decide +kernel)⟩
theorem ml_X9_224 : mh_lk RX9 224 mM_X5_meet := Or.inr ⟨"MistHands", mh_n (List.mem_append_right _ (List.mem_of_getElem? (i := 686) (by decide +kernel))) (by decide +kernel)⟩
theorem ml_X9_255 : mh_lk RX9 255 mM_X3_bestLine := Or.inr ⟨"MistHands", mh_n (List.mem_append_right _ (List.mem_of_getElem? (i := 707) (by decide +kernel))) (by decide +kernel)⟩
theorem ml_X9_259 : mh_lk RX9 259 mM_X3_lineCost := Or.inr ⟨"MistHands", mh_n (List.mem_append_right _ (List.mem_of_getElem? (i := 724) (by decide +kernel))) (by decide +kernel)⟩
theorem ml_X9_266 : mh_lk RX9 266 mM_X1_saysMist := Or.inr ⟨"MistHands", mh_n (List.mem_append_right _ (List.mem_of_getElem? (i := 734) (by decide +kernel))) (by decide +kernel)⟩
theorem ml_X9_269 : mh_lk RX9 269 mM_X3_cost := Or.inr ⟨"MistHands", mh_n (List.mem_append_right _ (List.mem_of_getElem? (i := 739) (by decide +kernel))) (by decide +kernel)⟩
theorem ml_X9_273 : mh_lk RX9 273 mM_X3_isAlike := Or.inr ⟨"MistHands", mh_n (List.mem_append_right _ (List.mem_of_getElem? (i := 744) (by decide +kernel))) (by decide +kernel)⟩
theorem ml_X9_281 : mh_lk RX9 281 mM_X3_sendCost := Or.inr ⟨"MistHands", mh_n (List.mem_append_right _ (List.mem_of_getElem? (i := 756) (by decide +kernel))) (by decide +kernel)⟩
theorem ml_X9_286 : mh_lk RX9 286 mM_X2_breaking := Or.inr ⟨"MistHands", mh_n (List.mem_append_right _ (List.mem_of_getElem? (i := 765) (by decide +kernel))) (by decide +kernel)⟩
theorem ml_X9_290 : mh_lk RX9 290 mM_X2_all := Or.inr ⟨"MistHands", mh_n (List.mem_append_right _ (List.mem_of_getElem? (i := 776) (by decide +kernel))) (by decide +kernel)⟩
theorem ml_X9_298 : mh_lk RX9 298 mM_X8_drawWind := Or.inr ⟨"MistHands", mh_n (List.mem_append_right _ (List.mem_of_getElem? (i := 789) (by decide +kernel))) (by decide +kernel)⟩
theorem ml_X9_301 : mh_lk RX9 301 mM_X7_number := Or.inr ⟨"MistHands", mh_n (List.mem_append_right _ (List.mem_of_getElem? (i := 806) (by decide +kernel))) (by decide +kernel)⟩
theorem ml_X7_17 : mh_lk RX7 17 mM_X9_isWithin := Or.inr ⟨"MistHands", mh_n (List.mem_append_right _ (List.mem_of_getElem? (i := 814) (by decide +kernel))) (by decide +kernel)⟩
theorem ml_X9_307 : mh_lk RX9 307 mM_X8_windOf := Or.inr ⟨"MistHands", mh_n (List.mem_append_right _ (List.mem_of_getElem? (i := 819) (by decide +kernel))) (by decide +kernel)⟩
theorem sf_9 : Cond.fieldLink RJ0 9 "java/lang/String" "value" "[B" ∈ mh_base := mh_b (List.mem_append_right _ (List.mem_of_getElem? (i := 1420) (by decide +kernel))) (by decide +kernel)
theorem sf_15 : Cond.fieldLink RJ0 15 "java/lang/String" "coder" "B" ∈ mh_base := mh_b (List.mem_append_right _ (List.mem_of_getElem? (i := 1421) (by decide +kernel))) (by decide +kernel)
theorem sf_38 : Cond.fieldLink RJ0 38 "java/lang/String" "COMPACT_STRINGS" "Z" ∈ mh_base := mh_b (List.mem_append_right _ (List.mem_of_getElem? (i := 211) (by decide +kernel))) (by decide +kernel)
theorem ck_X3_41 : Cond.constant RX3 41 2147483647 ∈ mh_base := mh_b (List.mem_append_right _ (List.mem_of_getElem? (i := 711) (by decide +kernel))) (by decide +kernel)
theorem ck_X9_265 : Cond.constant RX9 265 2147483647 ∈ mh_base := mh_b (List.mem_append_right _ (List.mem_of_getElem? (i := 729) (by decide +kernel))) (by decide +kernel)
theorem ck_X9_294 : Cond.constant RX9 294 65535 ∈ mh_base := mh_b (List.mem_append_right _ (List.mem_of_getElem? (i := 784) (by decide +kernel))) (by decide +kernel)
theorem ck_X8_47 : Cond.constant RX8 47 65536 ∈ mh_base := mh_b (List.mem_append_right _ (List.mem_of_getElem? (i := 793) (by decide +kernel))) (by decide +kernel)
theorem ck_X10_413 : Cond.constant RX10 413 1000000000 ∈ mh_base := mh_b (List.mem_append_right _ (List.mem_of_getElem? (i := 1322) (by decide +kernel))) (by decide +kernel)
theorem ck_X10_461 : Cond.constant RX10 461 65536 ∈ mh_base := mh_b (List.mem_append_right _ (List.mem_of_getElem? (i := 1393) (by decide +kernel))) (by decide +kernel)
theorem ck_X9_284 : Cond.constantLong RX9 284 (-1) ∈ mh_base := mh_b (List.mem_append_right _ (List.mem_of_getElem? (i := 764) (by decide +kernel))) (by decide +kernel)
theorem ck_X10_152 : Cond.constantLong RX10 152 (11) ∈ mh_base := mh_b (List.mem_append_right _ (List.mem_of_getElem? (i := 1039) (by decide +kernel))) (by decide +kernel)
theorem ck_X10_170 : Cond.constantLong RX10 170 (99) ∈ mh_base := mh_b (List.mem_append_right _ (List.mem_of_getElem? (i := 1043) (by decide +kernel))) (by decide +kernel)
theorem ck_X10_172 : Cond.constantLong RX10 172 (4) ∈ mh_base := mh_b (List.mem_append_right _ (List.mem_of_getElem? (i := 1044) (by decide +kernel))) (by decide +kernel)
theorem ck_X10_177 : Cond.constantLong RX10 177 (9999) ∈ mh_base := mh_b (List.mem_append_right _ (List.mem_of_getElem? (i := 1052) (by decide +kernel))) (by decide +kernel)
theorem ck_X10_179 : Cond.constantLong RX10 179 (9) ∈ mh_base := mh_b (List.mem_append_right _ (List.mem_of_getElem? (i := 1057) (by decide +kernel))) (by decide +kernel)
theorem ck_X10_293 : Cond.constantLong RX10 293 (200) ∈ mh_base := mh_b (List.mem_append_right _ (List.mem_of_getElem? (i := 1070) (by decide +kernel))) (by decide +kernel)
theorem ck_X10_221 : Cond.constantLong RX10 221 (48) ∈ mh_base := mh_b (List.mem_append_right _ (List.mem_of_getElem? (i := 1110) (by decide +kernel))) (by decide +kernel)
theorem ck_X10_223 : Cond.constantLong RX10 223 (57) ∈ mh_base := mh_b (List.mem_append_right _ (List.mem_of_getElem? (i := 1111) (by decide +kernel))) (by decide +kernel)
theorem ck_X10_371 : Cond.constantLong RX10 371 (60) ∈ mh_base := mh_b (List.mem_append_right _ (List.mem_of_getElem? (i := 1171) (by decide +kernel))) (by decide +kernel)
theorem ck_X10_397 : Cond.constantLong RX10 397 (198) ∈ mh_base := mh_b (List.mem_append_right _ (List.mem_of_getElem? (i := 1277) (by decide +kernel))) (by decide +kernel)
theorem ck_X10_399 : Cond.constantLong RX10 399 (3) ∈ mh_base := mh_b (List.mem_append_right _ (List.mem_of_getElem? (i := 1286) (by decide +kernel))) (by decide +kernel)
theorem ck_X10_404 : Cond.constantLong RX10 404 (143) ∈ mh_base := mh_b (List.mem_append_right _ (List.mem_of_getElem? (i := 1295) (by decide +kernel))) (by decide +kernel)
theorem ck_X10_406 : Cond.constantLong RX10 406 (20) ∈ mh_base := mh_b (List.mem_append_right _ (List.mem_of_getElem? (i := 1296) (by decide +kernel))) (by decide +kernel)
theorem ck_X10_408 : Cond.constantLong RX10 408 (19) ∈ mh_base := mh_b (List.mem_append_right _ (List.mem_of_getElem? (i := 1301) (by decide +kernel))) (by decide +kernel)
theorem ck_X10_414 : Cond.constantLong RX10 414 (299) ∈ mh_base := mh_b (List.mem_append_right _ (List.mem_of_getElem? (i := 1309) (by decide +kernel))) (by decide +kernel)
theorem ck_X10_425 : Cond.constantLong RX10 425 (2) ∈ mh_base := mh_b (List.mem_append_right _ (List.mem_of_getElem? (i := 1327) (by decide +kernel))) (by decide +kernel)
theorem ck_X10_430 : Cond.constantLong RX10 430 (999) ∈ mh_base := mh_b (List.mem_append_right _ (List.mem_of_getElem? (i := 1336) (by decide +kernel))) (by decide +kernel)
theorem ck_X10_455 : Cond.constantLong RX10 455 (12) ∈ mh_base := mh_b (List.mem_append_right _ (List.mem_of_getElem? (i := 1382) (by decide +kernel))) (by decide +kernel)
theorem ck_X10_457 : Cond.constantLong RX10 457 (-1) ∈ mh_base := mh_b (List.mem_append_right _ (List.mem_of_getElem? (i := 1383) (by decide +kernel))) (by decide +kernel)
theorem ck_X10_459 : Cond.constantLong RX10 459 (65535) ∈ mh_base := mh_b (List.mem_append_right _ (List.mem_of_getElem? (i := 1388) (by decide +kernel))) (by decide +kernel)
theorem ck_X10_471 : Cond.constantLong RX10 471 (100) ∈ mh_base := mh_b (List.mem_append_right _ (List.mem_of_getElem? (i := 1414) (by decide +kernel))) (by decide +kernel)
theorem ck_X10_473 : Cond.constantLong RX10 473 (199) ∈ mh_base := mh_b (List.mem_append_right _ (List.mem_of_getElem? (i := 1415) (by decide +kernel))) (by decide +kernel)
