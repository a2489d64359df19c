theorem w_327 : Cond.methodLink RL (13) yX10_stone ∈ aT := aT_m (tm_2_5 mq_7) gw_methodLink
theorem w_328 : Cond.instanceMethod yX10_stone ∈ aT := aT_m (tm_2_5 mq_8) gw_instanceMethod
theorem w_329 : Cond.selects RX10 yX10_stone yX10_stone ∈ aT := aT_m (tm_2_5 mq_9) gw_selects
theorem w_330 : Cond.code yX10_stone cX10_stone 4 (some .int) ∈ aT := aT_m (tm_2_5 mq_10) gw_code
theorem yc_L_13 : aYV RL 13 yX10_stone cX10_stone 4 (some .int) 3 := ⟨w_327, w_328, w_329, w_1, w_330, yk_RX10.1, yk_RX10.2, yd_24⟩
theorem w_1157 : Cond.methodLink RL (17) yX11_stone ∈ aT := aT_m (tm_5_12 mq_5) gw_methodLink
theorem w_1158 : Cond.instanceMethod yX11_stone ∈ aT := aT_m (tm_5_12 mq_6) gw_instanceMethod
theorem w_1159 : Cond.selects RX11 yX11_stone yX11_stone ∈ aT := aT_m (tm_5_12 mq_7) gw_selects
theorem w_1160 : Cond.code yX11_stone cX11_stone 5 (some .int) ∈ aT := aT_m (tm_5_12 mq_8) gw_code
theorem yc_L_17 : aYV RL 17 yX11_stone cX11_stone 5 (some .int) 3 := ⟨w_1157, w_1158, w_1159, w_11, w_1160, yk_RX11.1, yk_RX11.2, yd_24⟩
theorem w_358 : Cond.methodLink RL (18) yX10_tell ∈ aT := aT_m (tm_2_7 mq_6) gw_methodLink
theorem w_359 : Cond.instanceMethod yX10_tell ∈ aT := aT_m (tm_2_7 mq_7) gw_instanceMethod
theorem w_360 : Cond.selects RX10 yX10_tell yX10_tell ∈ aT := aT_m (tm_2_7 mq_8) gw_selects
theorem w_361 : Cond.code yX10_tell cX10_tell 4 (some .boolean) ∈ aT := aT_m (tm_2_7 mq_9) gw_code
theorem yc_L_18 : aYV RL 18 yX10_tell cX10_tell 4 (some .boolean) 3 := ⟨w_358, w_359, w_360, w_1, w_361, yk_RX10.1, yk_RX10.2, yd_7⟩
theorem w_1168 : Cond.methodLink RL (22) yX11_tell ∈ aT := aT_m (tm_5_13 mq_0) gw_methodLink
theorem w_1169 : Cond.instanceMethod yX11_tell ∈ aT := aT_m (tm_5_13 mq_1) gw_instanceMethod
theorem w_1170 : Cond.selects RX11 yX11_tell yX11_tell ∈ aT := aT_m (tm_5_13 mq_2) gw_selects
theorem w_1171 : Cond.code yX11_tell cX11_tell 4 (some .boolean) ∈ aT := aT_m (tm_5_13 mq_3) gw_code
theorem yc_L_22 : aYV RL 22 yX11_tell cX11_tell 4 (some .boolean) 3 := ⟨w_1168, w_1169, w_1170, w_11, w_1171, yk_RX11.1, yk_RX11.2, yd_7⟩
theorem w_370 : Cond.methodLink RL (23) yX10_day ∈ aT := aT_m (tm_2_8 mq_2) gw_methodLink
theorem w_371 : Cond.instanceMethod yX10_day ∈ aT := aT_m (tm_2_8 mq_3) gw_instanceMethod
theorem w_372 : Cond.selects RX10 yX10_day yX10_day ∈ aT := aT_m (tm_2_8 mq_4) gw_selects
theorem w_373 : Cond.code yX10_day cX10_day 2 (some .boolean) ∈ aT := aT_m (tm_2_8 mq_5) gw_code
theorem yc_L_23 : aYV RL 23 yX10_day cX10_day 2 (some .boolean) 1 := ⟨w_370, w_371, w_372, w_1, w_373, yk_RX10.1, yk_RX10.2, yd_8⟩
theorem w_1180 : Cond.methodLink RL (27) yX11_day ∈ aT := aT_m (tm_5_13 mq_12) gw_methodLink
theorem w_1181 : Cond.instanceMethod yX11_day ∈ aT := aT_m (tm_5_13 mq_13) gw_instanceMethod
theorem w_1182 : Cond.selects RX11 yX11_day yX11_day ∈ aT := aT_m (tm_5_13 mq_14) gw_selects
theorem w_1183 : Cond.code yX11_day cX11_day 2 (some .boolean) ∈ aT := aT_m (tm_5_13 mq_15) gw_code
theorem yc_L_27 : aYV RL 27 yX11_day cX11_day 2 (some .boolean) 1 := ⟨w_1180, w_1181, w_1182, w_11, w_1183, yk_RX11.1, yk_RX11.2, yd_8⟩
theorem w_378 : Cond.methodLink RL (28) yX10_view ∈ aT := aT_m (tm_2_8 mq_10) gw_methodLink
theorem w_379 : Cond.instanceMethod yX10_view ∈ aT := aT_m (tm_2_8 mq_11) gw_instanceMethod
theorem w_380 : Cond.selects RX10 yX10_view yX10_view ∈ aT := aT_m (tm_2_8 mq_12) gw_selects
theorem w_381 : Cond.code yX10_view cX10_view 2 (some .boolean) ∈ aT := aT_m (tm_2_8 mq_13) gw_code
theorem yc_L_28 : aYV RL 28 yX10_view cX10_view 2 (some .boolean) 1 := ⟨w_378, w_379, w_380, w_1, w_381, yk_RX10.1, yk_RX10.2, yd_8⟩
theorem w_1184 : Cond.methodLink RL (31) yX11_view ∈ aT := aT_m (tm_5_14 mq_0) gw_methodLink
theorem w_1185 : Cond.instanceMethod yX11_view ∈ aT := aT_m (tm_5_14 mq_1) gw_instanceMethod
theorem w_1186 : Cond.selects RX11 yX11_view yX11_view ∈ aT := aT_m (tm_5_14 mq_2) gw_selects
theorem w_1187 : Cond.code yX11_view cX11_view 2 (some .boolean) ∈ aT := aT_m (tm_5_14 mq_3) gw_code
theorem yc_L_31 : aYV RL 31 yX11_view cX11_view 2 (some .boolean) 1 := ⟨w_1184, w_1185, w_1186, w_11, w_1187, yk_RX11.1, yk_RX11.2, yd_8⟩
theorem w_386 : Cond.methodLink RL (32) yX10_fact ∈ aT := aT_m (tm_2_9 mq_2) gw_methodLink
theorem w_387 : Cond.instanceMethod yX10_fact ∈ aT := aT_m (tm_2_9 mq_3) gw_instanceMethod
theorem w_388 : Cond.selects RX10 yX10_fact yX10_fact ∈ aT := aT_m (tm_2_9 mq_4) gw_selects
theorem w_389 : Cond.code yX10_fact cX10_fact 3 (some .int) ∈ aT := aT_m (tm_2_9 mq_5) gw_code
theorem yc_L_32 : aYV RL 32 yX10_fact cX10_fact 3 (some .int) 2 := ⟨w_386, w_387, w_388, w_1, w_389, yk_RX10.1, yk_RX10.2, yd_16⟩
theorem w_1188 : Cond.methodLink RL (36) yX11_fact ∈ aT := aT_m (tm_5_14 mq_4) gw_methodLink
theorem w_1189 : Cond.instanceMethod yX11_fact ∈ aT := aT_m (tm_5_14 mq_5) gw_instanceMethod
theorem w_1190 : Cond.selects RX11 yX11_fact yX11_fact ∈ aT := aT_m (tm_5_14 mq_6) gw_selects
theorem w_1191 : Cond.code yX11_fact cX11_fact 3 (some .int) ∈ aT := aT_m (tm_5_14 mq_7) gw_code
theorem yc_L_36 : aYV RL 36 yX11_fact cX11_fact 3 (some .int) 2 := ⟨w_1188, w_1189, w_1190, w_11, w_1191, yk_RX11.1, yk_RX11.2, yd_16⟩
theorem w_395 : Cond.methodLink RL (37) yX10_entry ∈ aT := aT_m (tm_2_9 mq_11) gw_methodLink
theorem w_396 : Cond.instanceMethod yX10_entry ∈ aT := aT_m (tm_2_9 mq_12) gw_instanceMethod
theorem w_397 : Cond.selects RX10 yX10_entry yX10_entry ∈ aT := aT_m (tm_2_9 mq_13) gw_selects
theorem w_398 : Cond.code yX10_entry cX10_entry 3 (some .int) ∈ aT := aT_m (tm_2_9 mq_14) gw_code
theorem yc_L_37 : aYV RL 37 yX10_entry cX10_entry 3 (some .int) 2 := ⟨w_395, w_396, w_397, w_1, w_398, yk_RX10.1, yk_RX10.2, yd_16⟩
theorem w_1201 : Cond.methodLink RL (40) yX11_entry ∈ aT := aT_m (tm_6_0 mq_1) gw_methodLink
theorem w_1202 : Cond.instanceMethod yX11_entry ∈ aT := aT_m (tm_6_0 mq_2) gw_instanceMethod
theorem w_1203 : Cond.selects RX11 yX11_entry yX11_entry ∈ aT := aT_m (tm_6_0 mq_3) gw_selects
theorem w_1204 : Cond.code yX11_entry cX11_entry 3 (some .int) ∈ aT := aT_m (tm_6_0 mq_4) gw_code
theorem yc_L_40 : aYV RL 40 yX11_entry cX11_entry 3 (some .int) 2 := ⟨w_1201, w_1202, w_1203, w_11, w_1204, yk_RX11.1, yk_RX11.2, yd_16⟩
theorem w_403 : Cond.methodLink RL (41) yX10_feed ∈ aT := aT_m (tm_2_10 mq_3) gw_methodLink
theorem w_404 : Cond.instanceMethod yX10_feed ∈ aT := aT_m (tm_2_10 mq_4) gw_instanceMethod
theorem w_405 : Cond.selects RX10 yX10_feed yX10_feed ∈ aT := aT_m (tm_2_10 mq_5) gw_selects
theorem w_406 : Cond.code yX10_feed cX10_feed 7 (some .int) ∈ aT := aT_m (tm_2_10 mq_6) gw_code
theorem yc_L_41 : aYV RL 41 yX10_feed cX10_feed 7 (some .int) 5 := ⟨w_403, w_404, w_405, w_1, w_406, yk_RX10.1, yk_RX10.2, yd_52⟩
theorem w_1205 : Cond.methodLink RL (45) yX11_feed ∈ aT := aT_m (tm_6_0 mq_5) gw_methodLink
theorem w_1206 : Cond.instanceMethod yX11_feed ∈ aT := aT_m (tm_6_0 mq_6) gw_instanceMethod
theorem w_1207 : Cond.selects RX11 yX11_feed yX11_feed ∈ aT := aT_m (tm_6_0 mq_7) gw_selects
theorem w_1208 : Cond.code yX11_feed cX11_feed 6 (some .int) ∈ aT := aT_m (tm_6_0 mq_8) gw_code
theorem yc_L_45 : aYV RL 45 yX11_feed cX11_feed 6 (some .int) 5 := ⟨w_1205, w_1206, w_1207, w_11, w_1208, yk_RX11.1, yk_RX11.2, yd_52⟩
theorem w_415 : Cond.methodLink RL (46) yX10_end ∈ aT := aT_m (tm_2_10 mq_15) gw_methodLink
theorem w_416 : Cond.instanceMethod yX10_end ∈ aT := aT_m (tm_2_11 mq_0) gw_instanceMethod
theorem w_417 : Cond.selects RX10 yX10_end yX10_end ∈ aT := aT_m (tm_2_11 mq_1) gw_selects
theorem w_418 : Cond.code yX10_end cX10_end 2 (some .int) ∈ aT := aT_m (tm_2_11 mq_2) gw_code
theorem yc_L_46 : aYV RL 46 yX10_end cX10_end 2 (some .int) 1 := ⟨w_415, w_416, w_417, w_1, w_418, yk_RX10.1, yk_RX10.2, yd_18⟩
theorem w_1213 : Cond.methodLink RL (50) yX11_end ∈ aT := aT_m (tm_6_0 mq_13) gw_methodLink
theorem w_1214 : Cond.instanceMethod yX11_end ∈ aT := aT_m (tm_6_0 mq_14) gw_instanceMethod
theorem w_1215 : Cond.selects RX11 yX11_end yX11_end ∈ aT := aT_m (tm_6_0 mq_15) gw_selects
theorem w_1216 : Cond.code yX11_end cX11_end 2 (some .int) ∈ aT := aT_m (tm_6_1 mq_0) gw_code
theorem yc_L_50 : aYV RL 50 yX11_end cX11_end 2 (some .int) 1 := ⟨w_1213, w_1214, w_1215, w_11, w_1216, yk_RX11.1, yk_RX11.2, yd_18⟩
theorem w_423 : Cond.methodLink RL (51) yX10_text ∈ aT := aT_m (tm_2_11 mq_7) gw_methodLink
theorem w_424 : Cond.instanceMethod yX10_text ∈ aT := aT_m (tm_2_11 mq_8) gw_instanceMethod
theorem w_425 : Cond.selects RX10 yX10_text yX10_text ∈ aT := aT_m (tm_2_11 mq_9) gw_selects
theorem w_426 : Cond.code yX10_text cX10_text 4 (some .int) ∈ aT := aT_m (tm_2_11 mq_10) gw_code
theorem yc_L_51 : aYV RL 51 yX10_text cX10_text 4 (some .int) 1 := ⟨w_423, w_424, w_425, w_1, w_426, yk_RX10.1, yk_RX10.2, yd_31⟩
theorem w_1217 : Cond.methodLink RL (55) yX11_text ∈ aT := aT_m (tm_6_1 mq_1) gw_methodLink
theorem w_1218 : Cond.instanceMethod yX11_text ∈ aT := aT_m (tm_6_1 mq_2) gw_instanceMethod
theorem w_1219 : Cond.selects RX11 yX11_text yX11_text ∈ aT := aT_m (tm_6_1 mq_3) gw_selects
theorem w_1220 : Cond.code yX11_text cX11_text 6 (some .int) ∈ aT := aT_m (tm_6_1 mq_4) gw_code
theorem yc_L_55 : aYV RL 55 yX11_text cX11_text 6 (some .int) 1 := ⟨w_1217, w_1218, w_1219, w_11, w_1220, yk_RX11.1, yk_RX11.2, yd_31⟩
theorem w_576 : Cond.methodLink RL (56) yX10_fault ∈ aT := aT_m (tm_3_6 mq_0) gw_methodLink
theorem w_577 : Cond.instanceMethod yX10_fault ∈ aT := aT_m (tm_3_6 mq_1) gw_instanceMethod
theorem w_578 : Cond.selects RX10 yX10_fault yX10_fault ∈ aT := aT_m (tm_3_6 mq_2) gw_selects
theorem w_579 : Cond.code yX10_fault cX10_fault 2 (some .int) ∈ aT := aT_m (tm_3_6 mq_3) gw_code
theorem yc_L_56 : aYV RL 56 yX10_fault cX10_fault 2 (some .int) 1 := ⟨w_576, w_577, w_578, w_1, w_579, yk_RX10.1, yk_RX10.2, yd_18⟩
theorem w_1295 : Cond.methodLink RL (59) yX11_fault ∈ aT := aT_m (tm_6_5 mq_15) gw_methodLink
theorem w_1296 : Cond.instanceMethod yX11_fault ∈ aT := aT_m (tm_6_6 mq_0) gw_instanceMethod
theorem w_1297 : Cond.selects RX11 yX11_fault yX11_fault ∈ aT := aT_m (tm_6_6 mq_1) gw_selects
theorem w_1298 : Cond.code yX11_fault cX11_fault 2 (some .int) ∈ aT := aT_m (tm_6_6 mq_2) gw_code
theorem yc_L_59 : aYV RL 59 yX11_fault cX11_fault 2 (some .int) 1 := ⟨w_1295, w_1296, w_1297, w_11, w_1298, yk_RX11.1, yk_RX11.2, yd_18⟩
theorem w_580 : Cond.methodLink RL (60) yX10_choose ∈ aT := aT_m (tm_3_6 mq_4) gw_methodLink
theorem w_581 : Cond.instanceMethod yX10_choose ∈ aT := aT_m (tm_3_6 mq_5) gw_instanceMethod
theorem w_582 : Cond.selects RX10 yX10_choose yX10_choose ∈ aT := aT_m (tm_3_6 mq_6) gw_selects
theorem w_583 : Cond.code yX10_choose cX10_choose 6 (some .boolean) ∈ aT := aT_m (tm_3_6 mq_7) gw_code
theorem yc_L_60 : aYV RL 60 yX10_choose cX10_choose 6 (some .boolean) 5 := ⟨w_580, w_581, w_582, w_1, w_583, yk_RX10.1, yk_RX10.2, yd_13⟩
theorem w_1299 : Cond.methodLink RL (64) yX11_choose ∈ aT := aT_m (tm_6_6 mq_3) gw_methodLink
theorem w_1300 : Cond.instanceMethod yX11_choose ∈ aT := aT_m (tm_6_6 mq_4) gw_instanceMethod
theorem w_1301 : Cond.selects RX11 yX11_choose yX11_choose ∈ aT := aT_m (tm_6_6 mq_5) gw_selects
theorem w_1302 : Cond.code yX11_choose cX11_choose 6 (some .boolean) ∈ aT := aT_m (tm_6_6 mq_6) gw_code
theorem yc_L_64 : aYV RL 64 yX11_choose cX11_choose 6 (some .boolean) 5 := ⟨w_1299, w_1300, w_1301, w_11, w_1302, yk_RX11.1, yk_RX11.2, yd_13⟩
theorem w_588 : Cond.methodLink RL (65) yX10_span ∈ aT := aT_m (tm_3_6 mq_12) gw_methodLink
theorem w_589 : Cond.instanceMethod yX10_span ∈ aT := aT_m (tm_3_6 mq_13) gw_instanceMethod
theorem w_590 : Cond.selects RX10 yX10_span yX10_span ∈ aT := aT_m (tm_3_6 mq_14) gw_selects
theorem w_591 : Cond.code yX10_span cX10_span 3 (some .int) ∈ aT := aT_m (tm_3_6 mq_15) gw_code
theorem yc_L_65 : aYV RL 65 yX10_span cX10_span 3 (some .int) 2 := ⟨w_588, w_589, w_590, w_1, w_591, yk_RX10.1, yk_RX10.2, yd_16⟩
theorem w_1303 : Cond.methodLink RL (68) yX11_span ∈ aT := aT_m (tm_6_6 mq_7) gw_methodLink
theorem w_1304 : Cond.instanceMethod yX11_span ∈ aT := aT_m (tm_6_6 mq_8) gw_instanceMethod
theorem w_1305 : Cond.selects RX11 yX11_span yX11_span ∈ aT := aT_m (tm_6_6 mq_9) gw_selects
theorem w_1306 : Cond.code yX11_span cX11_span 3 (some .int) ∈ aT := aT_m (tm_6_6 mq_10) gw_code
theorem yc_L_68 : aYV RL 68 yX11_span cX11_span 3 (some .int) 2 := ⟨w_1303, w_1304, w_1305, w_11, w_1306, yk_RX11.1, yk_RX11.2, yd_16⟩
theorem w_645 : Cond.methodLink RL (69) yX10_by ∈ aT := aT_m (tm_3_10 mq_5) gw_methodLink
theorem w_646 : Cond.instanceMethod yX10_by ∈ aT := aT_m (tm_3_10 mq_6) gw_instanceMethod
theorem w_647 : Cond.selects RX10 yX10_by yX10_by ∈ aT := aT_m (tm_3_10 mq_7) gw_selects
theorem w_648 : Cond.code yX10_by cX10_by 4 (some .int) ∈ aT := aT_m (tm_3_10 mq_8) gw_code
theorem yc_L_69 : aYV RL 69 yX10_by cX10_by 4 (some .int) 3 := ⟨w_645, w_646, w_647, w_1, w_648, yk_RX10.1, yk_RX10.2, yd_24⟩
theorem w_1330 : Cond.methodLink RL (72) yX11_by ∈ aT := aT_m (tm_6_8 mq_2) gw_methodLink
theorem w_1331 : Cond.instanceMethod yX11_by ∈ aT := aT_m (tm_6_8 mq_3) gw_instanceMethod
theorem w_1332 : Cond.selects RX11 yX11_by yX11_by ∈ aT := aT_m (tm_6_8 mq_4) gw_selects
theorem w_1333 : Cond.code yX11_by cX11_by 4 (some .int) ∈ aT := aT_m (tm_6_8 mq_5) gw_code
theorem yc_L_72 : aYV RL 72 yX11_by cX11_by 4 (some .int) 3 := ⟨w_1330, w_1331, w_1332, w_11, w_1333, yk_RX11.1, yk_RX11.2, yd_24⟩
theorem w_683 : Cond.methodLink RL (73) yX10_score ∈ aT := aT_m (tm_3_12 mq_11) gw_methodLink
theorem w_684 : Cond.instanceMethod yX10_score ∈ aT := aT_m (tm_3_12 mq_12) gw_instanceMethod
theorem w_685 : Cond.selects RX10 yX10_score yX10_score ∈ aT := aT_m (tm_3_12 mq_13) gw_selects
theorem w_686 : Cond.code yX10_score cX10_score 2 (some .int) ∈ aT := aT_m (tm_3_12 mq_14) gw_code
theorem yc_L_73 : aYV RL 73 yX10_score cX10_score 2 (some .int) 1 := ⟨w_683, w_684, w_685, w_1, w_686, yk_RX10.1, yk_RX10.2, yd_18⟩
theorem w_1352 : Cond.methodLink RL (76) yX11_score ∈ aT := aT_m (tm_6_9 mq_8) gw_methodLink
theorem w_1353 : Cond.instanceMethod yX11_score ∈ aT := aT_m (tm_6_9 mq_9) gw_instanceMethod
theorem w_1354 : Cond.selects RX11 yX11_score yX11_score ∈ aT := aT_m (tm_6_9 mq_10) gw_selects
theorem w_1355 : Cond.code yX11_score cX11_score 2 (some .int) ∈ aT := aT_m (tm_6_9 mq_11) gw_code
theorem yc_L_76 : aYV RL 76 yX11_score cX11_score 2 (some .int) 1 := ⟨w_1352, w_1353, w_1354, w_11, w_1355, yk_RX11.1, yk_RX11.2, yd_18⟩
theorem w_700 : Cond.methodLink RL (77) yX10_best ∈ aT := aT_m (tm_3_13 mq_12) gw_methodLink
theorem w_701 : Cond.instanceMethod yX10_best ∈ aT := aT_m (tm_3_13 mq_13) gw_instanceMethod
theorem w_702 : Cond.selects RX10 yX10_best yX10_best ∈ aT := aT_m (tm_3_13 mq_14) gw_selects
theorem w_703 : Cond.code yX10_best cX10_best 3 (some .int) ∈ aT := aT_m (tm_3_13 mq_15) gw_code
theorem yc_L_77 : aYV RL 77 yX10_best cX10_best 3 (some .int) 2 := ⟨w_700, w_701, w_702, w_1, w_703, yk_RX10.1, yk_RX10.2, yd_16⟩
theorem w_1361 : Cond.methodLink RL (80) yX11_best ∈ aT := aT_m (tm_6_10 mq_1) gw_methodLink
theorem w_1362 : Cond.instanceMethod yX11_best ∈ aT := aT_m (tm_6_10 mq_2) gw_instanceMethod
theorem w_1363 : Cond.selects RX11 yX11_best yX11_best ∈ aT := aT_m (tm_6_10 mq_3) gw_selects
theorem w_1364 : Cond.code yX11_best cX11_best 3 (some .int) ∈ aT := aT_m (tm_6_10 mq_4) gw_code
theorem yc_L_80 : aYV RL 80 yX11_best cX11_best 3 (some .int) 2 := ⟨w_1361, w_1362, w_1363, w_11, w_1364, yk_RX11.1, yk_RX11.2, yd_16⟩
theorem w_732 : Cond.methodLink RL (81) yX10_peak ∈ aT := aT_m (tm_4_0 mq_12) gw_methodLink
theorem w_733 : Cond.instanceMethod yX10_peak ∈ aT := aT_m (tm_4_0 mq_13) gw_instanceMethod
theorem w_734 : Cond.selects RX10 yX10_peak yX10_peak ∈ aT := aT_m (tm_4_0 mq_14) gw_selects
theorem w_735 : Cond.code yX10_peak cX10_peak 4 (some .int) ∈ aT := aT_m (tm_4_0 mq_15) gw_code
theorem yc_L_81 : aYV RL 81 yX10_peak cX10_peak 4 (some .int) 3 := ⟨w_732, w_733, w_734, w_1, w_735, yk_RX10.1, yk_RX10.2, yd_24⟩
theorem w_1384 : Cond.methodLink RL (84) yX11_peak ∈ aT := aT_m (tm_6_11 mq_8) gw_methodLink
theorem w_1385 : Cond.instanceMethod yX11_peak ∈ aT := aT_m (tm_6_11 mq_9) gw_instanceMethod
theorem w_1386 : Cond.selects RX11 yX11_peak yX11_peak ∈ aT := aT_m (tm_6_11 mq_10) gw_selects
theorem w_1387 : Cond.code yX11_peak cX11_peak 5 (some .int) ∈ aT := aT_m (tm_6_11 mq_11) gw_code
theorem yc_L_84 : aYV RL 84 yX11_peak cX11_peak 5 (some .int) 3 := ⟨w_1384, w_1385, w_1386, w_11, w_1387, yk_RX11.1, yk_RX11.2, yd_24⟩
theorem w_756 : Cond.methodLink RL (85) yX10_pair ∈ aT := aT_m (tm_4_2 mq_4) gw_methodLink
theorem w_757 : Cond.instanceMethod yX10_pair ∈ aT := aT_m (tm_4_2 mq_5) gw_instanceMethod
theorem w_758 : Cond.selects RX10 yX10_pair yX10_pair ∈ aT := aT_m (tm_4_2 mq_6) gw_selects
theorem w_759 : Cond.code yX10_pair cX10_pair 3 (some .int) ∈ aT := aT_m (tm_4_2 mq_7) gw_code
theorem yc_L_85 : aYV RL 85 yX10_pair cX10_pair 3 (some .int) 2 := ⟨w_756, w_757, w_758, w_1, w_759, yk_RX10.1, yk_RX10.2, yd_16⟩
theorem w_1396 : Cond.methodLink RL (88) yX11_pair ∈ aT := aT_m (tm_6_12 mq_4) gw_methodLink
theorem w_1397 : Cond.instanceMethod yX11_pair ∈ aT := aT_m (tm_6_12 mq_5) gw_instanceMethod
theorem w_1398 : Cond.selects RX11 yX11_pair yX11_pair ∈ aT := aT_m (tm_6_12 mq_6) gw_selects
theorem w_1399 : Cond.code yX11_pair cX11_pair 11 (some .int) ∈ aT := aT_m (tm_6_12 mq_7) gw_code
theorem yc_L_88 : aYV RL 88 yX11_pair cX11_pair 11 (some .int) 2 := ⟨w_1396, w_1397, w_1398, w_11, w_1399, yk_RX11.1, yk_RX11.2, yd_16⟩
theorem w_774 : Cond.methodLink RL (89) yX10_sum ∈ aT := aT_m (tm_4_3 mq_6) gw_methodLink
theorem w_775 : Cond.instanceMethod yX10_sum ∈ aT := aT_m (tm_4_3 mq_7) gw_instanceMethod
theorem w_776 : Cond.selects RX10 yX10_sum yX10_sum ∈ aT := aT_m (tm_4_3 mq_8) gw_selects
theorem w_777 : Cond.code yX10_sum cX10_sum 3 (some .long) ∈ aT := aT_m (tm_4_3 mq_9) gw_code
theorem yc_L_89 : aYV RL 89 yX10_sum cX10_sum 3 (some .long) 2 := ⟨w_774, w_775, w_776, w_1, w_777, yk_RX10.1, yk_RX10.2, yd_34⟩
theorem w_1404 : Cond.methodLink RL (93) yX11_sum ∈ aT := aT_m (tm_6_12 mq_12) gw_methodLink
theorem w_1405 : Cond.instanceMethod yX11_sum ∈ aT := aT_m (tm_6_12 mq_13) gw_instanceMethod
theorem w_1406 : Cond.selects RX11 yX11_sum yX11_sum ∈ aT := aT_m (tm_6_12 mq_14) gw_selects
theorem w_1407 : Cond.code yX11_sum cX11_sum 3 (some .long) ∈ aT := aT_m (tm_6_12 mq_15) gw_code
theorem yc_L_93 : aYV RL 93 yX11_sum cX11_sum 3 (some .long) 2 := ⟨w_1404, w_1405, w_1406, w_11, w_1407, yk_RX11.1, yk_RX11.2, yd_34⟩
theorem w_783 : Cond.methodLink RL (94) yX10_chance ∈ aT := aT_m (tm_4_3 mq_15) gw_methodLink
theorem w_784 : Cond.instanceMethod yX10_chance ∈ aT := aT_m (tm_4_4 mq_0) gw_instanceMethod
theorem w_785 : Cond.selects RX10 yX10_chance yX10_chance ∈ aT := aT_m (tm_4_4 mq_1) gw_selects
theorem w_786 : Cond.code yX10_chance cX10_chance 2 (some .int) ∈ aT := aT_m (tm_4_4 mq_2) gw_code
theorem yc_L_94 : aYV RL 94 yX10_chance cX10_chance 2 (some .int) 1 := ⟨w_783, w_784, w_785, w_1, w_786, yk_RX10.1, yk_RX10.2, yd_18⟩
theorem w_1409 : Cond.methodLink RL (97) yX11_chance ∈ aT := aT_m (tm_6_13 mq_1) gw_methodLink
theorem w_1410 : Cond.instanceMethod yX11_chance ∈ aT := aT_m (tm_6_13 mq_2) gw_instanceMethod
theorem w_1411 : Cond.selects RX11 yX11_chance yX11_chance ∈ aT := aT_m (tm_6_13 mq_3) gw_selects
theorem w_1412 : Cond.code yX11_chance cX11_chance 2 (some .int) ∈ aT := aT_m (tm_6_13 mq_4) gw_code
theorem yc_L_97 : aYV RL 97 yX11_chance cX11_chance 2 (some .int) 1 := ⟨w_1409, w_1410, w_1411, w_11, w_1412, yk_RX11.1, yk_RX11.2, yd_18⟩
theorem w_817 : Cond.methodLink RL (98) yX10_verdict ∈ aT := aT_m (tm_4_6 mq_1) gw_methodLink
theorem w_818 : Cond.instanceMethod yX10_verdict ∈ aT := aT_m (tm_4_6 mq_2) gw_instanceMethod
theorem w_819 : Cond.selects RX10 yX10_verdict yX10_verdict ∈ aT := aT_m (tm_4_6 mq_3) gw_selects
theorem w_820 : Cond.code yX10_verdict cX10_verdict 6 (some .int) ∈ aT := aT_m (tm_4_6 mq_4) gw_code
theorem yc_L_98 : aYV RL 98 yX10_verdict cX10_verdict 6 (some .int) 3 := ⟨w_817, w_818, w_819, w_1, w_820, yk_RX10.1, yk_RX10.2, yd_24⟩
theorem w_1437 : Cond.methodLink RL (101) yX11_verdict ∈ aT := aT_m (tm_6_14 mq_13) gw_methodLink
theorem w_1438 : Cond.instanceMethod yX11_verdict ∈ aT := aT_m (tm_6_14 mq_14) gw_instanceMethod
theorem w_1439 : Cond.selects RX11 yX11_verdict yX11_verdict ∈ aT := aT_m (tm_6_14 mq_15) gw_selects
theorem w_1440 : Cond.code yX11_verdict cX11_verdict 5 (some .int) ∈ aT := aT_m (tm_7_0 mq_0) gw_code
theorem yc_L_101 : aYV RL 101 yX11_verdict cX11_verdict 5 (some .int) 3 := ⟨w_1437, w_1438, w_1439, w_11, w_1440, yk_RX11.1, yk_RX11.2, yd_24⟩
theorem w_859 : Cond.methodLink RL (102) yX10_set ∈ aT := aT_m (tm_4_8 mq_11) gw_methodLink
theorem w_860 : Cond.instanceMethod yX10_set ∈ aT := aT_m (tm_4_8 mq_12) gw_instanceMethod
theorem w_861 : Cond.selects RX10 yX10_set yX10_set ∈ aT := aT_m (tm_4_8 mq_13) gw_selects
theorem w_862 : Cond.code yX10_set cX10_set 4 (some .int) ∈ aT := aT_m (tm_4_8 mq_14) gw_code
theorem yc_L_102 : aYV RL 102 yX10_set cX10_set 4 (some .int) 3 := ⟨w_859, w_860, w_861, w_1, w_862, yk_RX10.1, yk_RX10.2, yd_24⟩
theorem w_1450 : Cond.methodLink RL (105) yX11_set ∈ aT := aT_m (tm_7_0 mq_10) gw_methodLink
theorem w_1451 : Cond.instanceMethod yX11_set ∈ aT := aT_m (tm_7_0 mq_11) gw_instanceMethod
theorem w_1452 : Cond.selects RX11 yX11_set yX11_set ∈ aT := aT_m (tm_7_0 mq_12) gw_selects
theorem w_1453 : Cond.code yX11_set cX11_set 12 (some .int) ∈ aT := aT_m (tm_7_0 mq_13) gw_code
theorem yc_L_105 : aYV RL 105 yX11_set cX11_set 12 (some .int) 3 := ⟨w_1450, w_1451, w_1452, w_11, w_1453, yk_RX11.1, yk_RX11.2, yd_24⟩
theorem w_882 : Cond.methodLink RL (106) yX10_rate ∈ aT := aT_m (tm_4_10 mq_2) gw_methodLink
theorem w_883 : Cond.instanceMethod yX10_rate ∈ aT := aT_m (tm_4_10 mq_3) gw_instanceMethod
theorem w_884 : Cond.selects RX10 yX10_rate yX10_rate ∈ aT := aT_m (tm_4_10 mq_4) gw_selects
theorem w_885 : Cond.code yX10_rate cX10_rate 8 (some .int) ∈ aT := aT_m (tm_4_10 mq_5) gw_code
theorem yc_L_106 : aYV RL 106 yX10_rate cX10_rate 8 (some .int) 5 := ⟨w_882, w_883, w_884, w_1, w_885, yk_RX10.1, yk_RX10.2, yd_52⟩
theorem w_1458 : Cond.methodLink RL (109) yX11_rate ∈ aT := aT_m (tm_7_1 mq_2) gw_methodLink
theorem w_1459 : Cond.instanceMethod yX11_rate ∈ aT := aT_m (tm_7_1 mq_3) gw_instanceMethod
theorem w_1460 : Cond.selects RX11 yX11_rate yX11_rate ∈ aT := aT_m (tm_7_1 mq_4) gw_selects
theorem w_1461 : Cond.code yX11_rate cX11_rate 12 (some .int) ∈ aT := aT_m (tm_7_1 mq_5) gw_code
theorem yc_L_109 : aYV RL 109 yX11_rate cX11_rate 12 (some .int) 5 := ⟨w_1458, w_1459, w_1460, w_11, w_1461, yk_RX11.1, yk_RX11.2, yd_52⟩
theorem w_897 : Cond.methodLink RL (110) yX10_drift ∈ aT := aT_m (tm_4_11 mq_1) gw_methodLink
theorem w_898 : Cond.instanceMethod yX10_drift ∈ aT := aT_m (tm_4_11 mq_2) gw_instanceMethod
theorem w_899 : Cond.selects RX10 yX10_drift yX10_drift ∈ aT := aT_m (tm_4_11 mq_3) gw_selects
theorem w_900 : Cond.code yX10_drift cX10_drift 6 (some .int) ∈ aT := aT_m (tm_4_11 mq_4) gw_code
theorem yc_L_110 : aYV RL 110 yX10_drift cX10_drift 6 (some .int) 3 := ⟨w_897, w_898, w_899, w_1, w_900, yk_RX10.1, yk_RX10.2, yd_24⟩
theorem w_1473 : Cond.methodLink RL (113) yX11_drift ∈ aT := aT_m (tm_7_2 mq_1) gw_methodLink
theorem w_1474 : Cond.instanceMethod yX11_drift ∈ aT := aT_m (tm_7_2 mq_2) gw_instanceMethod
theorem w_1475 : Cond.selects RX11 yX11_drift yX11_drift ∈ aT := aT_m (tm_7_2 mq_3) gw_selects
theorem w_1476 : Cond.code yX11_drift cX11_drift 6 (some .int) ∈ aT := aT_m (tm_7_2 mq_4) gw_code
theorem yc_L_113 : aYV RL 113 yX11_drift cX11_drift 6 (some .int) 3 := ⟨w_1473, w_1474, w_1475, w_11, w_1476, yk_RX11.1, yk_RX11.2, yd_24⟩
theorem w_902 : Cond.methodLink RL (114) yX10_owner ∈ aT := aT_m (tm_4_11 mq_6) gw_methodLink
theorem w_903 : Cond.instanceMethod yX10_owner ∈ aT := aT_m (tm_4_11 mq_7) gw_instanceMethod
theorem w_904 : Cond.selects RX10 yX10_owner yX10_owner ∈ aT := aT_m (tm_4_11 mq_8) gw_selects
theorem w_905 : Cond.code yX10_owner cX10_owner 4 (some .int) ∈ aT := aT_m (tm_4_11 mq_9) gw_code
theorem yc_L_114 : aYV RL 114 yX10_owner cX10_owner 4 (some .int) 3 := ⟨w_902, w_903, w_904, w_1, w_905, yk_RX10.1, yk_RX10.2, yd_24⟩
theorem w_1477 : Cond.methodLink RL (117) yX11_owner ∈ aT := aT_m (tm_7_2 mq_5) gw_methodLink
theorem w_1478 : Cond.instanceMethod yX11_owner ∈ aT := aT_m (tm_7_2 mq_6) gw_instanceMethod
theorem w_1479 : Cond.selects RX11 yX11_owner yX11_owner ∈ aT := aT_m (tm_7_2 mq_7) gw_selects
theorem w_1480 : Cond.code yX11_owner cX11_owner 7 (some .int) ∈ aT := aT_m (tm_7_2 mq_8) gw_code
theorem yc_L_117 : aYV RL 117 yX11_owner cX11_owner 7 (some .int) 3 := ⟨w_1477, w_1478, w_1479, w_11, w_1480, yk_RX11.1, yk_RX11.2, yd_24⟩
theorem w_915 : Cond.methodLink RL (118) yX10_heap ∈ aT := aT_m (tm_4_12 mq_3) gw_methodLink
theorem w_916 : Cond.instanceMethod yX10_heap ∈ aT := aT_m (tm_4_12 mq_4) gw_instanceMethod
theorem w_917 : Cond.selects RX10 yX10_heap yX10_heap ∈ aT := aT_m (tm_4_12 mq_5) gw_selects
theorem w_918 : Cond.code yX10_heap cX10_heap 4 (some .int) ∈ aT := aT_m (tm_4_12 mq_6) gw_code
theorem yc_L_118 : aYV RL 118 yX10_heap cX10_heap 4 (some .int) 2 := ⟨w_915, w_916, w_917, w_1, w_918, yk_RX10.1, yk_RX10.2, yd_16⟩
theorem w_1481 : Cond.methodLink RL (121) yX11_heap ∈ aT := aT_m (tm_7_2 mq_9) gw_methodLink
theorem w_1482 : Cond.instanceMethod yX11_heap ∈ aT := aT_m (tm_7_2 mq_10) gw_instanceMethod
theorem w_1483 : Cond.selects RX11 yX11_heap yX11_heap ∈ aT := aT_m (tm_7_2 mq_11) gw_selects
theorem w_1484 : Cond.code yX11_heap cX11_heap 7 (some .int) ∈ aT := aT_m (tm_7_2 mq_12) gw_code
theorem yc_L_121 : aYV RL 121 yX11_heap cX11_heap 7 (some .int) 2 := ⟨w_1481, w_1482, w_1483, w_11, w_1484, yk_RX11.1, yk_RX11.2, yd_16⟩
theorem w_940 : Cond.methodLink RL (122) yX10_anew ∈ aT := aT_m (tm_4_13 mq_12) gw_methodLink
theorem w_941 : Cond.instanceMethod yX10_anew ∈ aT := aT_m (tm_4_13 mq_13) gw_instanceMethod
theorem w_942 : Cond.selects RX10 yX10_anew yX10_anew ∈ aT := aT_m (tm_4_13 mq_14) gw_selects
theorem w_943 : Cond.code yX10_anew cX10_anew 7 (some .int) ∈ aT := aT_m (tm_4_13 mq_15) gw_code
theorem yc_L_122 : aYV RL 122 yX10_anew cX10_anew 7 (some .int) 2 := ⟨w_940, w_941, w_942, w_1, w_943, yk_RX10.1, yk_RX10.2, yd_16⟩
theorem w_1489 : Cond.methodLink RL (125) yX11_anew ∈ aT := aT_m (tm_7_3 mq_1) gw_methodLink
theorem w_1490 : Cond.instanceMethod yX11_anew ∈ aT := aT_m (tm_7_3 mq_2) gw_instanceMethod
theorem w_1491 : Cond.selects RX11 yX11_anew yX11_anew ∈ aT := aT_m (tm_7_3 mq_3) gw_selects
theorem w_1492 : Cond.code yX11_anew cX11_anew 7 (some .int) ∈ aT := aT_m (tm_7_3 mq_4) gw_code
theorem yc_L_125 : aYV RL 125 yX11_anew cX11_anew 7 (some .int) 2 := ⟨w_1489, w_1490, w_1491, w_11, w_1492, yk_RX11.1, yk_RX11.2, yd_16⟩
theorem w_962 : Cond.methodLink RL (126) yX10_worth ∈ aT := aT_m (tm_5_0 mq_2) gw_methodLink
theorem w_963 : Cond.instanceMethod yX10_worth ∈ aT := aT_m (tm_5_0 mq_3) gw_instanceMethod
theorem w_964 : Cond.selects RX10 yX10_worth yX10_worth ∈ aT := aT_m (tm_5_0 mq_4) gw_selects
theorem w_965 : Cond.code yX10_worth cX10_worth 5 (some .int) ∈ aT := aT_m (tm_5_0 mq_5) gw_code
theorem yc_L_126 : aYV RL 126 yX10_worth cX10_worth 5 (some .int) 3 := ⟨w_962, w_963, w_964, w_1, w_965, yk_RX10.1, yk_RX10.2, yd_24⟩
theorem w_1497 : Cond.methodLink RL (129) yX11_worth ∈ aT := aT_m (tm_7_3 mq_9) gw_methodLink
theorem w_1498 : Cond.instanceMethod yX11_worth ∈ aT := aT_m (tm_7_3 mq_10) gw_instanceMethod
theorem w_1499 : Cond.selects RX11 yX11_worth yX11_worth ∈ aT := aT_m (tm_7_3 mq_11) gw_selects
theorem w_1500 : Cond.code yX11_worth cX11_worth 4 (some .int) ∈ aT := aT_m (tm_7_3 mq_12) gw_code
theorem yc_L_129 : aYV RL 129 yX11_worth cX11_worth 4 (some .int) 3 := ⟨w_1497, w_1498, w_1499, w_11, w_1500, yk_RX11.1, yk_RX11.2, yd_24⟩
theorem w_966 : Cond.methodLink RL (130) yX10_count ∈ aT := aT_m (tm_5_0 mq_6) gw_methodLink
theorem w_967 : Cond.instanceMethod yX10_count ∈ aT := aT_m (tm_5_0 mq_7) gw_instanceMethod
theorem w_968 : Cond.selects RX10 yX10_count yX10_count ∈ aT := aT_m (tm_5_0 mq_8) gw_selects
theorem w_969 : Cond.code yX10_count cX10_count 2 (some .int) ∈ aT := aT_m (tm_5_0 mq_9) gw_code
theorem yc_L_130 : aYV RL 130 yX10_count cX10_count 2 (some .int) 1 := ⟨w_966, w_967, w_968, w_1, w_969, yk_RX10.1, yk_RX10.2, yd_18⟩
theorem w_1501 : Cond.methodLink RL (133) yX11_count ∈ aT := aT_m (tm_7_3 mq_13) gw_methodLink
theorem w_1502 : Cond.instanceMethod yX11_count ∈ aT := aT_m (tm_7_3 mq_14) gw_instanceMethod
theorem w_1503 : Cond.selects RX11 yX11_count yX11_count ∈ aT := aT_m (tm_7_3 mq_15) gw_selects
theorem w_1504 : Cond.code yX11_count cX11_count 4 (some .int) ∈ aT := aT_m (tm_7_4 mq_0) gw_code
theorem yc_L_133 : aYV RL 133 yX11_count cX11_count 4 (some .int) 1 := ⟨w_1501, w_1502, w_1503, w_11, w_1504, yk_RX11.1, yk_RX11.2, yd_18⟩
theorem w_970 : Cond.methodLink RL (134) yX10_image ∈ aT := aT_m (tm_5_0 mq_10) gw_methodLink
theorem w_971 : Cond.instanceMethod yX10_image ∈ aT := aT_m (tm_5_0 mq_11) gw_instanceMethod
theorem w_972 : Cond.selects RX10 yX10_image yX10_image ∈ aT := aT_m (tm_5_0 mq_12) gw_selects
theorem w_973 : Cond.code yX10_image cX10_image 3 (some .boolean) ∈ aT := aT_m (tm_5_0 mq_13) gw_code
theorem yc_L_134 : aYV RL 134 yX10_image cX10_image 3 (some .boolean) 1 := ⟨w_970, w_971, w_972, w_1, w_973, yk_RX10.1, yk_RX10.2, yd_8⟩
theorem w_1505 : Cond.methodLink RL (137) yX11_image ∈ aT := aT_m (tm_7_4 mq_1) gw_methodLink
theorem w_1506 : Cond.instanceMethod yX11_image ∈ aT := aT_m (tm_7_4 mq_2) gw_instanceMethod
theorem w_1507 : Cond.selects RX11 yX11_image yX11_image ∈ aT := aT_m (tm_7_4 mq_3) gw_selects
theorem w_1508 : Cond.code yX11_image cX11_image 2 (some .boolean) ∈ aT := aT_m (tm_7_4 mq_4) gw_code
theorem yc_L_137 : aYV RL 137 yX11_image cX11_image 2 (some .boolean) 1 := ⟨w_1505, w_1506, w_1507, w_11, w_1508, yk_RX11.1, yk_RX11.2, yd_8⟩
theorem w_993 : Cond.methodLink RL (138) yX10_again ∈ aT := aT_m (tm_5_2 mq_1) gw_methodLink
theorem w_994 : Cond.instanceMethod yX10_again ∈ aT := aT_m (tm_5_2 mq_2) gw_instanceMethod
theorem w_995 : Cond.selects RX10 yX10_again yX10_again ∈ aT := aT_m (tm_5_2 mq_3) gw_selects
theorem w_996 : Cond.code yX10_again cX10_again 3 (some .boolean) ∈ aT := aT_m (tm_5_2 mq_4) gw_code
theorem yc_L_138 : aYV RL 138 yX10_again cX10_again 3 (some .boolean) 1 := ⟨w_993, w_994, w_995, w_1, w_996, yk_RX10.1, yk_RX10.2, yd_8⟩
theorem w_1516 : Cond.methodLink RL (141) yX11_again ∈ aT := aT_m (tm_7_4 mq_12) gw_methodLink
theorem w_1517 : Cond.instanceMethod yX11_again ∈ aT := aT_m (tm_7_4 mq_13) gw_instanceMethod
theorem w_1518 : Cond.selects RX11 yX11_again yX11_again ∈ aT := aT_m (tm_7_4 mq_14) gw_selects
theorem w_1519 : Cond.code yX11_again cX11_again 2 (some .boolean) ∈ aT := aT_m (tm_7_4 mq_15) gw_code
theorem yc_L_141 : aYV RL 141 yX11_again cX11_again 2 (some .boolean) 1 := ⟨w_1516, w_1517, w_1518, w_11, w_1519, yk_RX11.1, yk_RX11.2, yd_8⟩
def aLXw (n0 : Nat) (w : AWS) : Prop := ∀ (k : Nat) (S : ASh), (k, S) ∈ xTab n0 → k ∈ w.2.1 ∧ w.2.2 k = S
def aLSw (n0 : Nat) (w : AWS) (o : Nat) : Prop := ∀ (dC : Nat → ClassId) (dI : Nat → Nat → Nat) (cy : Nat → ClassId) (ex : AEx), aLS (n0, dC, dI, cy, ex, w) o
/-- the images: which State each holds -/
def imOK (n0 : Nat) (w : AWS) (im : Nat → Option Nat) : Prop := (32 ∈ w.2.1 ∧ w.2.2 32 = (15, 3, fun j => (im j).map (n0 + ·))) ∧ ∀ j z, j < 3 → im j = some z → aLSw n0 w z
/-- what an invariant of both states owes of the cells -/
def LLays (n0 : Nat) (I : APD → ADD → Prop) : Prop := ∀ P Dm, I P Dm → LLay P ∧ aLXw n0 P.1 ∧ aLSw n0 P.1 1 ∧ ∃ im, imOK n0 P.1 im
theorem aCmp_self (x : Int64) : aCmp x x = 0 := by
  unfold aCmp lg_cmp
  simp
section L2
variable {q : LQ} {b L : Nat} {xs : Nat → Int32} {G : LG} {cl sl : Nat} {I J : APD → ADD → Prop} {x3 : Int32} {P : APD} {Dm : ADD}
def LOp0 (I J : APD → ADD → Prop) : Prop := ∀ P Dm, I P Dm → ∀ a1 a2 a3 : Int32, ∃ r1 D1 r2 D2, fX10_stone a1 a2 a3 P.2 = some (r1, D1) ∧ fX11_stone a1 a2 a3 Dm = some (r2, D2) ∧ True ∧ J (P.1, D1) D2
set_option maxHeartbeats 4000000 in
set_option maxRecDepth 100000 in
theorem law_c0 (hC : LC q b L xs G) (h : LLays (LB q) I) (hJ : ∀ P Dm, J P Dm → LLay P) (hin1 : vp_in (x3 + (1 : Int32)) L) (hin2 : vp_in (x3 + (2 : Int32)) L) (hin3 : vp_in (x3 + (3 : Int32)) L) (hin4 : vp_in (x3 + (4 : Int32)) L) (hin5 : vp_in (x3 + (5 : Int32)) L) (hcap : cl + 100 ≤ 75420 ∧ sl + 4000 ≤ 8875990) (hop : LOp0 I J) (hI : I P Dm) (kk : ∀ P2 Dm2 cl2 sl2, J P2 Dm2 → cl2 ≤ cl + 31 ∧ sl2 ≤ sl + 3553 → AL q b G cl2 sl2 1254 [some (.ref b), some (.ref (LB q + 0)), some (.ref (LB q + 58 + 0)), some (.int x3)] [] P2 Dm2) : AL q b G cl sl 168 [some (.ref b), some (.ref (LB q + 0)), some (.ref (LB q + 58 + 0)), some (.int x3)] [] P Dm := by
  obtain ⟨hlay, hLX, hLS1, im, him⟩ := h P Dm hI
  have hX0 : 0 ∈ P.1.2.1 ∧ P.1.2.2 0 = (9, 0, xTab_r0 (LB q)) := hLX 0 _ (List.mem_of_getElem? (i := 0) rfl)
  have hLX : aLX (LB q, G.1, G.2.1, G.2.2.1, G.2.2.2, P.1) := hLX
  have hLS : aLS (LB q, G.1, G.2.1, G.2.2.1, G.2.2.2, P.1) 1 := hLS1 _ _ _ _
  obtain ⟨r1, D1, r2, D2, hfx, hfm, hrr, hI9⟩ := hop P Dm hI (xs (x3 + (1 : Int32)).toNatClampNeg) (xs (x3 + (2 : Int32)).toNatClampNeg) (xs (x3 + (3 : Int32)).toNatClampNeg)
  have hlay2 : LLay (P.1, D1) := hlay
  refine L_aload_n hC dL_law_168 rfl ?_
  refine L_aload_n hC dL_law_169 rfl ?_
  refine L_iload_n hC dL_law_170 rfl ?_
  refine L_iconst (v := 1) hC dL_law_171 (by decide) ?_
  refine L_iadd hC dL_law_172 ?_
  refine L_sld hC hin1 dL_law_173 ?_
  refine L_aload_n hC dL_law_174 rfl ?_
  refine L_iload_n hC dL_law_175 rfl ?_
  refine L_iconst (v := 2) hC dL_law_176 (by decide) ?_
  refine L_iadd hC dL_law_177 ?_
  refine L_sld hC hin2 dL_law_178 ?_
  refine L_aload_n hC dL_law_179 rfl ?_
  refine L_iload_n hC dL_law_180 rfl ?_
  refine L_iconst (v := 3) hC dL_law_181 (by decide) ?_
  refine L_iadd hC dL_law_182 ?_
  refine L_sld hC hin3 dL_law_183 ?_
  refine L_callX (U := aVi) (As := [.int (xs (x3 + (1 : Int32)).toNatClampNeg), .int (xs (x3 + (2 : Int32)).toNatClampNeg), .int (xs (x3 + (3 : Int32)).toNatClampNeg)]) (st := []) (n := 3) (x := r1) (D2 := D1) hC hlay hX0 (fun l => mX10_stone l _ hLX (xs (x3 + (1 : Int32)).toNatClampNeg) (xs (x3 + (2 : Int32)).toNatClampNeg) (xs (x3 + (3 : Int32)).toNatClampNeg) P.2) hfx rfl yc_L_13 rfl rfl ⟨by decide, by decide⟩ (Nat.le_of_ble_eq_true rfl) ⟨by omega, by omega⟩ rfl dL_law_184 ?_
  refine L_pop hC dL_law_187 rfl ?_
  refine L_aload_n hC dL_law_188 rfl ?_
  refine L_aload_n hC dL_law_189 rfl ?_
  refine L_iload_n hC dL_law_190 rfl ?_
  refine L_iconst (v := 1) hC dL_law_191 (by decide) ?_
  refine L_iadd hC dL_law_192 ?_
  refine L_sld hC hin1 dL_law_193 ?_
  refine L_aload_n hC dL_law_194 rfl ?_
  refine L_iload_n hC dL_law_195 rfl ?_
  refine L_iconst (v := 2) hC dL_law_196 (by decide) ?_
  refine L_iadd hC dL_law_197 ?_
  refine L_sld hC hin2 dL_law_198 ?_
  refine L_aload_n hC dL_law_199 rfl ?_
  refine L_iload_n hC dL_law_200 rfl ?_
  refine L_iconst (v := 3) hC dL_law_201 (by decide) ?_
  refine L_iadd hC dL_law_202 ?_
  refine L_sld hC hin3 dL_law_203 ?_
  refine L_callM (U := aVi) (As := [.int (xs (x3 + (1 : Int32)).toNatClampNeg), .int (xs (x3 + (2 : Int32)).toNatClampNeg), .int (xs (x3 + (3 : Int32)).toNatClampNeg)]) (st := []) (n := 3) (x := r2) (D2 := D2) hC hlay2 (fun l => mX11_stone l _ mL_ok (xs (x3 + (1 : Int32)).toNatClampNeg) (xs (x3 + (2 : Int32)).toNatClampNeg) (xs (x3 + (3 : Int32)).toNatClampNeg) Dm) hfm rfl yc_L_17 rfl rfl ⟨by decide, by decide⟩ (Nat.le_of_ble_eq_true rfl) ⟨by omega, by omega⟩ rfl dL_law_204 ?_
  refine L_pop hC dL_law_207 rfl ?_
  refine L_goto (tgt := 1254) hC dL_law_208 (by decide) ?_
  exact kk _ _ _ _ hI9 ⟨by omega, by omega⟩
def LOp1 (I J : APD → ADD → Prop) : Prop := ∀ P Dm, I P Dm → ∀ a1 a2 a3 : Int32, ∃ r1 D1 r2 D2, fX10_tell a1 a2 a3 P.2 = some (r1, D1) ∧ fX11_tell a1 a2 a3 Dm = some (r2, D2) ∧ True ∧ J (P.1, D1) D2
set_option maxHeartbeats 4000000 in
set_option maxRecDepth 100000 in
theorem law_c1 (hC : LC q b L xs G) (h : LLays (LB q) I) (hJ : ∀ P Dm, J P Dm → LLay P) (hin1 : vp_in (x3 + (1 : Int32)) L) (hin2 : vp_in (x3 + (2 : Int32)) L) (hin3 : vp_in (x3 + (3 : Int32)) L) (hin4 : vp_in (x3 + (4 : Int32)) L) (hin5 : vp_in (x3 + (5 : Int32)) L) (hcap : cl + 100 ≤ 75420 ∧ sl + 4000 ≤ 8875990) (hop : LOp1 I J) (hI : I P Dm) (kk : ∀ P2 Dm2 cl2 sl2, J P2 Dm2 → cl2 ≤ cl + 31 ∧ sl2 ≤ sl + 3553 → AL q b G cl2 sl2 1254 [some (.ref b), some (.ref (LB q + 0)), some (.ref (LB q + 58 + 0)), some (.int x3)] [] P2 Dm2) : AL q b G cl sl 211 [some (.ref b), some (.ref (LB q + 0)), some (.ref (LB q + 58 + 0)), some (.int x3)] [] P Dm := by
  obtain ⟨hlay, hLX, hLS1, im, him⟩ := h P Dm hI
  have hX0 : 0 ∈ P.1.2.1 ∧ P.1.2.2 0 = (9, 0, xTab_r0 (LB q)) := hLX 0 _ (List.mem_of_getElem? (i := 0) rfl)
  have hLX : aLX (LB q, G.1, G.2.1, G.2.2.1, G.2.2.2, P.1) := hLX
  have hLS : aLS (LB q, G.1, G.2.1, G.2.2.1, G.2.2.2, P.1) 1 := hLS1 _ _ _ _
  obtain ⟨r1, D1, r2, D2, hfx, hfm, hrr, hI9⟩ := hop P Dm hI (xs (x3 + (1 : Int32)).toNatClampNeg) (xs (x3 + (2 : Int32)).toNatClampNeg) (xs (x3 + (3 : Int32)).toNatClampNeg)
  have hlay2 : LLay (P.1, D1) := hlay
  refine L_aload_n hC dL_law_211 rfl ?_
  refine L_aload_n hC dL_law_212 rfl ?_
  refine L_iload_n hC dL_law_213 rfl ?_
  refine L_iconst (v := 1) hC dL_law_214 (by decide) ?_
  refine L_iadd hC dL_law_215 ?_
  refine L_sld hC hin1 dL_law_216 ?_
  refine L_aload_n hC dL_law_217 rfl ?_
  refine L_iload_n hC dL_law_218 rfl ?_
  refine L_iconst (v := 2) hC dL_law_219 (by decide) ?_
  refine L_iadd hC dL_law_220 ?_
  refine L_sld hC hin2 dL_law_221 ?_
  refine L_aload_n hC dL_law_222 rfl ?_
  refine L_iload_n hC dL_law_223 rfl ?_
  refine L_iconst (v := 3) hC dL_law_224 (by decide) ?_
  refine L_iadd hC dL_law_225 ?_
  refine L_sld hC hin3 dL_law_226 ?_
  refine L_callX (U := aVi) (As := [.int (xs (x3 + (1 : Int32)).toNatClampNeg), .int (xs (x3 + (2 : Int32)).toNatClampNeg), .int (xs (x3 + (3 : Int32)).toNatClampNeg)]) (st := []) (n := 3) (x := r1) (D2 := D1) hC hlay hX0 (fun l => mX10_tell l _ hLX (xs (x3 + (1 : Int32)).toNatClampNeg) (xs (x3 + (2 : Int32)).toNatClampNeg) (xs (x3 + (3 : Int32)).toNatClampNeg) P.2) hfx rfl yc_L_18 rfl rfl ⟨by decide, by decide⟩ (Nat.le_of_ble_eq_true rfl) ⟨by omega, by omega⟩ rfl dL_law_227 ?_
  refine L_pop hC dL_law_230 rfl ?_
  refine L_aload_n hC dL_law_231 rfl ?_
  refine L_aload_n hC dL_law_232 rfl ?_
  refine L_iload_n hC dL_law_233 rfl ?_
  refine L_iconst (v := 1) hC dL_law_234 (by decide) ?_
  refine L_iadd hC dL_law_235 ?_
  refine L_sld hC hin1 dL_law_236 ?_
  refine L_aload_n hC dL_law_237 rfl ?_
  refine L_iload_n hC dL_law_238 rfl ?_
  refine L_iconst (v := 2) hC dL_law_239 (by decide) ?_
  refine L_iadd hC dL_law_240 ?_
  refine L_sld hC hin2 dL_law_241 ?_
  refine L_aload_n hC dL_law_242 rfl ?_
  refine L_iload_n hC dL_law_243 rfl ?_
  refine L_iconst (v := 3) hC dL_law_244 (by decide) ?_
  refine L_iadd hC dL_law_245 ?_
  refine L_sld hC hin3 dL_law_246 ?_
  refine L_callM (U := aVi) (As := [.int (xs (x3 + (1 : Int32)).toNatClampNeg), .int (xs (x3 + (2 : Int32)).toNatClampNeg), .int (xs (x3 + (3 : Int32)).toNatClampNeg)]) (st := []) (n := 3) (x := r2) (D2 := D2) hC hlay2 (fun l => mX11_tell l _ mL_ok (xs (x3 + (1 : Int32)).toNatClampNeg) (xs (x3 + (2 : Int32)).toNatClampNeg) (xs (x3 + (3 : Int32)).toNatClampNeg) Dm) hfm rfl yc_L_22 rfl rfl ⟨by decide, by decide⟩ (Nat.le_of_ble_eq_true rfl) ⟨by omega, by omega⟩ rfl dL_law_247 ?_
  refine L_pop hC dL_law_250 rfl ?_
  refine L_goto (tgt := 1254) hC dL_law_251 (by decide) ?_
  exact kk _ _ _ _ hI9 ⟨by omega, by omega⟩
def LOp2 (I J : APD → ADD → Prop) : Prop := ∀ P Dm, I P Dm → ∀ a1 : Int32, ∃ r1 D1 r2 D2, fX10_day a1 P.2 = some (r1, D1) ∧ fX11_day a1 Dm = some (r2, D2) ∧ True ∧ J (P.1, D1) D2
set_option maxHeartbeats 4000000 in
set_option maxRecDepth 100000 in
theorem law_c2 (hC : LC q b L xs G) (h : LLays (LB q) I) (hJ : ∀ P Dm, J P Dm → LLay P) (hin1 : vp_in (x3 + (1 : Int32)) L) (hin2 : vp_in (x3 + (2 : Int32)) L) (hin3 : vp_in (x3 + (3 : Int32)) L) (hin4 : vp_in (x3 + (4 : Int32)) L) (hin5 : vp_in (x3 + (5 : Int32)) L) (hcap : cl + 100 ≤ 75420 ∧ sl + 4000 ≤ 8875990) (hop : LOp2 I J) (hI : I P Dm) (kk : ∀ P2 Dm2 cl2 sl2, J P2 Dm2 → cl2 ≤ cl + 31 ∧ sl2 ≤ sl + 3553 → AL q b G cl2 sl2 1254 [some (.ref b), some (.ref (LB q + 0)), some (.ref (LB q + 58 + 0)), some (.int x3)] [] P2 Dm2) : AL q b G cl sl 254 [some (.ref b), some (.ref (LB q + 0)), some (.ref (LB q + 58 + 0)), some (.int x3)] [] P Dm := by
  obtain ⟨hlay, hLX, hLS1, im, him⟩ := h P Dm hI
  have hX0 : 0 ∈ P.1.2.1 ∧ P.1.2.2 0 = (9, 0, xTab_r0 (LB q)) := hLX 0 _ (List.mem_of_getElem? (i := 0) rfl)
  have hLX : aLX (LB q, G.1, G.2.1, G.2.2.1, G.2.2.2, P.1) := hLX
  have hLS : aLS (LB q, G.1, G.2.1, G.2.2.1, G.2.2.2, P.1) 1 := hLS1 _ _ _ _
  obtain ⟨r1, D1, r2, D2, hfx, hfm, hrr, hI9⟩ := hop P Dm hI (xs (x3 + (1 : Int32)).toNatClampNeg)
  have hlay2 : LLay (P.1, D1) := hlay
  refine L_aload_n hC dL_law_254 rfl ?_
  refine L_aload_n hC dL_law_255 rfl ?_
  refine L_iload_n hC dL_law_256 rfl ?_
  refine L_iconst (v := 1) hC dL_law_257 (by decide) ?_
  refine L_iadd hC dL_law_258 ?_
  refine L_sld hC hin1 dL_law_259 ?_
  refine L_callX (U := aVi) (As := [.int (xs (x3 + (1 : Int32)).toNatClampNeg)]) (st := []) (n := 1) (x := r1) (D2 := D1) hC hlay hX0 (fun l => mX10_day l _ hLX (xs (x3 + (1 : Int32)).toNatClampNeg) P.2) hfx rfl yc_L_23 rfl rfl ⟨by decide, by decide⟩ (Nat.le_of_ble_eq_true rfl) ⟨by omega, by omega⟩ rfl dL_law_260 ?_
  refine L_pop hC dL_law_263 rfl ?_
  refine L_aload_n hC dL_law_264 rfl ?_
  refine L_aload_n hC dL_law_265 rfl ?_
  refine L_iload_n hC dL_law_266 rfl ?_
  refine L_iconst (v := 1) hC dL_law_267 (by decide) ?_
  refine L_iadd hC dL_law_268 ?_
  refine L_sld hC hin1 dL_law_269 ?_
  refine L_callM (U := aVi) (As := [.int (xs (x3 + (1 : Int32)).toNatClampNeg)]) (st := []) (n := 1) (x := r2) (D2 := D2) hC hlay2 (fun l => mX11_day l _ mL_ok (xs (x3 + (1 : Int32)).toNatClampNeg) Dm) hfm rfl yc_L_27 rfl rfl ⟨by decide, by decide⟩ (Nat.le_of_ble_eq_true rfl) ⟨by omega, by omega⟩ rfl dL_law_270 ?_
  refine L_pop hC dL_law_273 rfl ?_
  refine L_goto (tgt := 1254) hC dL_law_274 (by decide) ?_
  exact kk _ _ _ _ hI9 ⟨by omega, by omega⟩
def LOp3 (I J : APD → ADD → Prop) : Prop := ∀ P Dm, I P Dm → ∀ a1 : Int32, ∃ r1 D1 r2 D2, fX10_view a1 P.2 = some (r1, D1) ∧ fX11_view a1 Dm = some (r2, D2) ∧ True ∧ J (P.1, D1) D2
set_option maxHeartbeats 4000000 in
set_option maxRecDepth 100000 in
theorem law_c3 (hC : LC q b L xs G) (h : LLays (LB q) I) (hJ : ∀ P Dm, J P Dm → LLay P) (hin1 : vp_in (x3 + (1 : Int32)) L) (hin2 : vp_in (x3 + (2 : Int32)) L) (hin3 : vp_in (x3 + (3 : Int32)) L) (hin4 : vp_in (x3 + (4 : Int32)) L) (hin5 : vp_in (x3 + (5 : Int32)) L) (hcap : cl + 100 ≤ 75420 ∧ sl + 4000 ≤ 8875990) (hop : LOp3 I J) (hI : I P Dm) (kk : ∀ P2 Dm2 cl2 sl2, J P2 Dm2 → cl2 ≤ cl + 31 ∧ sl2 ≤ sl + 3553 → AL q b G cl2 sl2 1254 [some (.ref b), some (.ref (LB q + 0)), some (.ref (LB q + 58 + 0)), some (.int x3)] [] P2 Dm2) : AL q b G cl sl 277 [some (.ref b), some (.ref (LB q + 0)), some (.ref (LB q + 58 + 0)), some (.int x3)] [] P Dm := by
  obtain ⟨hlay, hLX, hLS1, im, him⟩ := h P Dm hI
  have hX0 : 0 ∈ P.1.2.1 ∧ P.1.2.2 0 = (9, 0, xTab_r0 (LB q)) := hLX 0 _ (List.mem_of_getElem? (i := 0) rfl)
  have hLX : aLX (LB q, G.1, G.2.1, G.2.2.1, G.2.2.2, P.1) := hLX
  have hLS : aLS (LB q, G.1, G.2.1, G.2.2.1, G.2.2.2, P.1) 1 := hLS1 _ _ _ _
  obtain ⟨r1, D1, r2, D2, hfx, hfm, hrr, hI9⟩ := hop P Dm hI (xs (x3 + (1 : Int32)).toNatClampNeg)
  have hlay2 : LLay (P.1, D1) := hlay
  refine L_aload_n hC dL_law_277 rfl ?_
  refine L_aload_n hC dL_law_278 rfl ?_
  refine L_iload_n hC dL_law_279 rfl ?_
  refine L_iconst (v := 1) hC dL_law_280 (by decide) ?_
  refine L_iadd hC dL_law_281 ?_
  refine L_sld hC hin1 dL_law_282 ?_
  refine L_callX (U := aVi) (As := [.int (xs (x3 + (1 : Int32)).toNatClampNeg)]) (st := []) (n := 1) (x := r1) (D2 := D1) hC hlay hX0 (fun l => mX10_view l _ hLX (xs (x3 + (1 : Int32)).toNatClampNeg) P.2) hfx rfl yc_L_28 rfl rfl ⟨by decide, by decide⟩ (Nat.le_of_ble_eq_true rfl) ⟨by omega, by omega⟩ rfl dL_law_283 ?_
  refine L_pop hC dL_law_286 rfl ?_
  refine L_aload_n hC dL_law_287 rfl ?_
  refine L_aload_n hC dL_law_288 rfl ?_
  refine L_iload_n hC dL_law_289 rfl ?_
  refine L_iconst (v := 1) hC dL_law_290 (by decide) ?_
  refine L_iadd hC dL_law_291 ?_
  refine L_sld hC hin1 dL_law_292 ?_
  refine L_callM (U := aVi) (As := [.int (xs (x3 + (1 : Int32)).toNatClampNeg)]) (st := []) (n := 1) (x := r2) (D2 := D2) hC hlay2 (fun l => mX11_view l _ mL_ok (xs (x3 + (1 : Int32)).toNatClampNeg) Dm) hfm rfl yc_L_31 rfl rfl ⟨by decide, by decide⟩ (Nat.le_of_ble_eq_true rfl) ⟨by omega, by omega⟩ rfl dL_law_293 ?_
  refine L_pop hC dL_law_296 rfl ?_
  refine L_goto (tgt := 1254) hC dL_law_297 (by decide) ?_
  exact kk _ _ _ _ hI9 ⟨by omega, by omega⟩
def LOp4 (I J : APD → ADD → Prop) : Prop := ∀ P Dm, I P Dm → ∀ a1 a2 : Int32, ∃ r1 D1 r2 D2, fX10_fact a1 a2 P.2 = some (r1, D1) ∧ fX11_fact a1 a2 Dm = some (r2, D2) ∧ True ∧ J (P.1, D1) D2
set_option maxHeartbeats 4000000 in
set_option maxRecDepth 100000 in
theorem law_c4 (hC : LC q b L xs G) (h : LLays (LB q) I) (hJ : ∀ P Dm, J P Dm → LLay P) (hin1 : vp_in (x3 + (1 : Int32)) L) (hin2 : vp_in (x3 + (2 : Int32)) L) (hin3 : vp_in (x3 + (3 : Int32)) L) (hin4 : vp_in (x3 + (4 : Int32)) L) (hin5 : vp_in (x3 + (5 : Int32)) L) (hcap : cl + 100 ≤ 75420 ∧ sl + 4000 ≤ 8875990) (hop : LOp4 I J) (hI : I P Dm) (kk : ∀ P2 Dm2 cl2 sl2, J P2 Dm2 → cl2 ≤ cl + 31 ∧ sl2 ≤ sl + 3553 → AL q b G cl2 sl2 1254 [some (.ref b), some (.ref (LB q + 0)), some (.ref (LB q + 58 + 0)), some (.int x3)] [] P2 Dm2) : AL q b G cl sl 300 [some (.ref b), some (.ref (LB q + 0)), some (.ref (LB q + 58 + 0)), some (.int x3)] [] P Dm := by
  obtain ⟨hlay, hLX, hLS1, im, him⟩ := h P Dm hI
  have hX0 : 0 ∈ P.1.2.1 ∧ P.1.2.2 0 = (9, 0, xTab_r0 (LB q)) := hLX 0 _ (List.mem_of_getElem? (i := 0) rfl)
  have hLX : aLX (LB q, G.1, G.2.1, G.2.2.1, G.2.2.2, P.1) := hLX
  have hLS : aLS (LB q, G.1, G.2.1, G.2.2.1, G.2.2.2, P.1) 1 := hLS1 _ _ _ _
  obtain ⟨r1, D1, r2, D2, hfx, hfm, hrr, hI9⟩ := hop P Dm hI (xs (x3 + (1 : Int32)).toNatClampNeg) (xs (x3 + (2 : Int32)).toNatClampNeg)
  have hlay2 : LLay (P.1, D1) := hlay
  refine L_aload_n hC dL_law_300 rfl ?_
  refine L_aload_n hC dL_law_301 rfl ?_
  refine L_iload_n hC dL_law_302 rfl ?_
  refine L_iconst (v := 1) hC dL_law_303 (by decide) ?_
  refine L_iadd hC dL_law_304 ?_
  refine L_sld hC hin1 dL_law_305 ?_
  refine L_aload_n hC dL_law_306 rfl ?_
  refine L_iload_n hC dL_law_307 rfl ?_
  refine L_iconst (v := 2) hC dL_law_308 (by decide) ?_
  refine L_iadd hC dL_law_309 ?_
  refine L_sld hC hin2 dL_law_310 ?_
  refine L_callX (U := aVi) (As := [.int (xs (x3 + (1 : Int32)).toNatClampNeg), .int (xs (x3 + (2 : Int32)).toNatClampNeg)]) (st := []) (n := 2) (x := r1) (D2 := D1) hC hlay hX0 (fun l => mX10_fact l _ hLX (xs (x3 + (1 : Int32)).toNatClampNeg) (xs (x3 + (2 : Int32)).toNatClampNeg) P.2) hfx rfl yc_L_32 rfl rfl ⟨by decide, by decide⟩ (Nat.le_of_ble_eq_true rfl) ⟨by omega, by omega⟩ rfl dL_law_311 ?_
  refine L_pop hC dL_law_314 rfl ?_
  refine L_aload_n hC dL_law_315 rfl ?_
  refine L_aload_n hC dL_law_316 rfl ?_
  refine L_iload_n hC dL_law_317 rfl ?_
  refine L_iconst (v := 1) hC dL_law_318 (by decide) ?_
  refine L_iadd hC dL_law_319 ?_
  refine L_sld hC hin1 dL_law_320 ?_
  refine L_aload_n hC dL_law_321 rfl ?_
  refine L_iload_n hC dL_law_322 rfl ?_
  refine L_iconst (v := 2) hC dL_law_323 (by decide) ?_
  refine L_iadd hC dL_law_324 ?_
  refine L_sld hC hin2 dL_law_325 ?_
  refine L_callM (U := aVi) (As := [.int (xs (x3 + (1 : Int32)).toNatClampNeg), .int (xs (x3 + (2 : Int32)).toNatClampNeg)]) (st := []) (n := 2) (x := r2) (D2 := D2) hC hlay2 (fun l => mX11_fact l _ mL_ok (xs (x3 + (1 : Int32)).toNatClampNeg) (xs (x3 + (2 : Int32)).toNatClampNeg) Dm) hfm rfl yc_L_36 rfl rfl ⟨by decide, by decide⟩ (Nat.le_of_ble_eq_true rfl) ⟨by omega, by omega⟩ rfl dL_law_326 ?_
  refine L_pop hC dL_law_329 rfl ?_
  refine L_goto (tgt := 1254) hC dL_law_330 (by decide) ?_
  exact kk _ _ _ _ hI9 ⟨by omega, by omega⟩
def LOp5 (I J : APD → ADD → Prop) : Prop := ∀ P Dm, I P Dm → ∀ a1 a2 : Int32, ∃ r1 D1 r2 D2, fX10_entry a1 a2 P.2 = some (r1, D1) ∧ fX11_entry a1 a2 Dm = some (r2, D2) ∧ True ∧ J (P.1, D1) D2
set_option maxHeartbeats 4000000 in
set_option maxRecDepth 100000 in
theorem law_c5 (hC : LC q b L xs G) (h : LLays (LB q) I) (hJ : ∀ P Dm, J P Dm → LLay P) (hin1 : vp_in (x3 + (1 : Int32)) L) (hin2 : vp_in (x3 + (2 : Int32)) L) (hin3 : vp_in (x3 + (3 : Int32)) L) (hin4 : vp_in (x3 + (4 : Int32)) L) (hin5 : vp_in (x3 + (5 : Int32)) L) (hcap : cl + 100 ≤ 75420 ∧ sl + 4000 ≤ 8875990) (hop : LOp5 I J) (hI : I P Dm) (kk : ∀ P2 Dm2 cl2 sl2, J P2 Dm2 → cl2 ≤ cl + 31 ∧ sl2 ≤ sl + 3553 → AL q b G cl2 sl2 1254 [some (.ref b), some (.ref (LB q + 0)), some (.ref (LB q + 58 + 0)), some (.int x3)] [] P2 Dm2) : AL q b G cl sl 333 [some (.ref b), some (.ref (LB q + 0)), some (.ref (LB q + 58 + 0)), some (.int x3)] [] P Dm := by
  obtain ⟨hlay, hLX, hLS1, im, him⟩ := h P Dm hI
  have hX0 : 0 ∈ P.1.2.1 ∧ P.1.2.2 0 = (9, 0, xTab_r0 (LB q)) := hLX 0 _ (List.mem_of_getElem? (i := 0) rfl)
  have hLX : aLX (LB q, G.1, G.2.1, G.2.2.1, G.2.2.2, P.1) := hLX
  have hLS : aLS (LB q, G.1, G.2.1, G.2.2.1, G.2.2.2, P.1) 1 := hLS1 _ _ _ _
  obtain ⟨r1, D1, r2, D2, hfx, hfm, hrr, hI9⟩ := hop P Dm hI (xs (x3 + (1 : Int32)).toNatClampNeg) (xs (x3 + (2 : Int32)).toNatClampNeg)
  have hlay2 : LLay (P.1, D1) := hlay
  refine L_aload_n hC dL_law_333 rfl ?_
  refine L_aload_n hC dL_law_334 rfl ?_
  refine L_iload_n hC dL_law_335 rfl ?_
  refine L_iconst (v := 1) hC dL_law_336 (by decide) ?_
  refine L_iadd hC dL_law_337 ?_
  refine L_sld hC hin1 dL_law_338 ?_
  refine L_aload_n hC dL_law_339 rfl ?_
  refine L_iload_n hC dL_law_340 rfl ?_
  refine L_iconst (v := 2) hC dL_law_341 (by decide) ?_
  refine L_iadd hC dL_law_342 ?_
  refine L_sld hC hin2 dL_law_343 ?_
  refine L_callX (U := aVi) (As := [.int (xs (x3 + (1 : Int32)).toNatClampNeg), .int (xs (x3 + (2 : Int32)).toNatClampNeg)]) (st := []) (n := 2) (x := r1) (D2 := D1) hC hlay hX0 (fun l => mX10_entry l _ hLX (xs (x3 + (1 : Int32)).toNatClampNeg) (xs (x3 + (2 : Int32)).toNatClampNeg) P.2) hfx rfl yc_L_37 rfl rfl ⟨by decide, by decide⟩ (Nat.le_of_ble_eq_true rfl) ⟨by omega, by omega⟩ rfl dL_law_344 ?_
  refine L_pop hC dL_law_347 rfl ?_
  refine L_aload_n hC dL_law_348 rfl ?_
  refine L_aload_n hC dL_law_349 rfl ?_
  refine L_iload_n hC dL_law_350 rfl ?_
  refine L_iconst (v := 1) hC dL_law_351 (by decide) ?_
  refine L_iadd hC dL_law_352 ?_
  refine L_sld hC hin1 dL_law_353 ?_
  refine L_aload_n hC dL_law_354 rfl ?_
  refine L_iload_n hC dL_law_355 rfl ?_
  refine L_iconst (v := 2) hC dL_law_356 (by decide) ?_
  refine L_iadd hC dL_law_357 ?_
  refine L_sld hC hin2 dL_law_358 ?_
  refine L_callM (U := aVi) (As := [.int (xs (x3 + (1 : Int32)).toNatClampNeg), .int (xs (x3 + (2 : Int32)).toNatClampNeg)]) (st := []) (n := 2) (x := r2) (D2 := D2) hC hlay2 (fun l => mX11_entry l _ mL_ok (xs (x3 + (1 : Int32)).toNatClampNeg) (xs (x3 + (2 : Int32)).toNatClampNeg) Dm) hfm rfl yc_L_40 rfl rfl ⟨by decide, by decide⟩ (Nat.le_of_ble_eq_true rfl) ⟨by omega, by omega⟩ rfl dL_law_359 ?_
  refine L_pop hC dL_law_362 rfl ?_
  refine L_goto (tgt := 1254) hC dL_law_363 (by decide) ?_
  exact kk _ _ _ _ hI9 ⟨by omega, by omega⟩
def LOp6 (I J : APD → ADD → Prop) : Prop := ∀ P Dm, I P Dm → ∀ a1 a2 a3 a4 a5 : Int32, ∃ r1 D1 r2 D2, fX10_feed a1 a2 a3 a4 a5 P.2 = some (r1, D1) ∧ fX11_feed a1 a2 a3 a4 a5 Dm = some (r2, D2) ∧ True ∧ J (P.1, D1) D2
set_option maxHeartbeats 4000000 in
set_option maxRecDepth 100000 in
theorem law_c6 (hC : LC q b L xs G) (h : LLays (LB q) I) (hJ : ∀ P Dm, J P Dm → LLay P) (hin1 : vp_in (x3 + (1 : Int32)) L) (hin2 : vp_in (x3 + (2 : Int32)) L) (hin3 : vp_in (x3 + (3 : Int32)) L) (hin4 : vp_in (x3 + (4 : Int32)) L) (hin5 : vp_in (x3 + (5 : Int32)) L) (hcap : cl + 100 ≤ 75420 ∧ sl + 4000 ≤ 8875990) (hop : LOp6 I J) (hI : I P Dm) (kk : ∀ P2 Dm2 cl2 sl2, J P2 Dm2 → cl2 ≤ cl + 31 ∧ sl2 ≤ sl + 3553 → AL q b G cl2 sl2 1254 [some (.ref b), some (.ref (LB q + 0)), some (.ref (LB q + 58 + 0)), some (.int x3)] [] P2 Dm2) : AL q b G cl sl 366 [some (.ref b), some (.ref (LB q + 0)), some (.ref (LB q + 58 + 0)), some (.int x3)] [] P Dm := by
  obtain ⟨hlay, hLX, hLS1, im, him⟩ := h P Dm hI
  have hX0 : 0 ∈ P.1.2.1 ∧ P.1.2.2 0 = (9, 0, xTab_r0 (LB q)) := hLX 0 _ (List.mem_of_getElem? (i := 0) rfl)
  have hLX : aLX (LB q, G.1, G.2.1, G.2.2.1, G.2.2.2, P.1) := hLX
  have hLS : aLS (LB q, G.1, G.2.1, G.2.2.1, G.2.2.2, P.1) 1 := hLS1 _ _ _ _
  obtain ⟨r1, D1, r2, D2, hfx, hfm, hrr, hI9⟩ := hop P Dm hI (xs (x3 + (1 : Int32)).toNatClampNeg) (xs (x3 + (2 : Int32)).toNatClampNeg) (xs (x3 + (3 : Int32)).toNatClampNeg) (xs (x3 + (4 : Int32)).toNatClampNeg) (xs (x3 + (5 : Int32)).toNatClampNeg)
  have hlay2 : LLay (P.1, D1) := hlay
  refine L_aload_n hC dL_law_366 rfl ?_
  refine L_aload_n hC dL_law_367 rfl ?_
  refine L_iload_n hC dL_law_368 rfl ?_
  refine L_iconst (v := 1) hC dL_law_369 (by decide) ?_
  refine L_iadd hC dL_law_370 ?_
  refine L_sld hC hin1 dL_law_371 ?_
  refine L_aload_n hC dL_law_372 rfl ?_
  refine L_iload_n hC dL_law_373 rfl ?_
  refine L_iconst (v := 2) hC dL_law_374 (by decide) ?_
  refine L_iadd hC dL_law_375 ?_
  refine L_sld hC hin2 dL_law_376 ?_
  refine L_aload_n hC dL_law_377 rfl ?_
  refine L_iload_n hC dL_law_378 rfl ?_
  refine L_iconst (v := 3) hC dL_law_379 (by decide) ?_
  refine L_iadd hC dL_law_380 ?_
  refine L_sld hC hin3 dL_law_381 ?_
  refine L_aload_n hC dL_law_382 rfl ?_
  refine L_iload_n hC dL_law_383 rfl ?_
  refine L_iconst (v := 4) hC dL_law_384 (by decide) ?_
  refine L_iadd hC dL_law_385 ?_
  refine L_sld hC hin4 dL_law_386 ?_
  refine L_aload_n hC dL_law_387 rfl ?_
  refine L_iload_n hC dL_law_388 rfl ?_
  refine L_iconst (v := 5) hC dL_law_389 (by decide) ?_
  refine L_iadd hC dL_law_390 ?_
  refine L_sld hC hin5 dL_law_391 ?_
  refine L_callX (U := aVi) (As := [.int (xs (x3 + (1 : Int32)).toNatClampNeg), .int (xs (x3 + (2 : Int32)).toNatClampNeg), .int (xs (x3 + (3 : Int32)).toNatClampNeg), .int (xs (x3 + (4 : Int32)).toNatClampNeg), .int (xs (x3 + (5 : Int32)).toNatClampNeg)]) (st := []) (n := 5) (x := r1) (D2 := D1) hC hlay hX0 (fun l => mX10_feed l _ hLX (xs (x3 + (1 : Int32)).toNatClampNeg) (xs (x3 + (2 : Int32)).toNatClampNeg) (xs (x3 + (3 : Int32)).toNatClampNeg) (xs (x3 + (4 : Int32)).toNatClampNeg) (xs (x3 + (5 : Int32)).toNatClampNeg) P.2) hfx rfl yc_L_41 rfl rfl ⟨by decide, by decide⟩ (Nat.le_of_ble_eq_true rfl) ⟨by omega, by omega⟩ rfl dL_law_392 ?_
  refine L_pop hC dL_law_395 rfl ?_
  refine L_aload_n hC dL_law_396 rfl ?_
  refine L_aload_n hC dL_law_397 rfl ?_
  refine L_iload_n hC dL_law_398 rfl ?_
  refine L_iconst (v := 1) hC dL_law_399 (by decide) ?_
  refine L_iadd hC dL_law_400 ?_
  refine L_sld hC hin1 dL_law_401 ?_
  refine L_aload_n hC dL_law_402 rfl ?_
  refine L_iload_n hC dL_law_403 rfl ?_
  refine L_iconst (v := 2) hC dL_law_404 (by decide) ?_
  refine L_iadd hC dL_law_405 ?_
  refine L_sld hC hin2 dL_law_406 ?_
  refine L_aload_n hC dL_law_407 rfl ?_
  refine L_iload_n hC dL_law_408 rfl ?_
  refine L_iconst (v := 3) hC dL_law_409 (by decide) ?_
  refine L_iadd hC dL_law_410 ?_
  refine L_sld hC hin3 dL_law_411 ?_
  refine L_aload_n hC dL_law_412 rfl ?_
  refine L_iload_n hC dL_law_413 rfl ?_
  refine L_iconst (v := 4) hC dL_law_414 (by decide) ?_
  refine L_iadd hC dL_law_415 ?_
  refine L_sld hC hin4 dL_law_416 ?_
  refine L_aload_n hC dL_law_417 rfl ?_
  refine L_iload_n hC dL_law_418 rfl ?_
  refine L_iconst (v := 5) hC dL_law_419 (by decide) ?_
  refine L_iadd hC dL_law_420 ?_
  refine L_sld hC hin5 dL_law_421 ?_
  refine L_callM (U := aVi) (As := [.int (xs (x3 + (1 : Int32)).toNatClampNeg), .int (xs (x3 + (2 : Int32)).toNatClampNeg), .int (xs (x3 + (3 : Int32)).toNatClampNeg), .int (xs (x3 + (4 : Int32)).toNatClampNeg), .int (xs (x3 + (5 : Int32)).toNatClampNeg)]) (st := []) (n := 5) (x := r2) (D2 := D2) hC hlay2 (fun l => mX11_feed l _ mL_ok (xs (x3 + (1 : Int32)).toNatClampNeg) (xs (x3 + (2 : Int32)).toNatClampNeg) (xs (x3 + (3 : Int32)).toNatClampNeg) (xs (x3 + (4 : Int32)).toNatClampNeg) (xs (x3 + (5 : Int32)).toNatClampNeg) Dm) hfm rfl yc_L_45 rfl rfl ⟨by decide, by decide⟩ (Nat.le_of_ble_eq_true rfl) ⟨by omega, by omega⟩ rfl dL_law_422 ?_
  refine L_pop hC dL_law_425 rfl ?_
  refine L_goto (tgt := 1254) hC dL_law_426 (by decide) ?_
  exact kk _ _ _ _ hI9 ⟨by omega, by omega⟩
def LOp7 (I J : APD → ADD → Prop) : Prop := ∀ P Dm, I P Dm → ∀ a1 : Int32, ∃ r1 D1 r2 D2, fX10_end a1 P.2 = some (r1, D1) ∧ fX11_end a1 Dm = some (r2, D2) ∧ True ∧ J (P.1, D1) D2
set_option maxHeartbeats 4000000 in
set_option maxRecDepth 100000 in
theorem law_c7 (hC : LC q b L xs G) (h : LLays (LB q) I) (hJ : ∀ P Dm, J P Dm → LLay P) (hin1 : vp_in (x3 + (1 : Int32)) L) (hin2 : vp_in (x3 + (2 : Int32)) L) (hin3 : vp_in (x3 + (3 : Int32)) L) (hin4 : vp_in (x3 + (4 : Int32)) L) (hin5 : vp_in (x3 + (5 : Int32)) L) (hcap : cl + 100 ≤ 75420 ∧ sl + 4000 ≤ 8875990) (hop : LOp7 I J) (hI : I P Dm) (kk : ∀ P2 Dm2 cl2 sl2, J P2 Dm2 → cl2 ≤ cl + 31 ∧ sl2 ≤ sl + 3553 → AL q b G cl2 sl2 1254 [some (.ref b), some (.ref (LB q + 0)), some (.ref (LB q + 58 + 0)), some (.int x3)] [] P2 Dm2) : AL q b G cl sl 429 [some (.ref b), some (.ref (LB q + 0)), some (.ref (LB q + 58 + 0)), some (.int x3)] [] P Dm := by
  obtain ⟨hlay, hLX, hLS1, im, him⟩ := h P Dm hI
  have hX0 : 0 ∈ P.1.2.1 ∧ P.1.2.2 0 = (9, 0, xTab_r0 (LB q)) := hLX 0 _ (List.mem_of_getElem? (i := 0) rfl)
  have hLX : aLX (LB q, G.1, G.2.1, G.2.2.1, G.2.2.2, P.1) := hLX
  have hLS : aLS (LB q, G.1, G.2.1, G.2.2.1, G.2.2.2, P.1) 1 := hLS1 _ _ _ _
  obtain ⟨r1, D1, r2, D2, hfx, hfm, hrr, hI9⟩ := hop P Dm hI (xs (x3 + (1 : Int32)).toNatClampNeg)
  have hlay2 : LLay (P.1, D1) := hlay
  refine L_aload_n hC dL_law_429 rfl ?_
  refine L_aload_n hC dL_law_430 rfl ?_
  refine L_iload_n hC dL_law_431 rfl ?_
  refine L_iconst (v := 1) hC dL_law_432 (by decide) ?_
  refine L_iadd hC dL_law_433 ?_
  refine L_sld hC hin1 dL_law_434 ?_
  refine L_callX (U := aVi) (As := [.int (xs (x3 + (1 : Int32)).toNatClampNeg)]) (st := []) (n := 1) (x := r1) (D2 := D1) hC hlay hX0 (fun l => mX10_end l _ hLX (xs (x3 + (1 : Int32)).toNatClampNeg) P.2) hfx rfl yc_L_46 rfl rfl ⟨by decide, by decide⟩ (Nat.le_of_ble_eq_true rfl) ⟨by omega, by omega⟩ rfl dL_law_435 ?_
  refine L_pop hC dL_law_438 rfl ?_
  refine L_aload_n hC dL_law_439 rfl ?_
  refine L_aload_n hC dL_law_440 rfl ?_
  refine L_iload_n hC dL_law_441 rfl ?_
  refine L_iconst (v := 1) hC dL_law_442 (by decide) ?_
  refine L_iadd hC dL_law_443 ?_
  refine L_sld hC hin1 dL_law_444 ?_
  refine L_callM (U := aVi) (As := [.int (xs (x3 + (1 : Int32)).toNatClampNeg)]) (st := []) (n := 1) (x := r2) (D2 := D2) hC hlay2 (fun l => mX11_end l _ mL_ok (xs (x3 + (1 : Int32)).toNatClampNeg) Dm) hfm rfl yc_L_50 rfl rfl ⟨by decide, by decide⟩ (Nat.le_of_ble_eq_true rfl) ⟨by omega, by omega⟩ rfl dL_law_445 ?_
  refine L_pop hC dL_law_448 rfl ?_
  refine L_goto (tgt := 1254) hC dL_law_449 (by decide) ?_
  exact kk _ _ _ _ hI9 ⟨by omega, by omega⟩

def LOp8 (I J : APD → ADD → Prop) : Prop := ∀ P Dm, I P Dm → ∀ a1 : Int32, (a1 = 0 ∨ a1 = 1) → ∃ r1 D1 r2 D2, fX10_text a1 P.2 = some (r1, D1) ∧ fX11_text a1 Dm = some (r2, D2) ∧ True ∧ J (P.1, D1) D2
set_option maxHeartbeats 4000000 in
set_option maxRecDepth 100000 in
theorem law_c8 (hC : LC q b L xs G) (h : LLays (LB q) I) (hJ : ∀ P Dm, J P Dm → LLay P) (hin1 : vp_in (x3 + (1 : Int32)) L) (hin2 : vp_in (x3 + (2 : Int32)) L) (hin3 : vp_in (x3 + (3 : Int32)) L) (hin4 : vp_in (x3 + (4 : Int32)) L) (hin5 : vp_in (x3 + (5 : Int32)) L) (hcap : cl + 100 ≤ 75420 ∧ sl + 4000 ≤ 8875990) (hop : LOp8 I J) (hI : I P Dm) (kk : ∀ P2 Dm2 cl2 sl2, J P2 Dm2 → cl2 ≤ cl + 31 ∧ sl2 ≤ sl + 3553 → AL q b G cl2 sl2 1254 [some (.ref b), some (.ref (LB q + 0)), some (.ref (LB q + 58 + 0)), some (.int x3)] [] P2 Dm2) : AL q b G cl sl 452 [some (.ref b), some (.ref (LB q + 0)), some (.ref (LB q + 58 + 0)), some (.int x3)] [] P Dm := by
  obtain ⟨hlay, hLX, hLS1, im, him⟩ := h P Dm hI
  have hX0 : 0 ∈ P.1.2.1 ∧ P.1.2.2 0 = (9, 0, xTab_r0 (LB q)) := hLX 0 _ (List.mem_of_getElem? (i := 0) rfl)
  have hLX : aLX (LB q, G.1, G.2.1, G.2.2.1, G.2.2.2, P.1) := hLX
  have hLS : aLS (LB q, G.1, G.2.1, G.2.2.1, G.2.2.2, P.1) 1 := hLS1 _ _ _ _
  by_cases hz : xs (x3 + (1 : Int32)).toNatClampNeg = 0
  · obtain ⟨r1, D1, r2, D2, hfx, hfm, hrr, hI9⟩ := hop P Dm hI 0 (Or.inl rfl)
    have hlay2 : LLay (P.1, D1) := hlay
    refine L_aload_n hC dL_law_452 rfl ?_
    refine L_aload_n hC dL_law_453 rfl ?_
    refine L_iload_n hC dL_law_454 rfl ?_
    refine L_iconst (v := 1) hC dL_law_455 (by decide) ?_
    refine L_iadd hC dL_law_456 ?_
    refine L_sld hC hin1 dL_law_457 ?_
    refine L_ifeq_t (tgt := 465) hC dL_law_458 (by decide) hz ?_
    refine L_iconst (v := 0) hC dL_law_465 (by decide) ?_
    refine L_callX (U := aVi) (As := [.int (0 : Int32)]) (st := []) (n := 1) (x := r1) (D2 := D1) hC hlay hX0 (fun l => mX10_text l _ hLX (0 : Int32) P.2) hfx rfl yc_L_51 rfl rfl ⟨by decide, by decide⟩ (Nat.le_of_ble_eq_true rfl) ⟨by omega, by omega⟩ rfl dL_law_466 ?_
    refine L_pop hC dL_law_469 rfl ?_
    refine L_aload_n hC dL_law_470 rfl ?_
    refine L_aload_n hC dL_law_471 rfl ?_
    refine L_iload_n hC dL_law_472 rfl ?_
    refine L_iconst (v := 1) hC dL_law_473 (by decide) ?_
    refine L_iadd hC dL_law_474 ?_
    refine L_sld hC hin1 dL_law_475 ?_
    refine L_ifeq_t (tgt := 483) hC dL_law_476 (by decide) hz ?_
    refine L_iconst (v := 0) hC dL_law_483 (by decide) ?_
    refine L_callM (U := aVi) (As := [.int (0 : Int32)]) (st := []) (n := 1) (x := r2) (D2 := D2) hC hlay2 (fun l => mX11_text l _ mL_ok (0 : Int32) Dm) hfm rfl yc_L_55 rfl rfl ⟨by decide, by decide⟩ (Nat.le_of_ble_eq_true rfl) ⟨by omega, by omega⟩ rfl dL_law_484 ?_
    refine L_pop hC dL_law_487 rfl ?_
    refine L_goto (tgt := 1254) hC dL_law_488 (by decide) ?_
    exact kk _ _ _ _ hI9 ⟨by omega, by omega⟩
  · obtain ⟨r1, D1, r2, D2, hfx, hfm, hrr, hI9⟩ := hop P Dm hI 1 (Or.inr rfl)
    have hlay2 : LLay (P.1, D1) := hlay
    refine L_aload_n hC dL_law_452 rfl ?_
    refine L_aload_n hC dL_law_453 rfl ?_
    refine L_iload_n hC dL_law_454 rfl ?_
    refine L_iconst (v := 1) hC dL_law_455 (by decide) ?_
    refine L_iadd hC dL_law_456 ?_
    refine L_sld hC hin1 dL_law_457 ?_
    refine L_ifeq_n (tgt := 465) hC dL_law_458 (by decide) hz ?_
    refine L_iconst (v := 1) hC dL_law_461 (by decide) ?_
    refine L_goto (tgt := 466) hC dL_law_462 (by decide) ?_
    refine L_callX (U := aVi) (As := [.int (1 : Int32)]) (st := []) (n := 1) (x := r1) (D2 := D1) hC hlay hX0 (fun l => mX10_text l _ hLX (1 : Int32) P.2) hfx rfl yc_L_51 rfl rfl ⟨by decide, by decide⟩ (Nat.le_of_ble_eq_true rfl) ⟨by omega, by omega⟩ rfl dL_law_466 ?_
    refine L_pop hC dL_law_469 rfl ?_
    refine L_aload_n hC dL_law_470 rfl ?_
    refine L_aload_n hC dL_law_471 rfl ?_
    refine L_iload_n hC dL_law_472 rfl ?_
    refine L_iconst (v := 1) hC dL_law_473 (by decide) ?_
    refine L_iadd hC dL_law_474 ?_
    refine L_sld hC hin1 dL_law_475 ?_
    refine L_ifeq_n (tgt := 483) hC dL_law_476 (by decide) hz ?_
    refine L_iconst (v := 1) hC dL_law_479 (by decide) ?_
    refine L_goto (tgt := 484) hC dL_law_480 (by decide) ?_
    refine L_callM (U := aVi) (As := [.int (1 : Int32)]) (st := []) (n := 1) (x := r2) (D2 := D2) hC hlay2 (fun l => mX11_text l _ mL_ok (1 : Int32) Dm) hfm rfl yc_L_55 rfl rfl ⟨by decide, by decide⟩ (Nat.le_of_ble_eq_true rfl) ⟨by omega, by omega⟩ rfl dL_law_484 ?_
    refine L_pop hC dL_law_487 rfl ?_
    refine L_goto (tgt := 1254) hC dL_law_488 (by decide) ?_
    exact kk _ _ _ _ hI9 ⟨by omega, by omega⟩
def LOp9 (I J : APD → ADD → Prop) : Prop := ∀ P Dm, I P Dm → ∀ a1 : Int32, ∃ r1 D1 r2 D2, fX10_fault a1 P.2 = some (r1, D1) ∧ fX11_fault a1 Dm = some (r2, D2) ∧ True ∧ J (P.1, D1) D2
set_option maxHeartbeats 4000000 in
set_option maxRecDepth 100000 in
theorem law_c9 (hC : LC q b L xs G) (h : LLays (LB q) I) (hJ : ∀ P Dm, J P Dm → LLay P) (hin1 : vp_in (x3 + (1 : Int32)) L) (hin2 : vp_in (x3 + (2 : Int32)) L) (hin3 : vp_in (x3 + (3 : Int32)) L) (hin4 : vp_in (x3 + (4 : Int32)) L) (hin5 : vp_in (x3 + (5 : Int32)) L) (hcap : cl + 100 ≤ 75420 ∧ sl + 4000 ≤ 8875990) (hop : LOp9 I J) (hI : I P Dm) (kk : ∀ P2 Dm2 cl2 sl2, J P2 Dm2 → cl2 ≤ cl + 31 ∧ sl2 ≤ sl + 3553 → AL q b G cl2 sl2 1254 [some (.ref b), some (.ref (LB q + 0)), some (.ref (LB q + 58 + 0)), some (.int x3)] [] P2 Dm2) : AL q b G cl sl 491 [some (.ref b), some (.ref (LB q + 0)), some (.ref (LB q + 58 + 0)), some (.int x3)] [] P Dm := by
  obtain ⟨hlay, hLX, hLS1, im, him⟩ := h P Dm hI
  have hX0 : 0 ∈ P.1.2.1 ∧ P.1.2.2 0 = (9, 0, xTab_r0 (LB q)) := hLX 0 _ (List.mem_of_getElem? (i := 0) rfl)
  have hLX : aLX (LB q, G.1, G.2.1, G.2.2.1, G.2.2.2, P.1) := hLX
  have hLS : aLS (LB q, G.1, G.2.1, G.2.2.1, G.2.2.2, P.1) 1 := hLS1 _ _ _ _
  obtain ⟨r1, D1, r2, D2, hfx, hfm, hrr, hI9⟩ := hop P Dm hI (xs (x3 + (1 : Int32)).toNatClampNeg)
  have hlay2 : LLay (P.1, D1) := hlay
  refine L_aload_n hC dL_law_491 rfl ?_
  refine L_aload_n hC dL_law_492 rfl ?_
  refine L_iload_n hC dL_law_493 rfl ?_
  refine L_iconst (v := 1) hC dL_law_494 (by decide) ?_
  refine L_iadd hC dL_law_495 ?_
  refine L_sld hC hin1 dL_law_496 ?_
  refine L_callX (U := aVi) (As := [.int (xs (x3 + (1 : Int32)).toNatClampNeg)]) (st := []) (n := 1) (x := r1) (D2 := D1) hC hlay hX0 (fun l => mX10_fault l _ hLX (xs (x3 + (1 : Int32)).toNatClampNeg) P.2) hfx rfl yc_L_56 rfl rfl ⟨by decide, by decide⟩ (Nat.le_of_ble_eq_true rfl) ⟨by omega, by omega⟩ rfl dL_law_497 ?_
  refine L_pop hC dL_law_500 rfl ?_
  refine L_aload_n hC dL_law_501 rfl ?_
  refine L_aload_n hC dL_law_502 rfl ?_
  refine L_iload_n hC dL_law_503 rfl ?_
  refine L_iconst (v := 1) hC dL_law_504 (by decide) ?_
  refine L_iadd hC dL_law_505 ?_
  refine L_sld hC hin1 dL_law_506 ?_
  refine L_callM (U := aVi) (As := [.int (xs (x3 + (1 : Int32)).toNatClampNeg)]) (st := []) (n := 1) (x := r2) (D2 := D2) hC hlay2 (fun l => mX11_fault l _ mL_ok (xs (x3 + (1 : Int32)).toNatClampNeg) Dm) hfm rfl yc_L_59 rfl rfl ⟨by decide, by decide⟩ (Nat.le_of_ble_eq_true rfl) ⟨by omega, by omega⟩ rfl dL_law_507 ?_
  refine L_pop hC dL_law_510 rfl ?_
  refine L_goto (tgt := 1254) hC dL_law_511 (by decide) ?_
  exact kk _ _ _ _ hI9 ⟨by omega, by omega⟩
def LOp10 (I J : APD → ADD → Prop) : Prop := ∀ P Dm, I P Dm → ∀ a1 a2 a3 a4 a5 : Int32, ∃ r1 D1 r2 D2, fX10_choose a1 a2 a3 a4 a5 P.2 = some (r1, D1) ∧ fX11_choose a1 a2 a3 a4 a5 Dm = some (r2, D2) ∧ True ∧ J (P.1, D1) D2
set_option maxHeartbeats 4000000 in
set_option maxRecDepth 100000 in
theorem law_c10 (hC : LC q b L xs G) (h : LLays (LB q) I) (hJ : ∀ P Dm, J P Dm → LLay P) (hin1 : vp_in (x3 + (1 : Int32)) L) (hin2 : vp_in (x3 + (2 : Int32)) L) (hin3 : vp_in (x3 + (3 : Int32)) L) (hin4 : vp_in (x3 + (4 : Int32)) L) (hin5 : vp_in (x3 + (5 : Int32)) L) (hcap : cl + 100 ≤ 75420 ∧ sl + 4000 ≤ 8875990) (hop : LOp10 I J) (hI : I P Dm) (kk : ∀ P2 Dm2 cl2 sl2, J P2 Dm2 → cl2 ≤ cl + 31 ∧ sl2 ≤ sl + 3553 → AL q b G cl2 sl2 1254 [some (.ref b), some (.ref (LB q + 0)), some (.ref (LB q + 58 + 0)), some (.int x3)] [] P2 Dm2) : AL q b G cl sl 514 [some (.ref b), some (.ref (LB q + 0)), some (.ref (LB q + 58 + 0)), some (.int x3)] [] P Dm := by
  obtain ⟨hlay, hLX, hLS1, im, him⟩ := h P Dm hI
  have hX0 : 0 ∈ P.1.2.1 ∧ P.1.2.2 0 = (9, 0, xTab_r0 (LB q)) := hLX 0 _ (List.mem_of_getElem? (i := 0) rfl)
  have hLX : aLX (LB q, G.1, G.2.1, G.2.2.1, G.2.2.2, P.1) := hLX
  have hLS : aLS (LB q, G.1, G.2.1, G.2.2.1, G.2.2.2, P.1) 1 := hLS1 _ _ _ _
  obtain ⟨r1, D1, r2, D2, hfx, hfm, hrr, hI9⟩ := hop P Dm hI (xs (x3 + (1 : Int32)).toNatClampNeg) (xs (x3 + (2 : Int32)).toNatClampNeg) (xs (x3 + (3 : Int32)).toNatClampNeg) (xs (x3 + (4 : Int32)).toNatClampNeg) (xs (x3 + (5 : Int32)).toNatClampNeg)
  have hlay2 : LLay (P.1, D1) := hlay
  refine L_aload_n hC dL_law_514 rfl ?_
  refine L_aload_n hC dL_law_515 rfl ?_
  refine L_iload_n hC dL_law_516 rfl ?_
  refine L_iconst (v := 1) hC dL_law_517 (by decide) ?_
  refine L_iadd hC dL_law_518 ?_
  refine L_sld hC hin1 dL_law_519 ?_
  refine L_aload_n hC dL_law_520 rfl ?_
  refine L_iload_n hC dL_law_521 rfl ?_
  refine L_iconst (v := 2) hC dL_law_522 (by decide) ?_
  refine L_iadd hC dL_law_523 ?_
  refine L_sld hC hin2 dL_law_524 ?_
  refine L_aload_n hC dL_law_525 rfl ?_
  refine L_iload_n hC dL_law_526 rfl ?_
  refine L_iconst (v := 3) hC dL_law_527 (by decide) ?_
  refine L_iadd hC dL_law_528 ?_
  refine L_sld hC hin3 dL_law_529 ?_
  refine L_aload_n hC dL_law_530 rfl ?_
  refine L_iload_n hC dL_law_531 rfl ?_
  refine L_iconst (v := 4) hC dL_law_532 (by decide) ?_
  refine L_iadd hC dL_law_533 ?_
  refine L_sld hC hin4 dL_law_534 ?_
  refine L_aload_n hC dL_law_535 rfl ?_
  refine L_iload_n hC dL_law_536 rfl ?_
  refine L_iconst (v := 5) hC dL_law_537 (by decide) ?_
  refine L_iadd hC dL_law_538 ?_
  refine L_sld hC hin5 dL_law_539 ?_
  refine L_callX (U := aVi) (As := [.int (xs (x3 + (1 : Int32)).toNatClampNeg), .int (xs (x3 + (2 : Int32)).toNatClampNeg), .int (xs (x3 + (3 : Int32)).toNatClampNeg), .int (xs (x3 + (4 : Int32)).toNatClampNeg), .int (xs (x3 + (5 : Int32)).toNatClampNeg)]) (st := []) (n := 5) (x := r1) (D2 := D1) hC hlay hX0 (fun l => mX10_choose l _ hLX (xs (x3 + (1 : Int32)).toNatClampNeg) (xs (x3 + (2 : Int32)).toNatClampNeg) (xs (x3 + (3 : Int32)).toNatClampNeg) (xs (x3 + (4 : Int32)).toNatClampNeg) (xs (x3 + (5 : Int32)).toNatClampNeg) P.2) hfx rfl yc_L_60 rfl rfl ⟨by decide, by decide⟩ (Nat.le_of_ble_eq_true rfl) ⟨by omega, by omega⟩ rfl dL_law_540 ?_
  refine L_pop hC dL_law_543 rfl ?_
  refine L_aload_n hC dL_law_544 rfl ?_
  refine L_aload_n hC dL_law_545 rfl ?_
  refine L_iload_n hC dL_law_546 rfl ?_
  refine L_iconst (v := 1) hC dL_law_547 (by decide) ?_
  refine L_iadd hC dL_law_548 ?_
  refine L_sld hC hin1 dL_law_549 ?_
  refine L_aload_n hC dL_law_550 rfl ?_
  refine L_iload_n hC dL_law_551 rfl ?_
  refine L_iconst (v := 2) hC dL_law_552 (by decide) ?_
  refine L_iadd hC dL_law_553 ?_
  refine L_sld hC hin2 dL_law_554 ?_
  refine L_aload_n hC dL_law_555 rfl ?_
  refine L_iload_n hC dL_law_556 rfl ?_
  refine L_iconst (v := 3) hC dL_law_557 (by decide) ?_
  refine L_iadd hC dL_law_558 ?_
  refine L_sld hC hin3 dL_law_559 ?_
  refine L_aload_n hC dL_law_560 rfl ?_
  refine L_iload_n hC dL_law_561 rfl ?_
  refine L_iconst (v := 4) hC dL_law_562 (by decide) ?_
  refine L_iadd hC dL_law_563 ?_
  refine L_sld hC hin4 dL_law_564 ?_
  refine L_aload_n hC dL_law_565 rfl ?_
  refine L_iload_n hC dL_law_566 rfl ?_
  refine L_iconst (v := 5) hC dL_law_567 (by decide) ?_
  refine L_iadd hC dL_law_568 ?_
  refine L_sld hC hin5 dL_law_569 ?_
  refine L_callM (U := aVi) (As := [.int (xs (x3 + (1 : Int32)).toNatClampNeg), .int (xs (x3 + (2 : Int32)).toNatClampNeg), .int (xs (x3 + (3 : Int32)).toNatClampNeg), .int (xs (x3 + (4 : Int32)).toNatClampNeg), .int (xs (x3 + (5 : Int32)).toNatClampNeg)]) (st := []) (n := 5) (x := r2) (D2 := D2) hC hlay2 (fun l => mX11_choose l _ mL_ok (xs (x3 + (1 : Int32)).toNatClampNeg) (xs (x3 + (2 : Int32)).toNatClampNeg) (xs (x3 + (3 : Int32)).toNatClampNeg) (xs (x3 + (4 : Int32)).toNatClampNeg) (xs (x3 + (5 : Int32)).toNatClampNeg) Dm) hfm rfl yc_L_64 rfl rfl ⟨by decide, by decide⟩ (Nat.le_of_ble_eq_true rfl) ⟨by omega, by omega⟩ rfl dL_law_570 ?_
  refine L_pop hC dL_law_573 rfl ?_
  refine L_goto (tgt := 1254) hC dL_law_574 (by decide) ?_
  exact kk _ _ _ _ hI9 ⟨by omega, by omega⟩
def LOp11 (I J : APD → ADD → Prop) : Prop := ∀ P Dm, I P Dm → ∀ a1 a2 : Int32, ∃ r1 D1 r2 D2, fX10_span a1 a2 P.2 = some (r1, D1) ∧ fX11_span a1 a2 Dm = some (r2, D2) ∧ True ∧ J (P.1, D1) D2
set_option maxHeartbeats 4000000 in
set_option maxRecDepth 100000 in
theorem law_c11 (hC : LC q b L xs G) (h : LLays (LB q) I) (hJ : ∀ P Dm, J P Dm → LLay P) (hin1 : vp_in (x3 + (1 : Int32)) L) (hin2 : vp_in (x3 + (2 : Int32)) L) (hin3 : vp_in (x3 + (3 : Int32)) L) (hin4 : vp_in (x3 + (4 : Int32)) L) (hin5 : vp_in (x3 + (5 : Int32)) L) (hcap : cl + 100 ≤ 75420 ∧ sl + 4000 ≤ 8875990) (hop : LOp11 I J) (hI : I P Dm) (kk : ∀ P2 Dm2 cl2 sl2, J P2 Dm2 → cl2 ≤ cl + 31 ∧ sl2 ≤ sl + 3553 → AL q b G cl2 sl2 1254 [some (.ref b), some (.ref (LB q + 0)), some (.ref (LB q + 58 + 0)), some (.int x3)] [] P2 Dm2) : AL q b G cl sl 577 [some (.ref b), some (.ref (LB q + 0)), some (.ref (LB q + 58 + 0)), some (.int x3)] [] P Dm := by
  obtain ⟨hlay, hLX, hLS1, im, him⟩ := h P Dm hI
  have hX0 : 0 ∈ P.1.2.1 ∧ P.1.2.2 0 = (9, 0, xTab_r0 (LB q)) := hLX 0 _ (List.mem_of_getElem? (i := 0) rfl)
  have hLX : aLX (LB q, G.1, G.2.1, G.2.2.1, G.2.2.2, P.1) := hLX
  have hLS : aLS (LB q, G.1, G.2.1, G.2.2.1, G.2.2.2, P.1) 1 := hLS1 _ _ _ _
  obtain ⟨r1, D1, r2, D2, hfx, hfm, hrr, hI9⟩ := hop P Dm hI (xs (x3 + (1 : Int32)).toNatClampNeg) (xs (x3 + (2 : Int32)).toNatClampNeg)
  have hlay2 : LLay (P.1, D1) := hlay
  refine L_aload_n hC dL_law_577 rfl ?_
  refine L_aload_n hC dL_law_578 rfl ?_
  refine L_iload_n hC dL_law_579 rfl ?_
  refine L_iconst (v := 1) hC dL_law_580 (by decide) ?_
  refine L_iadd hC dL_law_581 ?_
  refine L_sld hC hin1 dL_law_582 ?_
  refine L_aload_n hC dL_law_583 rfl ?_
  refine L_iload_n hC dL_law_584 rfl ?_
  refine L_iconst (v := 2) hC dL_law_585 (by decide) ?_
  refine L_iadd hC dL_law_586 ?_
  refine L_sld hC hin2 dL_law_587 ?_
  refine L_callX (U := aVi) (As := [.int (xs (x3 + (1 : Int32)).toNatClampNeg), .int (xs (x3 + (2 : Int32)).toNatClampNeg)]) (st := []) (n := 2) (x := r1) (D2 := D1) hC hlay hX0 (fun l => mX10_span l _ hLX (xs (x3 + (1 : Int32)).toNatClampNeg) (xs (x3 + (2 : Int32)).toNatClampNeg) P.2) hfx rfl yc_L_65 rfl rfl ⟨by decide, by decide⟩ (Nat.le_of_ble_eq_true rfl) ⟨by omega, by omega⟩ rfl dL_law_588 ?_
  refine L_pop hC dL_law_591 rfl ?_
  refine L_aload_n hC dL_law_592 rfl ?_
  refine L_aload_n hC dL_law_593 rfl ?_
  refine L_iload_n hC dL_law_594 rfl ?_
  refine L_iconst (v := 1) hC dL_law_595 (by decide) ?_
  refine L_iadd hC dL_law_596 ?_
  refine L_sld hC hin1 dL_law_597 ?_
  refine L_aload_n hC dL_law_598 rfl ?_
  refine L_iload_n hC dL_law_599 rfl ?_
  refine L_iconst (v := 2) hC dL_law_600 (by decide) ?_
  refine L_iadd hC dL_law_601 ?_
  refine L_sld hC hin2 dL_law_602 ?_
  refine L_callM (U := aVi) (As := [.int (xs (x3 + (1 : Int32)).toNatClampNeg), .int (xs (x3 + (2 : Int32)).toNatClampNeg)]) (st := []) (n := 2) (x := r2) (D2 := D2) hC hlay2 (fun l => mX11_span l _ mL_ok (xs (x3 + (1 : Int32)).toNatClampNeg) (xs (x3 + (2 : Int32)).toNatClampNeg) Dm) hfm rfl yc_L_68 rfl rfl ⟨by decide, by decide⟩ (Nat.le_of_ble_eq_true rfl) ⟨by omega, by omega⟩ rfl dL_law_603 ?_
  refine L_pop hC dL_law_606 rfl ?_
  refine L_goto (tgt := 1254) hC dL_law_607 (by decide) ?_
  exact kk _ _ _ _ hI9 ⟨by omega, by omega⟩
def LOp12 (I J : APD → ADD → Prop) : Prop := ∀ P Dm, I P Dm → ∀ a1 a2 a3 : Int32, ∃ r1 D1 r2 D2, fX10_by a1 a2 a3 P.2 = some (r1, D1) ∧ fX11_by a1 a2 a3 Dm = some (r2, D2) ∧ True ∧ J (P.1, D1) D2
set_option maxHeartbeats 4000000 in
set_option maxRecDepth 100000 in
theorem law_c12 (hC : LC q b L xs G) (h : LLays (LB q) I) (hJ : ∀ P Dm, J P Dm → LLay P) (hin1 : vp_in (x3 + (1 : Int32)) L) (hin2 : vp_in (x3 + (2 : Int32)) L) (hin3 : vp_in (x3 + (3 : Int32)) L) (hin4 : vp_in (x3 + (4 : Int32)) L) (hin5 : vp_in (x3 + (5 : Int32)) L) (hcap : cl + 100 ≤ 75420 ∧ sl + 4000 ≤ 8875990) (hop : LOp12 I J) (hI : I P Dm) (kk : ∀ P2 Dm2 cl2 sl2, J P2 Dm2 → cl2 ≤ cl + 31 ∧ sl2 ≤ sl + 3553 → AL q b G cl2 sl2 1254 [some (.ref b), some (.ref (LB q + 0)), some (.ref (LB q + 58 + 0)), some (.int x3)] [] P2 Dm2) : AL q b G cl sl 610 [some (.ref b), some (.ref (LB q + 0)), some (.ref (LB q + 58 + 0)), some (.int x3)] [] P Dm := by
  obtain ⟨hlay, hLX, hLS1, im, him⟩ := h P Dm hI
  have hX0 : 0 ∈ P.1.2.1 ∧ P.1.2.2 0 = (9, 0, xTab_r0 (LB q)) := hLX 0 _ (List.mem_of_getElem? (i := 0) rfl)
  have hLX : aLX (LB q, G.1, G.2.1, G.2.2.1, G.2.2.2, P.1) := hLX
  have hLS : aLS (LB q, G.1, G.2.1, G.2.2.1, G.2.2.2, P.1) 1 := hLS1 _ _ _ _
  obtain ⟨r1, D1, r2, D2, hfx, hfm, hrr, hI9⟩ := hop P Dm hI (xs (x3 + (1 : Int32)).toNatClampNeg) (xs (x3 + (2 : Int32)).toNatClampNeg) (xs (x3 + (3 : Int32)).toNatClampNeg)
  have hlay2 : LLay (P.1, D1) := hlay
  refine L_aload_n hC dL_law_610 rfl ?_
  refine L_aload_n hC dL_law_611 rfl ?_
  refine L_iload_n hC dL_law_612 rfl ?_
  refine L_iconst (v := 1) hC dL_law_613 (by decide) ?_
  refine L_iadd hC dL_law_614 ?_
  refine L_sld hC hin1 dL_law_615 ?_
  refine L_aload_n hC dL_law_616 rfl ?_
  refine L_iload_n hC dL_law_617 rfl ?_
  refine L_iconst (v := 2) hC dL_law_618 (by decide) ?_
  refine L_iadd hC dL_law_619 ?_
  refine L_sld hC hin2 dL_law_620 ?_
  refine L_aload_n hC dL_law_621 rfl ?_
  refine L_iload_n hC dL_law_622 rfl ?_
  refine L_iconst (v := 3) hC dL_law_623 (by decide) ?_
  refine L_iadd hC dL_law_624 ?_
  refine L_sld hC hin3 dL_law_625 ?_
  refine L_callX (U := aVi) (As := [.int (xs (x3 + (1 : Int32)).toNatClampNeg), .int (xs (x3 + (2 : Int32)).toNatClampNeg), .int (xs (x3 + (3 : Int32)).toNatClampNeg)]) (st := []) (n := 3) (x := r1) (D2 := D1) hC hlay hX0 (fun l => mX10_by l _ hLX (xs (x3 + (1 : Int32)).toNatClampNeg) (xs (x3 + (2 : Int32)).toNatClampNeg) (xs (x3 + (3 : Int32)).toNatClampNeg) P.2) hfx rfl yc_L_69 rfl rfl ⟨by decide, by decide⟩ (Nat.le_of_ble_eq_true rfl) ⟨by omega, by omega⟩ rfl dL_law_626 ?_
  refine L_pop hC dL_law_629 rfl ?_
  refine L_aload_n hC dL_law_630 rfl ?_
  refine L_aload_n hC dL_law_631 rfl ?_
  refine L_iload_n hC dL_law_632 rfl ?_
  refine L_iconst (v := 1) hC dL_law_633 (by decide) ?_
  refine L_iadd hC dL_law_634 ?_
  refine L_sld hC hin1 dL_law_635 ?_
  refine L_aload_n hC dL_law_636 rfl ?_
  refine L_iload_n hC dL_law_637 rfl ?_
  refine L_iconst (v := 2) hC dL_law_638 (by decide) ?_
  refine L_iadd hC dL_law_639 ?_
  refine L_sld hC hin2 dL_law_640 ?_
  refine L_aload_n hC dL_law_641 rfl ?_
  refine L_iload_n hC dL_law_642 rfl ?_
  refine L_iconst (v := 3) hC dL_law_643 (by decide) ?_
  refine L_iadd hC dL_law_644 ?_
  refine L_sld hC hin3 dL_law_645 ?_
  refine L_callM (U := aVi) (As := [.int (xs (x3 + (1 : Int32)).toNatClampNeg), .int (xs (x3 + (2 : Int32)).toNatClampNeg), .int (xs (x3 + (3 : Int32)).toNatClampNeg)]) (st := []) (n := 3) (x := r2) (D2 := D2) hC hlay2 (fun l => mX11_by l _ mL_ok (xs (x3 + (1 : Int32)).toNatClampNeg) (xs (x3 + (2 : Int32)).toNatClampNeg) (xs (x3 + (3 : Int32)).toNatClampNeg) Dm) hfm rfl yc_L_72 rfl rfl ⟨by decide, by decide⟩ (Nat.le_of_ble_eq_true rfl) ⟨by omega, by omega⟩ rfl dL_law_646 ?_
  refine L_pop hC dL_law_649 rfl ?_
  refine L_goto (tgt := 1254) hC dL_law_650 (by decide) ?_
  exact kk _ _ _ _ hI9 ⟨by omega, by omega⟩
def LOp13 (I J : APD → ADD → Prop) : Prop := ∀ P Dm, I P Dm → ∀ a1 : Int32, ∃ r1 D1 r2 D2, fX10_score a1 P.2 = some (r1, D1) ∧ fX11_score a1 Dm = some (r2, D2) ∧ True ∧ J (P.1, D1) D2
set_option maxHeartbeats 4000000 in
set_option maxRecDepth 100000 in
theorem law_c13 (hC : LC q b L xs G) (h : LLays (LB q) I) (hJ : ∀ P Dm, J P Dm → LLay P) (hin1 : vp_in (x3 + (1 : Int32)) L) (hin2 : vp_in (x3 + (2 : Int32)) L) (hin3 : vp_in (x3 + (3 : Int32)) L) (hin4 : vp_in (x3 + (4 : Int32)) L) (hin5 : vp_in (x3 + (5 : Int32)) L) (hcap : cl + 100 ≤ 75420 ∧ sl + 4000 ≤ 8875990) (hop : LOp13 I J) (hI : I P Dm) (kk : ∀ P2 Dm2 cl2 sl2, J P2 Dm2 → cl2 ≤ cl + 31 ∧ sl2 ≤ sl + 3553 → AL q b G cl2 sl2 1254 [some (.ref b), some (.ref (LB q + 0)), some (.ref (LB q + 58 + 0)), some (.int x3)] [] P2 Dm2) : AL q b G cl sl 653 [some (.ref b), some (.ref (LB q + 0)), some (.ref (LB q + 58 + 0)), some (.int x3)] [] P Dm := by
  obtain ⟨hlay, hLX, hLS1, im, him⟩ := h P Dm hI
  have hX0 : 0 ∈ P.1.2.1 ∧ P.1.2.2 0 = (9, 0, xTab_r0 (LB q)) := hLX 0 _ (List.mem_of_getElem? (i := 0) rfl)
  have hLX : aLX (LB q, G.1, G.2.1, G.2.2.1, G.2.2.2, P.1) := hLX
  have hLS : aLS (LB q, G.1, G.2.1, G.2.2.1, G.2.2.2, P.1) 1 := hLS1 _ _ _ _
  obtain ⟨r1, D1, r2, D2, hfx, hfm, hrr, hI9⟩ := hop P Dm hI (xs (x3 + (1 : Int32)).toNatClampNeg)
  have hlay2 : LLay (P.1, D1) := hlay
  refine L_aload_n hC dL_law_653 rfl ?_
  refine L_aload_n hC dL_law_654 rfl ?_
  refine L_iload_n hC dL_law_655 rfl ?_
  refine L_iconst (v := 1) hC dL_law_656 (by decide) ?_
  refine L_iadd hC dL_law_657 ?_
  refine L_sld hC hin1 dL_law_658 ?_
  refine L_callX (U := aVi) (As := [.int (xs (x3 + (1 : Int32)).toNatClampNeg)]) (st := []) (n := 1) (x := r1) (D2 := D1) hC hlay hX0 (fun l => mX10_score l _ hLX (xs (x3 + (1 : Int32)).toNatClampNeg) P.2) hfx rfl yc_L_73 rfl rfl ⟨by decide, by decide⟩ (Nat.le_of_ble_eq_true rfl) ⟨by omega, by omega⟩ rfl dL_law_659 ?_
  refine L_pop hC dL_law_662 rfl ?_
  refine L_aload_n hC dL_law_663 rfl ?_
  refine L_aload_n hC dL_law_664 rfl ?_
  refine L_iload_n hC dL_law_665 rfl ?_
  refine L_iconst (v := 1) hC dL_law_666 (by decide) ?_
  refine L_iadd hC dL_law_667 ?_
  refine L_sld hC hin1 dL_law_668 ?_
  refine L_callM (U := aVi) (As := [.int (xs (x3 + (1 : Int32)).toNatClampNeg)]) (st := []) (n := 1) (x := r2) (D2 := D2) hC hlay2 (fun l => mX11_score l _ mL_ok (xs (x3 + (1 : Int32)).toNatClampNeg) Dm) hfm rfl yc_L_76 rfl rfl ⟨by decide, by decide⟩ (Nat.le_of_ble_eq_true rfl) ⟨by omega, by omega⟩ rfl dL_law_669 ?_
  refine L_pop hC dL_law_672 rfl ?_
  refine L_goto (tgt := 1254) hC dL_law_673 (by decide) ?_
  exact kk _ _ _ _ hI9 ⟨by omega, by omega⟩
def LOp14 (I J : APD → ADD → Prop) : Prop := ∀ P Dm, I P Dm → ∀ a1 a2 : Int32, ∃ r1 D1 r2 D2, fX10_best a1 a2 P.2 = some (r1, D1) ∧ fX11_best a1 a2 Dm = some (r2, D2) ∧ True ∧ J (P.1, D1) D2
set_option maxHeartbeats 4000000 in
set_option maxRecDepth 100000 in
theorem law_c14 (hC : LC q b L xs G) (h : LLays (LB q) I) (hJ : ∀ P Dm, J P Dm → LLay P) (hin1 : vp_in (x3 + (1 : Int32)) L) (hin2 : vp_in (x3 + (2 : Int32)) L) (hin3 : vp_in (x3 + (3 : Int32)) L) (hin4 : vp_in (x3 + (4 : Int32)) L) (hin5 : vp_in (x3 + (5 : Int32)) L) (hcap : cl + 100 ≤ 75420 ∧ sl + 4000 ≤ 8875990) (hop : LOp14 I J) (hI : I P Dm) (kk : ∀ P2 Dm2 cl2 sl2, J P2 Dm2 → cl2 ≤ cl + 31 ∧ sl2 ≤ sl + 3553 → AL q b G cl2 sl2 1254 [some (.ref b), some (.ref (LB q + 0)), some (.ref (LB q + 58 + 0)), some (.int x3)] [] P2 Dm2) : AL q b G cl sl 676 [some (.ref b), some (.ref (LB q + 0)), some (.ref (LB q + 58 + 0)), some (.int x3)] [] P Dm := by
  obtain ⟨hlay, hLX, hLS1, im, him⟩ := h P Dm hI
  have hX0 : 0 ∈ P.1.2.1 ∧ P.1.2.2 0 = (9, 0, xTab_r0 (LB q)) := hLX 0 _ (List.mem_of_getElem? (i := 0) rfl)
  have hLX : aLX (LB q, G.1, G.2.1, G.2.2.1, G.2.2.2, P.1) := hLX
  have hLS : aLS (LB q, G.1, G.2.1, G.2.2.1, G.2.2.2, P.1) 1 := hLS1 _ _ _ _
  obtain ⟨r1, D1, r2, D2, hfx, hfm, hrr, hI9⟩ := hop P Dm hI (xs (x3 + (1 : Int32)).toNatClampNeg) (xs (x3 + (2 : Int32)).toNatClampNeg)
  have hlay2 : LLay (P.1, D1) := hlay
  refine L_aload_n hC dL_law_676 rfl ?_
  refine L_aload_n hC dL_law_677 rfl ?_
  refine L_iload_n hC dL_law_678 rfl ?_
  refine L_iconst (v := 1) hC dL_law_679 (by decide) ?_
  refine L_iadd hC dL_law_680 ?_
  refine L_sld hC hin1 dL_law_681 ?_
  refine L_aload_n hC dL_law_682 rfl ?_
  refine L_iload_n hC dL_law_683 rfl ?_
  refine L_iconst (v := 2) hC dL_law_684 (by decide) ?_
  refine L_iadd hC dL_law_685 ?_
  refine L_sld hC hin2 dL_law_686 ?_
  refine L_callX (U := aVi) (As := [.int (xs (x3 + (1 : Int32)).toNatClampNeg), .int (xs (x3 + (2 : Int32)).toNatClampNeg)]) (st := []) (n := 2) (x := r1) (D2 := D1) hC hlay hX0 (fun l => mX10_best l _ hLX (xs (x3 + (1 : Int32)).toNatClampNeg) (xs (x3 + (2 : Int32)).toNatClampNeg) P.2) hfx rfl yc_L_77 rfl rfl ⟨by decide, by decide⟩ (Nat.le_of_ble_eq_true rfl) ⟨by omega, by omega⟩ rfl dL_law_687 ?_
  refine L_pop hC dL_law_690 rfl ?_
  refine L_aload_n hC dL_law_691 rfl ?_
  refine L_aload_n hC dL_law_692 rfl ?_
  refine L_iload_n hC dL_law_693 rfl ?_
  refine L_iconst (v := 1) hC dL_law_694 (by decide) ?_
  refine L_iadd hC dL_law_695 ?_
  refine L_sld hC hin1 dL_law_696 ?_
  refine L_aload_n hC dL_law_697 rfl ?_
  refine L_iload_n hC dL_law_698 rfl ?_
  refine L_iconst (v := 2) hC dL_law_699 (by decide) ?_
  refine L_iadd hC dL_law_700 ?_
  refine L_sld hC hin2 dL_law_701 ?_
  refine L_callM (U := aVi) (As := [.int (xs (x3 + (1 : Int32)).toNatClampNeg), .int (xs (x3 + (2 : Int32)).toNatClampNeg)]) (st := []) (n := 2) (x := r2) (D2 := D2) hC hlay2 (fun l => mX11_best l _ mL_ok (xs (x3 + (1 : Int32)).toNatClampNeg) (xs (x3 + (2 : Int32)).toNatClampNeg) Dm) hfm rfl yc_L_80 rfl rfl ⟨by decide, by decide⟩ (Nat.le_of_ble_eq_true rfl) ⟨by omega, by omega⟩ rfl dL_law_702 ?_
  refine L_pop hC dL_law_705 rfl ?_
  refine L_goto (tgt := 1254) hC dL_law_706 (by decide) ?_
  exact kk _ _ _ _ hI9 ⟨by omega, by omega⟩
def LOp15 (I J : APD → ADD → Prop) : Prop := ∀ P Dm, I P Dm → ∀ a1 a2 a3 : Int32, ∃ r1 D1 r2 D2, fX10_peak a1 a2 a3 P.2 = some (r1, D1) ∧ fX11_peak a1 a2 a3 Dm = some (r2, D2) ∧ True ∧ J (P.1, D1) D2
set_option maxHeartbeats 4000000 in
set_option maxRecDepth 100000 in
theorem law_c15 (hC : LC q b L xs G) (h : LLays (LB q) I) (hJ : ∀ P Dm, J P Dm → LLay P) (hin1 : vp_in (x3 + (1 : Int32)) L) (hin2 : vp_in (x3 + (2 : Int32)) L) (hin3 : vp_in (x3 + (3 : Int32)) L) (hin4 : vp_in (x3 + (4 : Int32)) L) (hin5 : vp_in (x3 + (5 : Int32)) L) (hcap : cl + 100 ≤ 75420 ∧ sl + 4000 ≤ 8875990) (hop : LOp15 I J) (hI : I P Dm) (kk : ∀ P2 Dm2 cl2 sl2, J P2 Dm2 → cl2 ≤ cl + 31 ∧ sl2 ≤ sl + 3553 → AL q b G cl2 sl2 1254 [some (.ref b), some (.ref (LB q + 0)), some (.ref (LB q + 58 + 0)), some (.int x3)] [] P2 Dm2) : AL q b G cl sl 709 [some (.ref b), some (.ref (LB q + 0)), some (.ref (LB q + 58 + 0)), some (.int x3)] [] P Dm := by
  obtain ⟨hlay, hLX, hLS1, im, him⟩ := h P Dm hI
  have hX0 : 0 ∈ P.1.2.1 ∧ P.1.2.2 0 = (9, 0, xTab_r0 (LB q)) := hLX 0 _ (List.mem_of_getElem? (i := 0) rfl)
  have hLX : aLX (LB q, G.1, G.2.1, G.2.2.1, G.2.2.2, P.1) := hLX
  have hLS : aLS (LB q, G.1, G.2.1, G.2.2.1, G.2.2.2, P.1) 1 := hLS1 _ _ _ _
  obtain ⟨r1, D1, r2, D2, hfx, hfm, hrr, hI9⟩ := hop P Dm hI (xs (x3 + (1 : Int32)).toNatClampNeg) (xs (x3 + (2 : Int32)).toNatClampNeg) (xs (x3 + (3 : Int32)).toNatClampNeg)
  have hlay2 : LLay (P.1, D1) := hlay
  refine L_aload_n hC dL_law_709 rfl ?_
  refine L_aload_n hC dL_law_710 rfl ?_
  refine L_iload_n hC dL_law_711 rfl ?_
  refine L_iconst (v := 1) hC dL_law_712 (by decide) ?_
  refine L_iadd hC dL_law_713 ?_
  refine L_sld hC hin1 dL_law_714 ?_
  refine L_aload_n hC dL_law_715 rfl ?_
  refine L_iload_n hC dL_law_716 rfl ?_
  refine L_iconst (v := 2) hC dL_law_717 (by decide) ?_
  refine L_iadd hC dL_law_718 ?_
  refine L_sld hC hin2 dL_law_719 ?_
  refine L_aload_n hC dL_law_720 rfl ?_
  refine L_iload_n hC dL_law_721 rfl ?_
  refine L_iconst (v := 3) hC dL_law_722 (by decide) ?_
  refine L_iadd hC dL_law_723 ?_
  refine L_sld hC hin3 dL_law_724 ?_
  refine L_callX (U := aVi) (As := [.int (xs (x3 + (1 : Int32)).toNatClampNeg), .int (xs (x3 + (2 : Int32)).toNatClampNeg), .int (xs (x3 + (3 : Int32)).toNatClampNeg)]) (st := []) (n := 3) (x := r1) (D2 := D1) hC hlay hX0 (fun l => mX10_peak l _ hLX (xs (x3 + (1 : Int32)).toNatClampNeg) (xs (x3 + (2 : Int32)).toNatClampNeg) (xs (x3 + (3 : Int32)).toNatClampNeg) P.2) hfx rfl yc_L_81 rfl rfl ⟨by decide, by decide⟩ (Nat.le_of_ble_eq_true rfl) ⟨by omega, by omega⟩ rfl dL_law_725 ?_
  refine L_pop hC dL_law_728 rfl ?_
  refine L_aload_n hC dL_law_729 rfl ?_
  refine L_aload_n hC dL_law_730 rfl ?_
  refine L_iload_n hC dL_law_731 rfl ?_
  refine L_iconst (v := 1) hC dL_law_732 (by decide) ?_
  refine L_iadd hC dL_law_733 ?_
  refine L_sld hC hin1 dL_law_734 ?_
  refine L_aload_n hC dL_law_735 rfl ?_
  refine L_iload_n hC dL_law_736 rfl ?_
  refine L_iconst (v := 2) hC dL_law_737 (by decide) ?_
  refine L_iadd hC dL_law_738 ?_
  refine L_sld hC hin2 dL_law_739 ?_
  refine L_aload_n hC dL_law_740 rfl ?_
  refine L_iload_n hC dL_law_741 rfl ?_
  refine L_iconst (v := 3) hC dL_law_742 (by decide) ?_
  refine L_iadd hC dL_law_743 ?_
  refine L_sld hC hin3 dL_law_744 ?_
  refine L_callM (U := aVi) (As := [.int (xs (x3 + (1 : Int32)).toNatClampNeg), .int (xs (x3 + (2 : Int32)).toNatClampNeg), .int (xs (x3 + (3 : Int32)).toNatClampNeg)]) (st := []) (n := 3) (x := r2) (D2 := D2) hC hlay2 (fun l => mX11_peak l _ mL_ok (xs (x3 + (1 : Int32)).toNatClampNeg) (xs (x3 + (2 : Int32)).toNatClampNeg) (xs (x3 + (3 : Int32)).toNatClampNeg) Dm) hfm rfl yc_L_84 rfl rfl ⟨by decide, by decide⟩ (Nat.le_of_ble_eq_true rfl) ⟨by omega, by omega⟩ rfl dL_law_745 ?_
  refine L_pop hC dL_law_748 rfl ?_
  refine L_goto (tgt := 1254) hC dL_law_749 (by decide) ?_
  exact kk _ _ _ _ hI9 ⟨by omega, by omega⟩
def LOp16 (I J : APD → ADD → Prop) : Prop := ∀ P Dm, I P Dm → ∀ a1 a2 : Int32, ∃ r1 D1 r2 D2, fX10_pair a1 a2 P.2 = some (r1, D1) ∧ fX11_pair a1 a2 Dm = some (r2, D2) ∧ True ∧ J (P.1, D1) D2
set_option maxHeartbeats 4000000 in
set_option maxRecDepth 100000 in
theorem law_c16 (hC : LC q b L xs G) (h : LLays (LB q) I) (hJ : ∀ P Dm, J P Dm → LLay P) (hin1 : vp_in (x3 + (1 : Int32)) L) (hin2 : vp_in (x3 + (2 : Int32)) L) (hin3 : vp_in (x3 + (3 : Int32)) L) (hin4 : vp_in (x3 + (4 : Int32)) L) (hin5 : vp_in (x3 + (5 : Int32)) L) (hcap : cl + 100 ≤ 75420 ∧ sl + 4000 ≤ 8875990) (hop : LOp16 I J) (hI : I P Dm) (kk : ∀ P2 Dm2 cl2 sl2, J P2 Dm2 → cl2 ≤ cl + 31 ∧ sl2 ≤ sl + 3553 → AL q b G cl2 sl2 1254 [some (.ref b), some (.ref (LB q + 0)), some (.ref (LB q + 58 + 0)), some (.int x3)] [] P2 Dm2) : AL q b G cl sl 752 [some (.ref b), some (.ref (LB q + 0)), some (.ref (LB q + 58 + 0)), some (.int x3)] [] P Dm := by
  obtain ⟨hlay, hLX, hLS1, im, him⟩ := h P Dm hI
  have hX0 : 0 ∈ P.1.2.1 ∧ P.1.2.2 0 = (9, 0, xTab_r0 (LB q)) := hLX 0 _ (List.mem_of_getElem? (i := 0) rfl)
  have hLX : aLX (LB q, G.1, G.2.1, G.2.2.1, G.2.2.2, P.1) := hLX
  have hLS : aLS (LB q, G.1, G.2.1, G.2.2.1, G.2.2.2, P.1) 1 := hLS1 _ _ _ _
  obtain ⟨r1, D1, r2, D2, hfx, hfm, hrr, hI9⟩ := hop P Dm hI (xs (x3 + (1 : Int32)).toNatClampNeg) (xs (x3 + (2 : Int32)).toNatClampNeg)
  have hlay2 : LLay (P.1, D1) := hlay
  refine L_aload_n hC dL_law_752 rfl ?_
  refine L_aload_n hC dL_law_753 rfl ?_
  refine L_iload_n hC dL_law_754 rfl ?_
  refine L_iconst (v := 1) hC dL_law_755 (by decide) ?_
  refine L_iadd hC dL_law_756 ?_
  refine L_sld hC hin1 dL_law_757 ?_
  refine L_aload_n hC dL_law_758 rfl ?_
  refine L_iload_n hC dL_law_759 rfl ?_
  refine L_iconst (v := 2) hC dL_law_760 (by decide) ?_
  refine L_iadd hC dL_law_761 ?_
  refine L_sld hC hin2 dL_law_762 ?_
  refine L_callX (U := aVi) (As := [.int (xs (x3 + (1 : Int32)).toNatClampNeg), .int (xs (x3 + (2 : Int32)).toNatClampNeg)]) (st := []) (n := 2) (x := r1) (D2 := D1) hC hlay hX0 (fun l => mX10_pair l _ hLX (xs (x3 + (1 : Int32)).toNatClampNeg) (xs (x3 + (2 : Int32)).toNatClampNeg) P.2) hfx rfl yc_L_85 rfl rfl ⟨by decide, by decide⟩ (Nat.le_of_ble_eq_true rfl) ⟨by omega, by omega⟩ rfl dL_law_763 ?_
  refine L_pop hC dL_law_766 rfl ?_
  refine L_aload_n hC dL_law_767 rfl ?_
  refine L_aload_n hC dL_law_768 rfl ?_
  refine L_iload_n hC dL_law_769 rfl ?_
  refine L_iconst (v := 1) hC dL_law_770 (by decide) ?_
  refine L_iadd hC dL_law_771 ?_
  refine L_sld hC hin1 dL_law_772 ?_
  refine L_aload_n hC dL_law_773 rfl ?_
  refine L_iload_n hC dL_law_774 rfl ?_
  refine L_iconst (v := 2) hC dL_law_775 (by decide) ?_
  refine L_iadd hC dL_law_776 ?_
  refine L_sld hC hin2 dL_law_777 ?_
  refine L_callM (U := aVi) (As := [.int (xs (x3 + (1 : Int32)).toNatClampNeg), .int (xs (x3 + (2 : Int32)).toNatClampNeg)]) (st := []) (n := 2) (x := r2) (D2 := D2) hC hlay2 (fun l => mX11_pair l _ mL_ok (xs (x3 + (1 : Int32)).toNatClampNeg) (xs (x3 + (2 : Int32)).toNatClampNeg) Dm) hfm rfl yc_L_88 rfl rfl ⟨by decide, by decide⟩ (Nat.le_of_ble_eq_true rfl) ⟨by omega, by omega⟩ rfl dL_law_778 ?_
  refine L_pop hC dL_law_781 rfl ?_
  refine L_goto (tgt := 1254) hC dL_law_782 (by decide) ?_
  exact kk _ _ _ _ hI9 ⟨by omega, by omega⟩
def LOp17 (I J : APD → ADD → Prop) : Prop := ∀ P Dm, I P Dm → ∀ a1 a2 : Int32, ∃ r1 D1 r2 D2, fX10_sum a1 a2 P.2 = some (r1, D1) ∧ fX11_sum a1 a2 Dm = some (r2, D2) ∧ True ∧ J (P.1, D1) D2
set_option maxHeartbeats 4000000 in
set_option maxRecDepth 100000 in
theorem law_c17 (hC : LC q b L xs G) (h : LLays (LB q) I) (hJ : ∀ P Dm, J P Dm → LLay P) (hin1 : vp_in (x3 + (1 : Int32)) L) (hin2 : vp_in (x3 + (2 : Int32)) L) (hin3 : vp_in (x3 + (3 : Int32)) L) (hin4 : vp_in (x3 + (4 : Int32)) L) (hin5 : vp_in (x3 + (5 : Int32)) L) (hcap : cl + 100 ≤ 75420 ∧ sl + 4000 ≤ 8875990) (hop : LOp17 I J) (hI : I P Dm) (kk : ∀ P2 Dm2 cl2 sl2, J P2 Dm2 → cl2 ≤ cl + 31 ∧ sl2 ≤ sl + 3553 → AL q b G cl2 sl2 1254 [some (.ref b), some (.ref (LB q + 0)), some (.ref (LB q + 58 + 0)), some (.int x3)] [] P2 Dm2) : AL q b G cl sl 785 [some (.ref b), some (.ref (LB q + 0)), some (.ref (LB q + 58 + 0)), some (.int x3)] [] P Dm := by
  obtain ⟨hlay, hLX, hLS1, im, him⟩ := h P Dm hI
  have hX0 : 0 ∈ P.1.2.1 ∧ P.1.2.2 0 = (9, 0, xTab_r0 (LB q)) := hLX 0 _ (List.mem_of_getElem? (i := 0) rfl)
  have hLX : aLX (LB q, G.1, G.2.1, G.2.2.1, G.2.2.2, P.1) := hLX
  have hLS : aLS (LB q, G.1, G.2.1, G.2.2.1, G.2.2.2, P.1) 1 := hLS1 _ _ _ _
  obtain ⟨r1, D1, r2, D2, hfx, hfm, hrr, hI9⟩ := hop P Dm hI (xs (x3 + (1 : Int32)).toNatClampNeg) (xs (x3 + (2 : Int32)).toNatClampNeg)
  have hlay2 : LLay (P.1, D1) := hlay
  refine L_aload_n hC dL_law_785 rfl ?_
  refine L_aload_n hC dL_law_786 rfl ?_
  refine L_iload_n hC dL_law_787 rfl ?_
  refine L_iconst (v := 1) hC dL_law_788 (by decide) ?_
  refine L_iadd hC dL_law_789 ?_
  refine L_sld hC hin1 dL_law_790 ?_
  refine L_aload_n hC dL_law_791 rfl ?_
  refine L_iload_n hC dL_law_792 rfl ?_
  refine L_iconst (v := 2) hC dL_law_793 (by decide) ?_
  refine L_iadd hC dL_law_794 ?_
  refine L_sld hC hin2 dL_law_795 ?_
  refine L_callX (U := aVl) (As := [.int (xs (x3 + (1 : Int32)).toNatClampNeg), .int (xs (x3 + (2 : Int32)).toNatClampNeg)]) (st := []) (n := 2) (x := r1) (D2 := D1) hC hlay hX0 (fun l => mX10_sum l _ hLX (xs (x3 + (1 : Int32)).toNatClampNeg) (xs (x3 + (2 : Int32)).toNatClampNeg) P.2) hfx rfl yc_L_89 rfl rfl ⟨by decide, by decide⟩ (Nat.le_of_ble_eq_true rfl) ⟨by omega, by omega⟩ rfl dL_law_796 ?_
  refine L_pop2 hC dL_law_799 rfl ?_
  refine L_aload_n hC dL_law_800 rfl ?_
  refine L_aload_n hC dL_law_801 rfl ?_
  refine L_iload_n hC dL_law_802 rfl ?_
  refine L_iconst (v := 1) hC dL_law_803 (by decide) ?_
  refine L_iadd hC dL_law_804 ?_
  refine L_sld hC hin1 dL_law_805 ?_
  refine L_aload_n hC dL_law_806 rfl ?_
  refine L_iload_n hC dL_law_807 rfl ?_
  refine L_iconst (v := 2) hC dL_law_808 (by decide) ?_
  refine L_iadd hC dL_law_809 ?_
  refine L_sld hC hin2 dL_law_810 ?_
  refine L_callM (U := aVl) (As := [.int (xs (x3 + (1 : Int32)).toNatClampNeg), .int (xs (x3 + (2 : Int32)).toNatClampNeg)]) (st := []) (n := 2) (x := r2) (D2 := D2) hC hlay2 (fun l => mX11_sum l _ mL_ok (xs (x3 + (1 : Int32)).toNatClampNeg) (xs (x3 + (2 : Int32)).toNatClampNeg) Dm) hfm rfl yc_L_93 rfl rfl ⟨by decide, by decide⟩ (Nat.le_of_ble_eq_true rfl) ⟨by omega, by omega⟩ rfl dL_law_811 ?_
  refine L_pop2 hC dL_law_814 rfl ?_
  refine L_goto (tgt := 1254) hC dL_law_815 (by decide) ?_
  exact kk _ _ _ _ hI9 ⟨by omega, by omega⟩
def LOp18 (I J : APD → ADD → Prop) : Prop := ∀ P Dm, I P Dm → ∀ a1 : Int32, ∃ r1 D1 r2 D2, fX10_chance a1 P.2 = some (r1, D1) ∧ fX11_chance a1 Dm = some (r2, D2) ∧ True ∧ J (P.1, D1) D2
set_option maxHeartbeats 4000000 in
set_option maxRecDepth 100000 in
theorem law_c18 (hC : LC q b L xs G) (h : LLays (LB q) I) (hJ : ∀ P Dm, J P Dm → LLay P) (hin1 : vp_in (x3 + (1 : Int32)) L) (hin2 : vp_in (x3 + (2 : Int32)) L) (hin3 : vp_in (x3 + (3 : Int32)) L) (hin4 : vp_in (x3 + (4 : Int32)) L) (hin5 : vp_in (x3 + (5 : Int32)) L) (hcap : cl + 100 ≤ 75420 ∧ sl + 4000 ≤ 8875990) (hop : LOp18 I J) (hI : I P Dm) (kk : ∀ P2 Dm2 cl2 sl2, J P2 Dm2 → cl2 ≤ cl + 31 ∧ sl2 ≤ sl + 3553 → AL q b G cl2 sl2 1254 [some (.ref b), some (.ref (LB q + 0)), some (.ref (LB q + 58 + 0)), some (.int x3)] [] P2 Dm2) : AL q b G cl sl 818 [some (.ref b), some (.ref (LB q + 0)), some (.ref (LB q + 58 + 0)), some (.int x3)] [] P Dm := by
  obtain ⟨hlay, hLX, hLS1, im, him⟩ := h P Dm hI
  have hX0 : 0 ∈ P.1.2.1 ∧ P.1.2.2 0 = (9, 0, xTab_r0 (LB q)) := hLX 0 _ (List.mem_of_getElem? (i := 0) rfl)
  have hLX : aLX (LB q, G.1, G.2.1, G.2.2.1, G.2.2.2, P.1) := hLX
  have hLS : aLS (LB q, G.1, G.2.1, G.2.2.1, G.2.2.2, P.1) 1 := hLS1 _ _ _ _
  obtain ⟨r1, D1, r2, D2, hfx, hfm, hrr, hI9⟩ := hop P Dm hI (xs (x3 + (1 : Int32)).toNatClampNeg)
  have hlay2 : LLay (P.1, D1) := hlay
  refine L_aload_n hC dL_law_818 rfl ?_
  refine L_aload_n hC dL_law_819 rfl ?_
  refine L_iload_n hC dL_law_820 rfl ?_
  refine L_iconst (v := 1) hC dL_law_821 (by decide) ?_
  refine L_iadd hC dL_law_822 ?_
  refine L_sld hC hin1 dL_law_823 ?_
  refine L_callX (U := aVi) (As := [.int (xs (x3 + (1 : Int32)).toNatClampNeg)]) (st := []) (n := 1) (x := r1) (D2 := D1) hC hlay hX0 (fun l => mX10_chance l _ hLX (xs (x3 + (1 : Int32)).toNatClampNeg) P.2) hfx rfl yc_L_94 rfl rfl ⟨by decide, by decide⟩ (Nat.le_of_ble_eq_true rfl) ⟨by omega, by omega⟩ rfl dL_law_824 ?_
  refine L_pop hC dL_law_827 rfl ?_
  refine L_aload_n hC dL_law_828 rfl ?_
  refine L_aload_n hC dL_law_829 rfl ?_
  refine L_iload_n hC dL_law_830 rfl ?_
  refine L_iconst (v := 1) hC dL_law_831 (by decide) ?_
  refine L_iadd hC dL_law_832 ?_
  refine L_sld hC hin1 dL_law_833 ?_
  refine L_callM (U := aVi) (As := [.int (xs (x3 + (1 : Int32)).toNatClampNeg)]) (st := []) (n := 1) (x := r2) (D2 := D2) hC hlay2 (fun l => mX11_chance l _ mL_ok (xs (x3 + (1 : Int32)).toNatClampNeg) Dm) hfm rfl yc_L_97 rfl rfl ⟨by decide, by decide⟩ (Nat.le_of_ble_eq_true rfl) ⟨by omega, by omega⟩ rfl dL_law_834 ?_
  refine L_pop hC dL_law_837 rfl ?_
  refine L_goto (tgt := 1254) hC dL_law_838 (by decide) ?_
  exact kk _ _ _ _ hI9 ⟨by omega, by omega⟩
def LOp19 (I J : APD → ADD → Prop) : Prop := ∀ P Dm, I P Dm → ∀ a1 a2 a3 : Int32, ∃ r1 D1 r2 D2, fX10_verdict a1 a2 a3 P.2 = some (r1, D1) ∧ fX11_verdict a1 a2 a3 Dm = some (r2, D2) ∧ True ∧ J (P.1, D1) D2
set_option maxHeartbeats 4000000 in
set_option maxRecDepth 100000 in
theorem law_c19 (hC : LC q b L xs G) (h : LLays (LB q) I) (hJ : ∀ P Dm, J P Dm → LLay P) (hin1 : vp_in (x3 + (1 : Int32)) L) (hin2 : vp_in (x3 + (2 : Int32)) L) (hin3 : vp_in (x3 + (3 : Int32)) L) (hin4 : vp_in (x3 + (4 : Int32)) L) (hin5 : vp_in (x3 + (5 : Int32)) L) (hcap : cl + 100 ≤ 75420 ∧ sl + 4000 ≤ 8875990) (hop : LOp19 I J) (hI : I P Dm) (kk : ∀ P2 Dm2 cl2 sl2, J P2 Dm2 → cl2 ≤ cl + 31 ∧ sl2 ≤ sl + 3553 → AL q b G cl2 sl2 1254 [some (.ref b), some (.ref (LB q + 0)), some (.ref (LB q + 58 + 0)), some (.int x3)] [] P2 Dm2) : AL q b G cl sl 841 [some (.ref b), some (.ref (LB q + 0)), some (.ref (LB q + 58 + 0)), some (.int x3)] [] P Dm := by
  obtain ⟨hlay, hLX, hLS1, im, him⟩ := h P Dm hI
  have hX0 : 0 ∈ P.1.2.1 ∧ P.1.2.2 0 = (9, 0, xTab_r0 (LB q)) := hLX 0 _ (List.mem_of_getElem? (i := 0) rfl)
  have hLX : aLX (LB q, G.1, G.2.1, G.2.2.1, G.2.2.2, P.1) := hLX
  have hLS : aLS (LB q, G.1, G.2.1, G.2.2.1, G.2.2.2, P.1) 1 := hLS1 _ _ _ _
  obtain ⟨r1, D1, r2, D2, hfx, hfm, hrr, hI9⟩ := hop P Dm hI (xs (x3 + (1 : Int32)).toNatClampNeg) (xs (x3 + (2 : Int32)).toNatClampNeg) (xs (x3 + (3 : Int32)).toNatClampNeg)
  have hlay2 : LLay (P.1, D1) := hlay
  refine L_aload_n hC dL_law_841 rfl ?_
  refine L_aload_n hC dL_law_842 rfl ?_
  refine L_iload_n hC dL_law_843 rfl ?_
  refine L_iconst (v := 1) hC dL_law_844 (by decide) ?_
  refine L_iadd hC dL_law_845 ?_
  refine L_sld hC hin1 dL_law_846 ?_
  refine L_aload_n hC dL_law_847 rfl ?_
  refine L_iload_n hC dL_law_848 rfl ?_
  refine L_iconst (v := 2) hC dL_law_849 (by decide) ?_
  refine L_iadd hC dL_law_850 ?_
  refine L_sld hC hin2 dL_law_851 ?_
  refine L_aload_n hC dL_law_852 rfl ?_
  refine L_iload_n hC dL_law_853 rfl ?_
  refine L_iconst (v := 3) hC dL_law_854 (by decide) ?_
  refine L_iadd hC dL_law_855 ?_
  refine L_sld hC hin3 dL_law_856 ?_
  refine L_callX (U := aVi) (As := [.int (xs (x3 + (1 : Int32)).toNatClampNeg), .int (xs (x3 + (2 : Int32)).toNatClampNeg), .int (xs (x3 + (3 : Int32)).toNatClampNeg)]) (st := []) (n := 3) (x := r1) (D2 := D1) hC hlay hX0 (fun l => mX10_verdict l _ hLX (xs (x3 + (1 : Int32)).toNatClampNeg) (xs (x3 + (2 : Int32)).toNatClampNeg) (xs (x3 + (3 : Int32)).toNatClampNeg) P.2) hfx rfl yc_L_98 rfl rfl ⟨by decide, by decide⟩ (Nat.le_of_ble_eq_true rfl) ⟨by omega, by omega⟩ rfl dL_law_857 ?_
  refine L_pop hC dL_law_860 rfl ?_
  refine L_aload_n hC dL_law_861 rfl ?_
  refine L_aload_n hC dL_law_862 rfl ?_
  refine L_iload_n hC dL_law_863 rfl ?_
  refine L_iconst (v := 1) hC dL_law_864 (by decide) ?_
  refine L_iadd hC dL_law_865 ?_
  refine L_sld hC hin1 dL_law_866 ?_
  refine L_aload_n hC dL_law_867 rfl ?_
  refine L_iload_n hC dL_law_868 rfl ?_
  refine L_iconst (v := 2) hC dL_law_869 (by decide) ?_
  refine L_iadd hC dL_law_870 ?_
  refine L_sld hC hin2 dL_law_871 ?_
  refine L_aload_n hC dL_law_872 rfl ?_
  refine L_iload_n hC dL_law_873 rfl ?_
  refine L_iconst (v := 3) hC dL_law_874 (by decide) ?_
  refine L_iadd hC dL_law_875 ?_
  refine L_sld hC hin3 dL_law_876 ?_
  refine L_callM (U := aVi) (As := [.int (xs (x3 + (1 : Int32)).toNatClampNeg), .int (xs (x3 + (2 : Int32)).toNatClampNeg), .int (xs (x3 + (3 : Int32)).toNatClampNeg)]) (st := []) (n := 3) (x := r2) (D2 := D2) hC hlay2 (fun l => mX11_verdict l _ mL_ok (xs (x3 + (1 : Int32)).toNatClampNeg) (xs (x3 + (2 : Int32)).toNatClampNeg) (xs (x3 + (3 : Int32)).toNatClampNeg) Dm) hfm rfl yc_L_101 rfl rfl ⟨by decide, by decide⟩ (Nat.le_of_ble_eq_true rfl) ⟨by omega, by omega⟩ rfl dL_law_877 ?_
  refine L_pop hC dL_law_880 rfl ?_
  refine L_goto (tgt := 1254) hC dL_law_881 (by decide) ?_
  exact kk _ _ _ _ hI9 ⟨by omega, by omega⟩
def LOp20 (I J : APD → ADD → Prop) : Prop := ∀ P Dm, I P Dm → ∀ a1 a2 a3 : Int32, ∃ r1 D1 r2 D2, fX10_set a1 a2 a3 P.2 = some (r1, D1) ∧ fX11_set a1 a2 a3 Dm = some (r2, D2) ∧ r1 = r2 ∧ J (P.1, D1) D2
set_option maxHeartbeats 4000000 in
set_option maxRecDepth 100000 in
theorem law_c20 (hC : LC q b L xs G) (h : LLays (LB q) I) (hJ : ∀ P Dm, J P Dm → LLay P) (hin1 : vp_in (x3 + (1 : Int32)) L) (hin2 : vp_in (x3 + (2 : Int32)) L) (hin3 : vp_in (x3 + (3 : Int32)) L) (hin4 : vp_in (x3 + (4 : Int32)) L) (hin5 : vp_in (x3 + (5 : Int32)) L) (hcap : cl + 100 ≤ 75420 ∧ sl + 4000 ≤ 8875990) (hop : LOp20 I J) (hI : I P Dm) (kk : ∀ P2 Dm2 cl2 sl2, J P2 Dm2 → cl2 ≤ cl + 31 ∧ sl2 ≤ sl + 3553 → AL q b G cl2 sl2 1254 [some (.ref b), some (.ref (LB q + 0)), some (.ref (LB q + 58 + 0)), some (.int x3)] [] P2 Dm2) : AL q b G cl sl 884 [some (.ref b), some (.ref (LB q + 0)), some (.ref (LB q + 58 + 0)), some (.int x3)] [] P Dm := by
  obtain ⟨hlay, hLX, hLS1, im, him⟩ := h P Dm hI
  have hX0 : 0 ∈ P.1.2.1 ∧ P.1.2.2 0 = (9, 0, xTab_r0 (LB q)) := hLX 0 _ (List.mem_of_getElem? (i := 0) rfl)
  have hLX : aLX (LB q, G.1, G.2.1, G.2.2.1, G.2.2.2, P.1) := hLX
  have hLS : aLS (LB q, G.1, G.2.1, G.2.2.1, G.2.2.2, P.1) 1 := hLS1 _ _ _ _
  obtain ⟨r1, D1, r2, D2, hfx, hfm, hrr, hI9⟩ := hop P Dm hI (xs (x3 + (1 : Int32)).toNatClampNeg) (xs (x3 + (2 : Int32)).toNatClampNeg) (xs (x3 + (3 : Int32)).toNatClampNeg)
  have hlay2 : LLay (P.1, D1) := hlay
  refine L_aload_n hC dL_law_884 rfl ?_
  refine L_aload_n hC dL_law_885 rfl ?_
  refine L_iload_n hC dL_law_886 rfl ?_
  refine L_iconst (v := 1) hC dL_law_887 (by decide) ?_
  refine L_iadd hC dL_law_888 ?_
  refine L_sld hC hin1 dL_law_889 ?_
  refine L_aload_n hC dL_law_890 rfl ?_
  refine L_iload_n hC dL_law_891 rfl ?_
  refine L_iconst (v := 2) hC dL_law_892 (by decide) ?_
  refine L_iadd hC dL_law_893 ?_
  refine L_sld hC hin2 dL_law_894 ?_
  refine L_aload_n hC dL_law_895 rfl ?_
  refine L_iload_n hC dL_law_896 rfl ?_
  refine L_iconst (v := 3) hC dL_law_897 (by decide) ?_
  refine L_iadd hC dL_law_898 ?_
  refine L_sld hC hin3 dL_law_899 ?_
  refine L_callX (U := aVi) (As := [.int (xs (x3 + (1 : Int32)).toNatClampNeg), .int (xs (x3 + (2 : Int32)).toNatClampNeg), .int (xs (x3 + (3 : Int32)).toNatClampNeg)]) (st := []) (n := 3) (x := r1) (D2 := D1) hC hlay hX0 (fun l => mX10_set l _ hLX (xs (x3 + (1 : Int32)).toNatClampNeg) (xs (x3 + (2 : Int32)).toNatClampNeg) (xs (x3 + (3 : Int32)).toNatClampNeg) P.2) hfx rfl yc_L_102 rfl rfl ⟨by decide, by decide⟩ (Nat.le_of_ble_eq_true rfl) ⟨by omega, by omega⟩ rfl dL_law_900 ?_
  refine L_aload_n hC dL_law_903 rfl ?_
  refine L_aload_n hC dL_law_904 rfl ?_
  refine L_iload_n hC dL_law_905 rfl ?_
  refine L_iconst (v := 1) hC dL_law_906 (by decide) ?_
  refine L_iadd hC dL_law_907 ?_
  refine L_sld hC hin1 dL_law_908 ?_
  refine L_aload_n hC dL_law_909 rfl ?_
  refine L_iload_n hC dL_law_910 rfl ?_
  refine L_iconst (v := 2) hC dL_law_911 (by decide) ?_
  refine L_iadd hC dL_law_912 ?_
  refine L_sld hC hin2 dL_law_913 ?_
  refine L_aload_n hC dL_law_914 rfl ?_
  refine L_iload_n hC dL_law_915 rfl ?_
  refine L_iconst (v := 3) hC dL_law_916 (by decide) ?_
  refine L_iadd hC dL_law_917 ?_
  refine L_sld hC hin3 dL_law_918 ?_
  refine L_callM (U := aVi) (As := [.int (xs (x3 + (1 : Int32)).toNatClampNeg), .int (xs (x3 + (2 : Int32)).toNatClampNeg), .int (xs (x3 + (3 : Int32)).toNatClampNeg)]) (st := [.int r1]) (n := 3) (x := r2) (D2 := D2) hC hlay2 (fun l => mX11_set l _ mL_ok (xs (x3 + (1 : Int32)).toNatClampNeg) (xs (x3 + (2 : Int32)).toNatClampNeg) (xs (x3 + (3 : Int32)).toNatClampNeg) Dm) hfm rfl yc_L_105 rfl rfl ⟨by decide, by decide⟩ (Nat.le_of_ble_eq_true rfl) ⟨by omega, by omega⟩ rfl dL_law_919 ?_
  refine L_icmpeq_t (tgt := 1254) hC dL_law_922 (by decide) hrr ?_
  exact kk _ _ _ _ hI9 ⟨by omega, by omega⟩
def LOp21 (I J : APD → ADD → Prop) : Prop := ∀ P Dm, I P Dm → ∀ a1 a2 a3 a4 a5 : Int32, ∃ r1 D1 r2 D2, fX10_rate a1 a2 a3 a4 a5 P.2 = some (r1, D1) ∧ fX11_rate a1 a2 a3 a4 a5 Dm = some (r2, D2) ∧ True ∧ J (P.1, D1) D2
set_option maxHeartbeats 4000000 in
set_option maxRecDepth 100000 in
theorem law_c21 (hC : LC q b L xs G) (h : LLays (LB q) I) (hJ : ∀ P Dm, J P Dm → LLay P) (hin1 : vp_in (x3 + (1 : Int32)) L) (hin2 : vp_in (x3 + (2 : Int32)) L) (hin3 : vp_in (x3 + (3 : Int32)) L) (hin4 : vp_in (x3 + (4 : Int32)) L) (hin5 : vp_in (x3 + (5 : Int32)) L) (hcap : cl + 100 ≤ 75420 ∧ sl + 4000 ≤ 8875990) (hop : LOp21 I J) (hI : I P Dm) (kk : ∀ P2 Dm2 cl2 sl2, J P2 Dm2 → cl2 ≤ cl + 31 ∧ sl2 ≤ sl + 3553 → AL q b G cl2 sl2 1254 [some (.ref b), some (.ref (LB q + 0)), some (.ref (LB q + 58 + 0)), some (.int x3)] [] P2 Dm2) : AL q b G cl sl 927 [some (.ref b), some (.ref (LB q + 0)), some (.ref (LB q + 58 + 0)), some (.int x3)] [] P Dm := by
  obtain ⟨hlay, hLX, hLS1, im, him⟩ := h P Dm hI
  have hX0 : 0 ∈ P.1.2.1 ∧ P.1.2.2 0 = (9, 0, xTab_r0 (LB q)) := hLX 0 _ (List.mem_of_getElem? (i := 0) rfl)
  have hLX : aLX (LB q, G.1, G.2.1, G.2.2.1, G.2.2.2, P.1) := hLX
  have hLS : aLS (LB q, G.1, G.2.1, G.2.2.1, G.2.2.2, P.1) 1 := hLS1 _ _ _ _
  obtain ⟨r1, D1, r2, D2, hfx, hfm, hrr, hI9⟩ := hop P Dm hI (xs (x3 + (1 : Int32)).toNatClampNeg) (xs (x3 + (2 : Int32)).toNatClampNeg) (xs (x3 + (3 : Int32)).toNatClampNeg) (xs (x3 + (4 : Int32)).toNatClampNeg) (xs (x3 + (5 : Int32)).toNatClampNeg)
  have hlay2 : LLay (P.1, D1) := hlay
  refine L_aload_n hC dL_law_927 rfl ?_
  refine L_aload_n hC dL_law_928 rfl ?_
  refine L_iload_n hC dL_law_929 rfl ?_
  refine L_iconst (v := 1) hC dL_law_930 (by decide) ?_
  refine L_iadd hC dL_law_931 ?_
  refine L_sld hC hin1 dL_law_932 ?_
  refine L_aload_n hC dL_law_933 rfl ?_
  refine L_iload_n hC dL_law_934 rfl ?_
  refine L_iconst (v := 2) hC dL_law_935 (by decide) ?_
  refine L_iadd hC dL_law_936 ?_
  refine L_sld hC hin2 dL_law_937 ?_
  refine L_aload_n hC dL_law_938 rfl ?_
  refine L_iload_n hC dL_law_939 rfl ?_
  refine L_iconst (v := 3) hC dL_law_940 (by decide) ?_
  refine L_iadd hC dL_law_941 ?_
  refine L_sld hC hin3 dL_law_942 ?_
  refine L_aload_n hC dL_law_943 rfl ?_
  refine L_iload_n hC dL_law_944 rfl ?_
  refine L_iconst (v := 4) hC dL_law_945 (by decide) ?_
  refine L_iadd hC dL_law_946 ?_
  refine L_sld hC hin4 dL_law_947 ?_
  refine L_aload_n hC dL_law_948 rfl ?_
  refine L_iload_n hC dL_law_949 rfl ?_
  refine L_iconst (v := 5) hC dL_law_950 (by decide) ?_
  refine L_iadd hC dL_law_951 ?_
  refine L_sld hC hin5 dL_law_952 ?_
  refine L_callX (U := aVi) (As := [.int (xs (x3 + (1 : Int32)).toNatClampNeg), .int (xs (x3 + (2 : Int32)).toNatClampNeg), .int (xs (x3 + (3 : Int32)).toNatClampNeg), .int (xs (x3 + (4 : Int32)).toNatClampNeg), .int (xs (x3 + (5 : Int32)).toNatClampNeg)]) (st := []) (n := 5) (x := r1) (D2 := D1) hC hlay hX0 (fun l => mX10_rate l _ hLX (xs (x3 + (1 : Int32)).toNatClampNeg) (xs (x3 + (2 : Int32)).toNatClampNeg) (xs (x3 + (3 : Int32)).toNatClampNeg) (xs (x3 + (4 : Int32)).toNatClampNeg) (xs (x3 + (5 : Int32)).toNatClampNeg) P.2) hfx rfl yc_L_106 rfl rfl ⟨by decide, by decide⟩ (Nat.le_of_ble_eq_true rfl) ⟨by omega, by omega⟩ rfl dL_law_953 ?_
  refine L_pop hC dL_law_956 rfl ?_
  refine L_aload_n hC dL_law_957 rfl ?_
  refine L_aload_n hC dL_law_958 rfl ?_
  refine L_iload_n hC dL_law_959 rfl ?_
  refine L_iconst (v := 1) hC dL_law_960 (by decide) ?_
  refine L_iadd hC dL_law_961 ?_
  refine L_sld hC hin1 dL_law_962 ?_
  refine L_aload_n hC dL_law_963 rfl ?_
  refine L_iload_n hC dL_law_964 rfl ?_
  refine L_iconst (v := 2) hC dL_law_965 (by decide) ?_
  refine L_iadd hC dL_law_966 ?_
  refine L_sld hC hin2 dL_law_967 ?_
  refine L_aload_n hC dL_law_968 rfl ?_
  refine L_iload_n hC dL_law_969 rfl ?_
  refine L_iconst (v := 3) hC dL_law_970 (by decide) ?_
  refine L_iadd hC dL_law_971 ?_
  refine L_sld hC hin3 dL_law_972 ?_
  refine L_aload_n hC dL_law_973 rfl ?_
  refine L_iload_n hC dL_law_974 rfl ?_
  refine L_iconst (v := 4) hC dL_law_975 (by decide) ?_
  refine L_iadd hC dL_law_976 ?_
  refine L_sld hC hin4 dL_law_977 ?_
  refine L_aload_n hC dL_law_978 rfl ?_
  refine L_iload_n hC dL_law_979 rfl ?_
  refine L_iconst (v := 5) hC dL_law_980 (by decide) ?_
  refine L_iadd hC dL_law_981 ?_
  refine L_sld hC hin5 dL_law_982 ?_
  refine L_callM (U := aVi) (As := [.int (xs (x3 + (1 : Int32)).toNatClampNeg), .int (xs (x3 + (2 : Int32)).toNatClampNeg), .int (xs (x3 + (3 : Int32)).toNatClampNeg), .int (xs (x3 + (4 : Int32)).toNatClampNeg), .int (xs (x3 + (5 : Int32)).toNatClampNeg)]) (st := []) (n := 5) (x := r2) (D2 := D2) hC hlay2 (fun l => mX11_rate l _ mL_ok (xs (x3 + (1 : Int32)).toNatClampNeg) (xs (x3 + (2 : Int32)).toNatClampNeg) (xs (x3 + (3 : Int32)).toNatClampNeg) (xs (x3 + (4 : Int32)).toNatClampNeg) (xs (x3 + (5 : Int32)).toNatClampNeg) Dm) hfm rfl yc_L_109 rfl rfl ⟨by decide, by decide⟩ (Nat.le_of_ble_eq_true rfl) ⟨by omega, by omega⟩ rfl dL_law_983 ?_
  refine L_pop hC dL_law_986 rfl ?_
  refine L_goto (tgt := 1254) hC dL_law_987 (by decide) ?_
  exact kk _ _ _ _ hI9 ⟨by omega, by omega⟩
def LOp22 (I J : APD → ADD → Prop) : Prop := ∀ P Dm, I P Dm → ∀ a1 a2 a3 : Int32, ∃ r1 D1 r2 D2, fX10_drift a1 a2 a3 P.2 = some (r1, D1) ∧ fX11_drift a1 a2 a3 Dm = some (r2, D2) ∧ True ∧ J (P.1, D1) D2
set_option maxHeartbeats 4000000 in
set_option maxRecDepth 100000 in
theorem law_c22 (hC : LC q b L xs G) (h : LLays (LB q) I) (hJ : ∀ P Dm, J P Dm → LLay P) (hin1 : vp_in (x3 + (1 : Int32)) L) (hin2 : vp_in (x3 + (2 : Int32)) L) (hin3 : vp_in (x3 + (3 : Int32)) L) (hin4 : vp_in (x3 + (4 : Int32)) L) (hin5 : vp_in (x3 + (5 : Int32)) L) (hcap : cl + 100 ≤ 75420 ∧ sl + 4000 ≤ 8875990) (hop : LOp22 I J) (hI : I P Dm) (kk : ∀ P2 Dm2 cl2 sl2, J P2 Dm2 → cl2 ≤ cl + 31 ∧ sl2 ≤ sl + 3553 → AL q b G cl2 sl2 1254 [some (.ref b), some (.ref (LB q + 0)), some (.ref (LB q + 58 + 0)), some (.int x3)] [] P2 Dm2) : AL q b G cl sl 990 [some (.ref b), some (.ref (LB q + 0)), some (.ref (LB q + 58 + 0)), some (.int x3)] [] P Dm := by
  obtain ⟨hlay, hLX, hLS1, im, him⟩ := h P Dm hI
  have hX0 : 0 ∈ P.1.2.1 ∧ P.1.2.2 0 = (9, 0, xTab_r0 (LB q)) := hLX 0 _ (List.mem_of_getElem? (i := 0) rfl)
  have hLX : aLX (LB q, G.1, G.2.1, G.2.2.1, G.2.2.2, P.1) := hLX
  have hLS : aLS (LB q, G.1, G.2.1, G.2.2.1, G.2.2.2, P.1) 1 := hLS1 _ _ _ _
  obtain ⟨r1, D1, r2, D2, hfx, hfm, hrr, hI9⟩ := hop P Dm hI (xs (x3 + (1 : Int32)).toNatClampNeg) (xs (x3 + (2 : Int32)).toNatClampNeg) (xs (x3 + (3 : Int32)).toNatClampNeg)
  have hlay2 : LLay (P.1, D1) := hlay
  refine L_aload_n hC dL_law_990 rfl ?_
  refine L_aload_n hC dL_law_991 rfl ?_
  refine L_iload_n hC dL_law_992 rfl ?_
  refine L_iconst (v := 1) hC dL_law_993 (by decide) ?_
  refine L_iadd hC dL_law_994 ?_
  refine L_sld hC hin1 dL_law_995 ?_
  refine L_aload_n hC dL_law_996 rfl ?_
  refine L_iload_n hC dL_law_997 rfl ?_
  refine L_iconst (v := 2) hC dL_law_998 (by decide) ?_
  refine L_iadd hC dL_law_999 ?_
  refine L_sld hC hin2 dL_law_1000 ?_
  refine L_aload_n hC dL_law_1001 rfl ?_
  refine L_iload_n hC dL_law_1002 rfl ?_
  refine L_iconst (v := 3) hC dL_law_1003 (by decide) ?_
  refine L_iadd hC dL_law_1004 ?_
  refine L_sld hC hin3 dL_law_1005 ?_
  refine L_callX (U := aVi) (As := [.int (xs (x3 + (1 : Int32)).toNatClampNeg), .int (xs (x3 + (2 : Int32)).toNatClampNeg), .int (xs (x3 + (3 : Int32)).toNatClampNeg)]) (st := []) (n := 3) (x := r1) (D2 := D1) hC hlay hX0 (fun l => mX10_drift l _ hLX (xs (x3 + (1 : Int32)).toNatClampNeg) (xs (x3 + (2 : Int32)).toNatClampNeg) (xs (x3 + (3 : Int32)).toNatClampNeg) P.2) hfx rfl yc_L_110 rfl rfl ⟨by decide, by decide⟩ (Nat.le_of_ble_eq_true rfl) ⟨by omega, by omega⟩ rfl dL_law_1006 ?_
  refine L_pop hC dL_law_1009 rfl ?_
  refine L_aload_n hC dL_law_1010 rfl ?_
  refine L_aload_n hC dL_law_1011 rfl ?_
  refine L_iload_n hC dL_law_1012 rfl ?_
  refine L_iconst (v := 1) hC dL_law_1013 (by decide) ?_
  refine L_iadd hC dL_law_1014 ?_
  refine L_sld hC hin1 dL_law_1015 ?_
  refine L_aload_n hC dL_law_1016 rfl ?_
  refine L_iload_n hC dL_law_1017 rfl ?_
  refine L_iconst (v := 2) hC dL_law_1018 (by decide) ?_
  refine L_iadd hC dL_law_1019 ?_
  refine L_sld hC hin2 dL_law_1020 ?_
  refine L_aload_n hC dL_law_1021 rfl ?_
  refine L_iload_n hC dL_law_1022 rfl ?_
  refine L_iconst (v := 3) hC dL_law_1023 (by decide) ?_
  refine L_iadd hC dL_law_1024 ?_
  refine L_sld hC hin3 dL_law_1025 ?_
  refine L_callM (U := aVi) (As := [.int (xs (x3 + (1 : Int32)).toNatClampNeg), .int (xs (x3 + (2 : Int32)).toNatClampNeg), .int (xs (x3 + (3 : Int32)).toNatClampNeg)]) (st := []) (n := 3) (x := r2) (D2 := D2) hC hlay2 (fun l => mX11_drift l _ mL_ok (xs (x3 + (1 : Int32)).toNatClampNeg) (xs (x3 + (2 : Int32)).toNatClampNeg) (xs (x3 + (3 : Int32)).toNatClampNeg) Dm) hfm rfl yc_L_113 rfl rfl ⟨by decide, by decide⟩ (Nat.le_of_ble_eq_true rfl) ⟨by omega, by omega⟩ rfl dL_law_1026 ?_
  refine L_pop hC dL_law_1029 rfl ?_
  refine L_goto (tgt := 1254) hC dL_law_1030 (by decide) ?_
  exact kk _ _ _ _ hI9 ⟨by omega, by omega⟩
def LOp23 (I J : APD → ADD → Prop) : Prop := ∀ P Dm, I P Dm → ∀ a1 a2 a3 : Int32, ∃ r1 D1 r2 D2, fX10_owner a1 a2 a3 P.2 = some (r1, D1) ∧ fX11_owner a1 a2 a3 Dm = some (r2, D2) ∧ True ∧ J (P.1, D1) D2
set_option maxHeartbeats 4000000 in
set_option maxRecDepth 100000 in
theorem law_c23 (hC : LC q b L xs G) (h : LLays (LB q) I) (hJ : ∀ P Dm, J P Dm → LLay P) (hin1 : vp_in (x3 + (1 : Int32)) L) (hin2 : vp_in (x3 + (2 : Int32)) L) (hin3 : vp_in (x3 + (3 : Int32)) L) (hin4 : vp_in (x3 + (4 : Int32)) L) (hin5 : vp_in (x3 + (5 : Int32)) L) (hcap : cl + 100 ≤ 75420 ∧ sl + 4000 ≤ 8875990) (hop : LOp23 I J) (hI : I P Dm) (kk : ∀ P2 Dm2 cl2 sl2, J P2 Dm2 → cl2 ≤ cl + 31 ∧ sl2 ≤ sl + 3553 → AL q b G cl2 sl2 1254 [some (.ref b), some (.ref (LB q + 0)), some (.ref (LB q + 58 + 0)), some (.int x3)] [] P2 Dm2) : AL q b G cl sl 1033 [some (.ref b), some (.ref (LB q + 0)), some (.ref (LB q + 58 + 0)), some (.int x3)] [] P Dm := by
  obtain ⟨hlay, hLX, hLS1, im, him⟩ := h P Dm hI
  have hX0 : 0 ∈ P.1.2.1 ∧ P.1.2.2 0 = (9, 0, xTab_r0 (LB q)) := hLX 0 _ (List.mem_of_getElem? (i := 0) rfl)
  have hLX : aLX (LB q, G.1, G.2.1, G.2.2.1, G.2.2.2, P.1) := hLX
  have hLS : aLS (LB q, G.1, G.2.1, G.2.2.1, G.2.2.2, P.1) 1 := hLS1 _ _ _ _
  obtain ⟨r1, D1, r2, D2, hfx, hfm, hrr, hI9⟩ := hop P Dm hI (xs (x3 + (1 : Int32)).toNatClampNeg) (xs (x3 + (2 : Int32)).toNatClampNeg) (xs (x3 + (3 : Int32)).toNatClampNeg)
  have hlay2 : LLay (P.1, D1) := hlay
  refine L_aload_n hC dL_law_1033 rfl ?_
  refine L_aload_n hC dL_law_1034 rfl ?_
  refine L_iload_n hC dL_law_1035 rfl ?_
  refine L_iconst (v := 1) hC dL_law_1036 (by decide) ?_
  refine L_iadd hC dL_law_1037 ?_
  refine L_sld hC hin1 dL_law_1038 ?_
  refine L_aload_n hC dL_law_1039 rfl ?_
  refine L_iload_n hC dL_law_1040 rfl ?_
  refine L_iconst (v := 2) hC dL_law_1041 (by decide) ?_
  refine L_iadd hC dL_law_1042 ?_
  refine L_sld hC hin2 dL_law_1043 ?_
  refine L_aload_n hC dL_law_1044 rfl ?_
  refine L_iload_n hC dL_law_1045 rfl ?_
  refine L_iconst (v := 3) hC dL_law_1046 (by decide) ?_
  refine L_iadd hC dL_law_1047 ?_
  refine L_sld hC hin3 dL_law_1048 ?_
  refine L_callX (U := aVi) (As := [.int (xs (x3 + (1 : Int32)).toNatClampNeg), .int (xs (x3 + (2 : Int32)).toNatClampNeg), .int (xs (x3 + (3 : Int32)).toNatClampNeg)]) (st := []) (n := 3) (x := r1) (D2 := D1) hC hlay hX0 (fun l => mX10_owner l _ hLX (xs (x3 + (1 : Int32)).toNatClampNeg) (xs (x3 + (2 : Int32)).toNatClampNeg) (xs (x3 + (3 : Int32)).toNatClampNeg) P.2) hfx rfl yc_L_114 rfl rfl ⟨by decide, by decide⟩ (Nat.le_of_ble_eq_true rfl) ⟨by omega, by omega⟩ rfl dL_law_1049 ?_
  refine L_pop hC dL_law_1052 rfl ?_
  refine L_aload_n hC dL_law_1053 rfl ?_
  refine L_aload_n hC dL_law_1054 rfl ?_
  refine L_iload_n hC dL_law_1055 rfl ?_
  refine L_iconst (v := 1) hC dL_law_1056 (by decide) ?_
  refine L_iadd hC dL_law_1057 ?_
  refine L_sld hC hin1 dL_law_1058 ?_
  refine L_aload_n hC dL_law_1059 rfl ?_
  refine L_iload_n hC dL_law_1060 rfl ?_
  refine L_iconst (v := 2) hC dL_law_1061 (by decide) ?_
  refine L_iadd hC dL_law_1062 ?_
  refine L_sld hC hin2 dL_law_1063 ?_
  refine L_aload_n hC dL_law_1064 rfl ?_
  refine L_iload_n hC dL_law_1065 rfl ?_
  refine L_iconst (v := 3) hC dL_law_1066 (by decide) ?_
  refine L_iadd hC dL_law_1067 ?_
  refine L_sld hC hin3 dL_law_1068 ?_
  refine L_callM (U := aVi) (As := [.int (xs (x3 + (1 : Int32)).toNatClampNeg), .int (xs (x3 + (2 : Int32)).toNatClampNeg), .int (xs (x3 + (3 : Int32)).toNatClampNeg)]) (st := []) (n := 3) (x := r2) (D2 := D2) hC hlay2 (fun l => mX11_owner l _ mL_ok (xs (x3 + (1 : Int32)).toNatClampNeg) (xs (x3 + (2 : Int32)).toNatClampNeg) (xs (x3 + (3 : Int32)).toNatClampNeg) Dm) hfm rfl yc_L_117 rfl rfl ⟨by decide, by decide⟩ (Nat.le_of_ble_eq_true rfl) ⟨by omega, by omega⟩ rfl dL_law_1069 ?_
  refine L_pop hC dL_law_1072 rfl ?_
  refine L_goto (tgt := 1254) hC dL_law_1073 (by decide) ?_
  exact kk _ _ _ _ hI9 ⟨by omega, by omega⟩
def LOp24 (I J : APD → ADD → Prop) : Prop := ∀ P Dm, I P Dm → ∀ a1 a2 : Int32, ∃ r1 D1 r2 D2, fX10_heap a1 a2 P.2 = some (r1, D1) ∧ fX11_heap a1 a2 Dm = some (r2, D2) ∧ True ∧ J (P.1, D1) D2
set_option maxHeartbeats 4000000 in
set_option maxRecDepth 100000 in
theorem law_c24 (hC : LC q b L xs G) (h : LLays (LB q) I) (hJ : ∀ P Dm, J P Dm → LLay P) (hin1 : vp_in (x3 + (1 : Int32)) L) (hin2 : vp_in (x3 + (2 : Int32)) L) (hin3 : vp_in (x3 + (3 : Int32)) L) (hin4 : vp_in (x3 + (4 : Int32)) L) (hin5 : vp_in (x3 + (5 : Int32)) L) (hcap : cl + 100 ≤ 75420 ∧ sl + 4000 ≤ 8875990) (hop : LOp24 I J) (hI : I P Dm) (kk : ∀ P2 Dm2 cl2 sl2, J P2 Dm2 → cl2 ≤ cl + 31 ∧ sl2 ≤ sl + 3553 → AL q b G cl2 sl2 1254 [some (.ref b), some (.ref (LB q + 0)), some (.ref (LB q + 58 + 0)), some (.int x3)] [] P2 Dm2) : AL q b G cl sl 1076 [some (.ref b), some (.ref (LB q + 0)), some (.ref (LB q + 58 + 0)), some (.int x3)] [] P Dm := by
  obtain ⟨hlay, hLX, hLS1, im, him⟩ := h P Dm hI
  have hX0 : 0 ∈ P.1.2.1 ∧ P.1.2.2 0 = (9, 0, xTab_r0 (LB q)) := hLX 0 _ (List.mem_of_getElem? (i := 0) rfl)
  have hLX : aLX (LB q, G.1, G.2.1, G.2.2.1, G.2.2.2, P.1) := hLX
  have hLS : aLS (LB q, G.1, G.2.1, G.2.2.1, G.2.2.2, P.1) 1 := hLS1 _ _ _ _
  obtain ⟨r1, D1, r2, D2, hfx, hfm, hrr, hI9⟩ := hop P Dm hI (xs (x3 + (1 : Int32)).toNatClampNeg) (xs (x3 + (2 : Int32)).toNatClampNeg)
  have hlay2 : LLay (P.1, D1) := hlay
  refine L_aload_n hC dL_law_1076 rfl ?_
  refine L_aload_n hC dL_law_1077 rfl ?_
  refine L_iload_n hC dL_law_1078 rfl ?_
  refine L_iconst (v := 1) hC dL_law_1079 (by decide) ?_
  refine L_iadd hC dL_law_1080 ?_
  refine L_sld hC hin1 dL_law_1081 ?_
  refine L_aload_n hC dL_law_1082 rfl ?_
  refine L_iload_n hC dL_law_1083 rfl ?_
  refine L_iconst (v := 2) hC dL_law_1084 (by decide) ?_
  refine L_iadd hC dL_law_1085 ?_
  refine L_sld hC hin2 dL_law_1086 ?_
  refine L_callX (U := aVi) (As := [.int (xs (x3 + (1 : Int32)).toNatClampNeg), .int (xs (x3 + (2 : Int32)).toNatClampNeg)]) (st := []) (n := 2) (x := r1) (D2 := D1) hC hlay hX0 (fun l => mX10_heap l _ hLX (xs (x3 + (1 : Int32)).toNatClampNeg) (xs (x3 + (2 : Int32)).toNatClampNeg) P.2) hfx rfl yc_L_118 rfl rfl ⟨by decide, by decide⟩ (Nat.le_of_ble_eq_true rfl) ⟨by omega, by omega⟩ rfl dL_law_1087 ?_
  refine L_pop hC dL_law_1090 rfl ?_
  refine L_aload_n hC dL_law_1091 rfl ?_
  refine L_aload_n hC dL_law_1092 rfl ?_
  refine L_iload_n hC dL_law_1093 rfl ?_
  refine L_iconst (v := 1) hC dL_law_1094 (by decide) ?_
  refine L_iadd hC dL_law_1095 ?_
  refine L_sld hC hin1 dL_law_1096 ?_
  refine L_aload_n hC dL_law_1097 rfl ?_
  refine L_iload_n hC dL_law_1098 rfl ?_
  refine L_iconst (v := 2) hC dL_law_1099 (by decide) ?_
  refine L_iadd hC dL_law_1100 ?_
  refine L_sld hC hin2 dL_law_1101 ?_
  refine L_callM (U := aVi) (As := [.int (xs (x3 + (1 : Int32)).toNatClampNeg), .int (xs (x3 + (2 : Int32)).toNatClampNeg)]) (st := []) (n := 2) (x := r2) (D2 := D2) hC hlay2 (fun l => mX11_heap l _ mL_ok (xs (x3 + (1 : Int32)).toNatClampNeg) (xs (x3 + (2 : Int32)).toNatClampNeg) Dm) hfm rfl yc_L_121 rfl rfl ⟨by decide, by decide⟩ (Nat.le_of_ble_eq_true rfl) ⟨by omega, by omega⟩ rfl dL_law_1102 ?_
  refine L_pop hC dL_law_1105 rfl ?_
  refine L_goto (tgt := 1254) hC dL_law_1106 (by decide) ?_
  exact kk _ _ _ _ hI9 ⟨by omega, by omega⟩
def LOp25 (I J : APD → ADD → Prop) : Prop := ∀ P Dm, I P Dm → ∀ a1 a2 : Int32, ∃ r1 D1 r2 D2, fX10_anew a1 a2 P.2 = some (r1, D1) ∧ fX11_anew a1 a2 Dm = some (r2, D2) ∧ True ∧ J (P.1, D1) D2
set_option maxHeartbeats 4000000 in
set_option maxRecDepth 100000 in
theorem law_c25 (hC : LC q b L xs G) (h : LLays (LB q) I) (hJ : ∀ P Dm, J P Dm → LLay P) (hin1 : vp_in (x3 + (1 : Int32)) L) (hin2 : vp_in (x3 + (2 : Int32)) L) (hin3 : vp_in (x3 + (3 : Int32)) L) (hin4 : vp_in (x3 + (4 : Int32)) L) (hin5 : vp_in (x3 + (5 : Int32)) L) (hcap : cl + 100 ≤ 75420 ∧ sl + 4000 ≤ 8875990) (hop : LOp25 I J) (hI : I P Dm) (kk : ∀ P2 Dm2 cl2 sl2, J P2 Dm2 → cl2 ≤ cl + 31 ∧ sl2 ≤ sl + 3553 → AL q b G cl2 sl2 1254 [some (.ref b), some (.ref (LB q + 0)), some (.ref (LB q + 58 + 0)), some (.int x3)] [] P2 Dm2) : AL q b G cl sl 1109 [some (.ref b), some (.ref (LB q + 0)), some (.ref (LB q + 58 + 0)), some (.int x3)] [] P Dm := by
  obtain ⟨hlay, hLX, hLS1, im, him⟩ := h P Dm hI
  have hX0 : 0 ∈ P.1.2.1 ∧ P.1.2.2 0 = (9, 0, xTab_r0 (LB q)) := hLX 0 _ (List.mem_of_getElem? (i := 0) rfl)
  have hLX : aLX (LB q, G.1, G.2.1, G.2.2.1, G.2.2.2, P.1) := hLX
  have hLS : aLS (LB q, G.1, G.2.1, G.2.2.1, G.2.2.2, P.1) 1 := hLS1 _ _ _ _
  obtain ⟨r1, D1, r2, D2, hfx, hfm, hrr, hI9⟩ := hop P Dm hI (xs (x3 + (1 : Int32)).toNatClampNeg) (xs (x3 + (2 : Int32)).toNatClampNeg)
  have hlay2 : LLay (P.1, D1) := hlay
  refine L_aload_n hC dL_law_1109 rfl ?_
  refine L_aload_n hC dL_law_1110 rfl ?_
  refine L_iload_n hC dL_law_1111 rfl ?_
  refine L_iconst (v := 1) hC dL_law_1112 (by decide) ?_
  refine L_iadd hC dL_law_1113 ?_
  refine L_sld hC hin1 dL_law_1114 ?_
  refine L_aload_n hC dL_law_1115 rfl ?_
  refine L_iload_n hC dL_law_1116 rfl ?_
  refine L_iconst (v := 2) hC dL_law_1117 (by decide) ?_
  refine L_iadd hC dL_law_1118 ?_
  refine L_sld hC hin2 dL_law_1119 ?_
  refine L_callX (U := aVi) (As := [.int (xs (x3 + (1 : Int32)).toNatClampNeg), .int (xs (x3 + (2 : Int32)).toNatClampNeg)]) (st := []) (n := 2) (x := r1) (D2 := D1) hC hlay hX0 (fun l => mX10_anew l _ hLX (xs (x3 + (1 : Int32)).toNatClampNeg) (xs (x3 + (2 : Int32)).toNatClampNeg) P.2) hfx rfl yc_L_122 rfl rfl ⟨by decide, by decide⟩ (Nat.le_of_ble_eq_true rfl) ⟨by omega, by omega⟩ rfl dL_law_1120 ?_
  refine L_pop hC dL_law_1123 rfl ?_
  refine L_aload_n hC dL_law_1124 rfl ?_
  refine L_aload_n hC dL_law_1125 rfl ?_
  refine L_iload_n hC dL_law_1126 rfl ?_
  refine L_iconst (v := 1) hC dL_law_1127 (by decide) ?_
  refine L_iadd hC dL_law_1128 ?_
  refine L_sld hC hin1 dL_law_1129 ?_
  refine L_aload_n hC dL_law_1130 rfl ?_
  refine L_iload_n hC dL_law_1131 rfl ?_
  refine L_iconst (v := 2) hC dL_law_1132 (by decide) ?_
  refine L_iadd hC dL_law_1133 ?_
  refine L_sld hC hin2 dL_law_1134 ?_
  refine L_callM (U := aVi) (As := [.int (xs (x3 + (1 : Int32)).toNatClampNeg), .int (xs (x3 + (2 : Int32)).toNatClampNeg)]) (st := []) (n := 2) (x := r2) (D2 := D2) hC hlay2 (fun l => mX11_anew l _ mL_ok (xs (x3 + (1 : Int32)).toNatClampNeg) (xs (x3 + (2 : Int32)).toNatClampNeg) Dm) hfm rfl yc_L_125 rfl rfl ⟨by decide, by decide⟩ (Nat.le_of_ble_eq_true rfl) ⟨by omega, by omega⟩ rfl dL_law_1135 ?_
  refine L_pop hC dL_law_1138 rfl ?_
  refine L_goto (tgt := 1254) hC dL_law_1139 (by decide) ?_
  exact kk _ _ _ _ hI9 ⟨by omega, by omega⟩
def LOp26 (I J : APD → ADD → Prop) : Prop := ∀ P Dm, I P Dm → ∀ a1 a2 a3 : Int32, ∃ r1 D1 r2 D2, fX10_worth a1 a2 a3 P.2 = some (r1, D1) ∧ fX11_worth a1 a2 a3 Dm = some (r2, D2) ∧ True ∧ J (P.1, D1) D2
set_option maxHeartbeats 4000000 in
set_option maxRecDepth 100000 in
theorem law_c26 (hC : LC q b L xs G) (h : LLays (LB q) I) (hJ : ∀ P Dm, J P Dm → LLay P) (hin1 : vp_in (x3 + (1 : Int32)) L) (hin2 : vp_in (x3 + (2 : Int32)) L) (hin3 : vp_in (x3 + (3 : Int32)) L) (hin4 : vp_in (x3 + (4 : Int32)) L) (hin5 : vp_in (x3 + (5 : Int32)) L) (hcap : cl + 100 ≤ 75420 ∧ sl + 4000 ≤ 8875990) (hop : LOp26 I J) (hI : I P Dm) (kk : ∀ P2 Dm2 cl2 sl2, J P2 Dm2 → cl2 ≤ cl + 31 ∧ sl2 ≤ sl + 3553 → AL q b G cl2 sl2 1254 [some (.ref b), some (.ref (LB q + 0)), some (.ref (LB q + 58 + 0)), some (.int x3)] [] P2 Dm2) : AL q b G cl sl 1142 [some (.ref b), some (.ref (LB q + 0)), some (.ref (LB q + 58 + 0)), some (.int x3)] [] P Dm := by
  obtain ⟨hlay, hLX, hLS1, im, him⟩ := h P Dm hI
  have hX0 : 0 ∈ P.1.2.1 ∧ P.1.2.2 0 = (9, 0, xTab_r0 (LB q)) := hLX 0 _ (List.mem_of_getElem? (i := 0) rfl)
  have hLX : aLX (LB q, G.1, G.2.1, G.2.2.1, G.2.2.2, P.1) := hLX
  have hLS : aLS (LB q, G.1, G.2.1, G.2.2.1, G.2.2.2, P.1) 1 := hLS1 _ _ _ _
  obtain ⟨r1, D1, r2, D2, hfx, hfm, hrr, hI9⟩ := hop P Dm hI (xs (x3 + (1 : Int32)).toNatClampNeg) (xs (x3 + (2 : Int32)).toNatClampNeg) (xs (x3 + (3 : Int32)).toNatClampNeg)
  have hlay2 : LLay (P.1, D1) := hlay
  refine L_aload_n hC dL_law_1142 rfl ?_
  refine L_aload_n hC dL_law_1143 rfl ?_
  refine L_iload_n hC dL_law_1144 rfl ?_
  refine L_iconst (v := 1) hC dL_law_1145 (by decide) ?_
  refine L_iadd hC dL_law_1146 ?_
  refine L_sld hC hin1 dL_law_1147 ?_
  refine L_aload_n hC dL_law_1148 rfl ?_
  refine L_iload_n hC dL_law_1149 rfl ?_
  refine L_iconst (v := 2) hC dL_law_1150 (by decide) ?_
  refine L_iadd hC dL_law_1151 ?_
  refine L_sld hC hin2 dL_law_1152 ?_
  refine L_aload_n hC dL_law_1153 rfl ?_
  refine L_iload_n hC dL_law_1154 rfl ?_
  refine L_iconst (v := 3) hC dL_law_1155 (by decide) ?_
  refine L_iadd hC dL_law_1156 ?_
  refine L_sld hC hin3 dL_law_1157 ?_
  refine L_callX (U := aVi) (As := [.int (xs (x3 + (1 : Int32)).toNatClampNeg), .int (xs (x3 + (2 : Int32)).toNatClampNeg), .int (xs (x3 + (3 : Int32)).toNatClampNeg)]) (st := []) (n := 3) (x := r1) (D2 := D1) hC hlay hX0 (fun l => mX10_worth l _ hLX (xs (x3 + (1 : Int32)).toNatClampNeg) (xs (x3 + (2 : Int32)).toNatClampNeg) (xs (x3 + (3 : Int32)).toNatClampNeg) P.2) hfx rfl yc_L_126 rfl rfl ⟨by decide, by decide⟩ (Nat.le_of_ble_eq_true rfl) ⟨by omega, by omega⟩ rfl dL_law_1158 ?_
  refine L_pop hC dL_law_1161 rfl ?_
  refine L_aload_n hC dL_law_1162 rfl ?_
  refine L_aload_n hC dL_law_1163 rfl ?_
  refine L_iload_n hC dL_law_1164 rfl ?_
  refine L_iconst (v := 1) hC dL_law_1165 (by decide) ?_
  refine L_iadd hC dL_law_1166 ?_
  refine L_sld hC hin1 dL_law_1167 ?_
  refine L_aload_n hC dL_law_1168 rfl ?_
  refine L_iload_n hC dL_law_1169 rfl ?_
  refine L_iconst (v := 2) hC dL_law_1170 (by decide) ?_
  refine L_iadd hC dL_law_1171 ?_
  refine L_sld hC hin2 dL_law_1172 ?_
  refine L_aload_n hC dL_law_1173 rfl ?_
  refine L_iload_n hC dL_law_1174 rfl ?_
  refine L_iconst (v := 3) hC dL_law_1175 (by decide) ?_
  refine L_iadd hC dL_law_1176 ?_
  refine L_sld hC hin3 dL_law_1177 ?_
  refine L_callM (U := aVi) (As := [.int (xs (x3 + (1 : Int32)).toNatClampNeg), .int (xs (x3 + (2 : Int32)).toNatClampNeg), .int (xs (x3 + (3 : Int32)).toNatClampNeg)]) (st := []) (n := 3) (x := r2) (D2 := D2) hC hlay2 (fun l => mX11_worth l _ mL_ok (xs (x3 + (1 : Int32)).toNatClampNeg) (xs (x3 + (2 : Int32)).toNatClampNeg) (xs (x3 + (3 : Int32)).toNatClampNeg) Dm) hfm rfl yc_L_129 rfl rfl ⟨by decide, by decide⟩ (Nat.le_of_ble_eq_true rfl) ⟨by omega, by omega⟩ rfl dL_law_1178 ?_
  refine L_pop hC dL_law_1181 rfl ?_
  refine L_goto (tgt := 1254) hC dL_law_1182 (by decide) ?_
  exact kk _ _ _ _ hI9 ⟨by omega, by omega⟩
def LOp27 (I J : APD → ADD → Prop) : Prop := ∀ P Dm, I P Dm → ∀ a1 : Int32, ∃ r1 D1 r2 D2, fX10_count a1 P.2 = some (r1, D1) ∧ fX11_count a1 Dm = some (r2, D2) ∧ True ∧ J (P.1, D1) D2
set_option maxHeartbeats 4000000 in
set_option maxRecDepth 100000 in
theorem law_c27 (hC : LC q b L xs G) (h : LLays (LB q) I) (hJ : ∀ P Dm, J P Dm → LLay P) (hin1 : vp_in (x3 + (1 : Int32)) L) (hin2 : vp_in (x3 + (2 : Int32)) L) (hin3 : vp_in (x3 + (3 : Int32)) L) (hin4 : vp_in (x3 + (4 : Int32)) L) (hin5 : vp_in (x3 + (5 : Int32)) L) (hcap : cl + 100 ≤ 75420 ∧ sl + 4000 ≤ 8875990) (hop : LOp27 I J) (hI : I P Dm) (kk : ∀ P2 Dm2 cl2 sl2, J P2 Dm2 → cl2 ≤ cl + 31 ∧ sl2 ≤ sl + 3553 → AL q b G cl2 sl2 1254 [some (.ref b), some (.ref (LB q + 0)), some (.ref (LB q + 58 + 0)), some (.int x3)] [] P2 Dm2) : AL q b G cl sl 1185 [some (.ref b), some (.ref (LB q + 0)), some (.ref (LB q + 58 + 0)), some (.int x3)] [] P Dm := by
  obtain ⟨hlay, hLX, hLS1, im, him⟩ := h P Dm hI
  have hX0 : 0 ∈ P.1.2.1 ∧ P.1.2.2 0 = (9, 0, xTab_r0 (LB q)) := hLX 0 _ (List.mem_of_getElem? (i := 0) rfl)
  have hLX : aLX (LB q, G.1, G.2.1, G.2.2.1, G.2.2.2, P.1) := hLX
  have hLS : aLS (LB q, G.1, G.2.1, G.2.2.1, G.2.2.2, P.1) 1 := hLS1 _ _ _ _
  obtain ⟨r1, D1, r2, D2, hfx, hfm, hrr, hI9⟩ := hop P Dm hI (xs (x3 + (1 : Int32)).toNatClampNeg)
  have hlay2 : LLay (P.1, D1) := hlay
  refine L_aload_n hC dL_law_1185 rfl ?_
  refine L_aload_n hC dL_law_1186 rfl ?_
  refine L_iload_n hC dL_law_1187 rfl ?_
  refine L_iconst (v := 1) hC dL_law_1188 (by decide) ?_
  refine L_iadd hC dL_law_1189 ?_
  refine L_sld hC hin1 dL_law_1190 ?_
  refine L_callX (U := aVi) (As := [.int (xs (x3 + (1 : Int32)).toNatClampNeg)]) (st := []) (n := 1) (x := r1) (D2 := D1) hC hlay hX0 (fun l => mX10_count l _ hLX (xs (x3 + (1 : Int32)).toNatClampNeg) P.2) hfx rfl yc_L_130 rfl rfl ⟨by decide, by decide⟩ (Nat.le_of_ble_eq_true rfl) ⟨by omega, by omega⟩ rfl dL_law_1191 ?_
  refine L_pop hC dL_law_1194 rfl ?_
  refine L_aload_n hC dL_law_1195 rfl ?_
  refine L_aload_n hC dL_law_1196 rfl ?_
  refine L_iload_n hC dL_law_1197 rfl ?_
  refine L_iconst (v := 1) hC dL_law_1198 (by decide) ?_
  refine L_iadd hC dL_law_1199 ?_
  refine L_sld hC hin1 dL_law_1200 ?_
  refine L_callM (U := aVi) (As := [.int (xs (x3 + (1 : Int32)).toNatClampNeg)]) (st := []) (n := 1) (x := r2) (D2 := D2) hC hlay2 (fun l => mX11_count l _ mL_ok (xs (x3 + (1 : Int32)).toNatClampNeg) Dm) hfm rfl yc_L_133 rfl rfl ⟨by decide, by decide⟩ (Nat.le_of_ble_eq_true rfl) ⟨by omega, by omega⟩ rfl dL_law_1201 ?_
  refine L_pop hC dL_law_1204 rfl ?_
  refine L_goto (tgt := 1254) hC dL_law_1205 (by decide) ?_
  exact kk _ _ _ _ hI9 ⟨by omega, by omega⟩
def LOp28 (n0 : Nat) (I J : APD → ADD → Prop) : Prop := ∀ P Dm, I P Dm → ∀ im, imOK n0 P.1 im → ∀ a1 : Int32, ∃ r1 E r2 D2, fImg n0 im P.1 a1 P.2 = some (r1, E) ∧ fX11_image a1 Dm = some (r2, D2) ∧ True ∧ J E D2 ∧ P.1.1 ≤ E.1.1 ∧
  (∀ P3, P3 = aPR (fI_X8_init n0 P.1.1 (aNO (P.1, P.2) 7)) 32 a1.toNatClampNeg (n0 + P.1.1) → aLSw n0 P3.1 P.1.1 ∧ aLSw n0 P3.1 1) ∧
  (∀ P2, P2 = fI_X8_init n0 P.1.1 (aNO (P.1, P.2) 7) → (32 ∈ P2.1.2.1 ∧ P2.1.2.2 32 = (15, 3, fun j => (im j).map (n0 + ·))) ∧ (P2.1.2.2 0).2.2 1 = some (n0 + 32) ∧ (P2.1.2.2 0).2.2 0 = some (n0 + 1))
set_option maxHeartbeats 4000000 in
set_option maxRecDepth 100000 in
theorem law_c28 (hC : LC q b L xs G) (h : LLays (LB q) I) (hJ : ∀ P Dm, J P Dm → LLay P) (hin1 : vp_in (x3 + (1 : Int32)) L) (hin2 : vp_in (x3 + (2 : Int32)) L) (hin3 : vp_in (x3 + (3 : Int32)) L) (hin4 : vp_in (x3 + (4 : Int32)) L) (hin5 : vp_in (x3 + (5 : Int32)) L) (hcap : cl + 100 ≤ 75420 ∧ sl + 4000 ≤ 8875990) (hop : LOp28 (LB q) I J) (hI : I P Dm) (kk : ∀ P2 Dm2 cl2 sl2, J P2 Dm2 → cl2 ≤ cl + 31 ∧ sl2 ≤ sl + 3553 → AL q b G cl2 sl2 1254 [some (.ref b), some (.ref (LB q + 0)), some (.ref (LB q + 58 + 0)), some (.int x3)] [] P2 Dm2) : AL q b G cl sl 1208 [some (.ref b), some (.ref (LB q + 0)), some (.ref (LB q + 58 + 0)), some (.int x3)] [] P Dm := by
  obtain ⟨hlay, hLX, hLS1, im, him⟩ := h P Dm hI
  have hX0 : 0 ∈ P.1.2.1 ∧ P.1.2.2 0 = (9, 0, xTab_r0 (LB q)) := hLX 0 _ (List.mem_of_getElem? (i := 0) rfl)
  have hLX : aLX (LB q, G.1, G.2.1, G.2.2.1, G.2.2.2, P.1) := hLX
  have hLS : aLS (LB q, G.1, G.2.1, G.2.2.1, G.2.2.2, P.1) 1 := hLS1 _ _ _ _
  obtain ⟨r1, E, r2, D2, hfx, hfm, hrr, hI9, hgr, hN1a, hN2⟩ := hop P Dm hI im him (xs (x3 + (1 : Int32)).toNatClampNeg)
  have hN1 := fun P3 e3 => And.intro ((hN1a P3 e3).1 G.1 G.2.1 G.2.2.1 G.2.2.2) ((hN1a P3 e3).2 G.1 G.2.1 G.2.2.1 G.2.2.2)
  have hlay2 : LLay E := hJ E D2 hI9
  refine L_aload_n hC dL_law_1208 rfl ?_
  refine L_aload_n hC dL_law_1209 rfl ?_
  refine L_iload_n hC dL_law_1210 rfl ?_
  refine L_iconst (v := 1) hC dL_law_1211 (by decide) ?_
  refine L_iadd hC dL_law_1212 ?_
  refine L_sld hC hin1 dL_law_1213 ?_
  refine L_callK (As := [.int (xs (x3 + (1 : Int32)).toNatClampNeg)]) (st := []) (n := 1) hC hlay hX0 (fun l => mkX10_image l _ im hLX hLS ⟨him.1.1, him.1.2⟩ (fun j z hj hz => him.2 j z hj hz _ _ _ _) (fun z hz => (hlay.2 z hz).2) (xs (x3 + (1 : Int32)).toNatClampNeg) P.2 hN1 hN2 r1 E hfx) hgr rfl yc_L_134 rfl rfl ⟨by decide, by decide⟩ (Nat.le_of_ble_eq_true rfl) ⟨by omega, by omega⟩ rfl dL_law_1214 ?_
  refine L_pop hC dL_law_1217 rfl ?_
  refine L_aload_n hC dL_law_1218 rfl ?_
  refine L_aload_n hC dL_law_1219 rfl ?_
  refine L_iload_n hC dL_law_1220 rfl ?_
  refine L_iconst (v := 1) hC dL_law_1221 (by decide) ?_
  refine L_iadd hC dL_law_1222 ?_
  refine L_sld hC hin1 dL_law_1223 ?_
  refine L_callM (U := aVi) (As := [.int (xs (x3 + (1 : Int32)).toNatClampNeg)]) (st := []) (n := 1) (x := r2) (D2 := D2) hC hlay2 (fun l => mX11_image l _ mL_ok (xs (x3 + (1 : Int32)).toNatClampNeg) Dm) hfm rfl yc_L_137 rfl rfl ⟨by decide, by decide⟩ (Nat.le_of_ble_eq_true rfl) ⟨by omega, by omega⟩ rfl dL_law_1224 ?_
  refine L_pop hC dL_law_1227 rfl ?_
  refine L_goto (tgt := 1254) hC dL_law_1228 (by decide) ?_
  exact kk _ _ _ _ hI9 ⟨by omega, by omega⟩
def LOp29 (n0 : Nat) (I J : APD → ADD → Prop) : Prop := ∀ P Dm, I P Dm → ∀ im, imOK n0 P.1 im → ∀ a1 : Int32, ∃ r1 D1 r2 D2, fAgn im a1 P.2 = some (r1, D1) ∧ fX11_again a1 Dm = some (r2, D2) ∧ True ∧ J (P.1, D1) D2
set_option maxHeartbeats 4000000 in
set_option maxRecDepth 100000 in
theorem law_c29 (hC : LC q b L xs G) (h : LLays (LB q) I) (hJ : ∀ P Dm, J P Dm → LLay P) (hin1 : vp_in (x3 + (1 : Int32)) L) (hin2 : vp_in (x3 + (2 : Int32)) L) (hin3 : vp_in (x3 + (3 : Int32)) L) (hin4 : vp_in (x3 + (4 : Int32)) L) (hin5 : vp_in (x3 + (5 : Int32)) L) (hcap : cl + 100 ≤ 75420 ∧ sl + 4000 ≤ 8875990) (hop : LOp29 (LB q) I J) (hI : I P Dm) (kk : ∀ P2 Dm2 cl2 sl2, J P2 Dm2 → cl2 ≤ cl + 31 ∧ sl2 ≤ sl + 3553 → AL q b G cl2 sl2 1254 [some (.ref b), some (.ref (LB q + 0)), some (.ref (LB q + 58 + 0)), some (.int x3)] [] P2 Dm2) : AL q b G cl sl 1231 [some (.ref b), some (.ref (LB q + 0)), some (.ref (LB q + 58 + 0)), some (.int x3)] [] P Dm := by
  obtain ⟨hlay, hLX, hLS1, im, him⟩ := h P Dm hI
  have hX0 : 0 ∈ P.1.2.1 ∧ P.1.2.2 0 = (9, 0, xTab_r0 (LB q)) := hLX 0 _ (List.mem_of_getElem? (i := 0) rfl)
  have hLX : aLX (LB q, G.1, G.2.1, G.2.2.1, G.2.2.2, P.1) := hLX
  have hLS : aLS (LB q, G.1, G.2.1, G.2.2.1, G.2.2.2, P.1) 1 := hLS1 _ _ _ _
  obtain ⟨r1, D1, r2, D2, hfx, hfm, hrr, hI9⟩ := hop P Dm hI im him (xs (x3 + (1 : Int32)).toNatClampNeg)
  have hlay2 : LLay (P.1, D1) := hlay
  refine L_aload_n hC dL_law_1231 rfl ?_
  refine L_aload_n hC dL_law_1232 rfl ?_
  refine L_iload_n hC dL_law_1233 rfl ?_
  refine L_iconst (v := 1) hC dL_law_1234 (by decide) ?_
  refine L_iadd hC dL_law_1235 ?_
  refine L_sld hC hin1 dL_law_1236 ?_
  refine L_callK (As := [.int (xs (x3 + (1 : Int32)).toNatClampNeg)]) (st := []) (n := 1) (mc2 := 0) (ms2 := 0) hC hlay hX0 (fun l => mkX10_again l _ im hLX hLS ⟨him.1.1, him.1.2⟩ (fun j z hj hz => him.2 j z hj hz _ _ _ _) (fun z hz => (hlay.2 z hz).2) (xs (x3 + (1 : Int32)).toNatClampNeg) P.2 r1 D1 hfx) (Nat.le_refl _) rfl yc_L_138 rfl rfl ⟨by decide, by decide⟩ (Nat.le_of_ble_eq_true rfl) ⟨by omega, by omega⟩ rfl dL_law_1237 ?_
  refine L_pop hC dL_law_1240 rfl ?_
  refine L_aload_n hC dL_law_1241 rfl ?_
  refine L_aload_n hC dL_law_1242 rfl ?_
  refine L_iload_n hC dL_law_1243 rfl ?_
  refine L_iconst (v := 1) hC dL_law_1244 (by decide) ?_
  refine L_iadd hC dL_law_1245 ?_
  refine L_sld hC hin1 dL_law_1246 ?_
  refine L_callM (U := aVi) (As := [.int (xs (x3 + (1 : Int32)).toNatClampNeg)]) (st := []) (n := 1) (x := r2) (D2 := D2) hC hlay2 (fun l => mX11_again l _ mL_ok (xs (x3 + (1 : Int32)).toNatClampNeg) Dm) hfm rfl yc_L_141 rfl rfl ⟨by decide, by decide⟩ (Nat.le_of_ble_eq_true rfl) ⟨by omega, by omega⟩ rfl dL_law_1247 ?_
  refine L_pop hC dL_law_1250 rfl ?_
  refine L_goto (tgt := 1254) hC dL_law_1251 (by decide) ?_
  exact kk _ _ _ _ hI9 ⟨by omega, by omega⟩
end L2
/-- all that the law needs of an invariant of both states -/
def LAll (n0 : Nat) (I J : APD → ADD → Prop) : Prop := LLays n0 I ∧ (∀ P Dm, J P Dm → LLay P) ∧ (∀ P Dm, I P Dm → J P Dm) ∧ LOp0 I J ∧ LOp1 I J ∧ LOp2 I J ∧ LOp3 I J ∧ LOp4 I J ∧ LOp5 I J ∧ LOp6 I J ∧ LOp7 I J ∧ LOp8 I J ∧ LOp9 I J ∧ LOp10 I J ∧ LOp11 I J ∧ LOp12 I J ∧ LOp13 I J ∧ LOp14 I J ∧ LOp15 I J ∧ LOp16 I J ∧ LOp17 I J ∧ LOp18 I J ∧ LOp19 I J ∧ LOp20 I J ∧ LOp21 I J ∧ LOp22 I J ∧ LOp23 I J ∧ LOp24 I J ∧ LOp25 I J ∧ LOp26 I J ∧ LOp27 I J ∧ LOp28 n0 I J ∧ LOp29 n0 I J
theorem law_in {i L c : Nat} {x3 z : Int32} (hL : L ≤ 3072) (e : x3 = nI i) (hz : z = nI c) (h : i + c < L) : vp_in (x3 + z) L := by
  have : x3 + z = nI (i + c) := by rw [e, hz]; exact (Int32.ofNat_add i c).symm
  rw [this]
  exact vp_in_nI h (by omega)
theorem law_go {i L : Nat} {x3 : Int32} (hL : L ≤ 3072) (hi : i ≤ 3078) (e : x3 = nI i) : ¬ (Int32.ofNat L - 6 < x3) ↔ i + 6 ≤ L := by
  have h1 : (Int32.ofNat L).toInt = (L : Int) := nI_toInt (by omega)
  have h2 : (nI i).toInt = (i : Int) := nI_toInt (by omega)
  have h3 : (Int32.ofNat L - 6).toInt = (L : Int) - 6 := by
    rw [Int32.toInt_sub, h1]
    have h6 : (6 : Int32).toInt = 6 := by decide
    rw [h6]
    apply Int.bmod_eq_of_le <;> omega
  rw [e, Int32.lt_iff_toInt_lt, h3, h2]
  omega
set_option maxHeartbeats 4000000 in
set_option maxRecDepth 100000 in
/-- the law's loop -/
theorem law_loop {q : LQ} {b L : Nat} {xs : Nat → Int32} {G : LG} {I : Nat → APD → ADD → Prop} (hL : L ≤ 3072) (hC : LC q b L xs G) (hA : ∀ k, 6 * k + 6 ≤ L → LAll (LB q) (I k) (I (k + 1))) :
    ∀ (n k : Nat) (x3 : Int32) (cl sl : Nat), L + 7 ≤ 6 * k + n → 6 * k ≤ L + 6 → x3 = nI (6 * k) → cl ≤ 1000 + 31 * k ∧ sl ≤ 100000 + 3553 * k → ∀ (P : APD) (Dm : ADD), I k P Dm → AL q b G cl sl 18 [some (.ref b), some (.ref (LB q + 0)), some (.ref (LB q + 58 + 0)), some (.int x3)] [] P Dm := by
  intro n
  induction n with
  | zero => intro k x3 cl sl h1 h2; omega
  | succ n ih =>
    intro k x3 cl sl h1 h2 e3 hcap P Dm hI
    have hk : k ≤ 513 := by omega
    refine L_iload_n hC dL_law_18 rfl ?_
    refine L_aload_n hC dL_law_19 rfl ?_
    refine L_slen hC dL_law_20 ?_
    refine L_bipush (v := 6) hC dL_law_21 (by decide) ?_
    refine L_isub hC dL_law_23 ?_
    by_cases hgo : Int32.ofNat L - 6 < x3
    · refine L_icmpgt_t (tgt := 1260) hC dL_law_24 (by decide) hgo ?_
      refine L_iconst (v := 1) hC dL_law_1260 (by decide) ?_
      exact L_end hC ⟨by omega, by omega⟩ dL_law_1261
    have hgo2 := (law_go hL (by omega) e3).mp hgo
    obtain ⟨hLy, hJ, hIJ, o0, o1, o2, o3, o4, o5, o6, o7, o8, o9, o10, o11, o12, o13, o14, o15, o16, o17, o18, o19, o20, o21, o22, o23, o24, o25, o26, o27, o28, o29⟩ := hA k hgo2
    refine L_icmpgt_n (tgt := 1260) hC dL_law_24 (by decide) hgo ?_
    have hin0 : vp_in (x3 + (0 : Int32)) L := law_in hL e3 (c := 0) rfl (by omega)
    have hin1 : vp_in (x3 + (1 : Int32)) L := law_in hL e3 (c := 1) rfl (by omega)
    have hin2 : vp_in (x3 + (2 : Int32)) L := law_in hL e3 (c := 2) rfl (by omega)
    have hin3 : vp_in (x3 + (3 : Int32)) L := law_in hL e3 (c := 3) rfl (by omega)
    have hin4 : vp_in (x3 + (4 : Int32)) L := law_in hL e3 (c := 4) rfl (by omega)
    have hin5 : vp_in (x3 + (5 : Int32)) L := law_in hL e3 (c := 5) rfl (by omega)
    have hin : vp_in x3 L := by rw [e3]; exact vp_in_nI (by omega) (by omega)
    refine L_aload_n hC dL_law_27 rfl ?_
    refine L_iload_n hC dL_law_28 rfl ?_
    refine L_sld hC hin dL_law_29 ?_
    refine L_bipush (v := 31) hC dL_law_30 (by decide) ?_
    refine L_iand hC dL_law_32 ?_
    have kk : ∀ P2 Dm2 cl2 sl2, I (k + 1) P2 Dm2 → cl2 ≤ cl + 31 ∧ sl2 ≤ sl + 3553 → AL q b G cl2 sl2 1254 [some (.ref b), some (.ref (LB q + 0)), some (.ref (LB q + 58 + 0)), some (.int x3)] [] P2 Dm2 := by
      intro P2 Dm2 cl2 sl2 hI2 hc2
      refine L_iinc (v := x3 + 6) (lv2 := [some (.ref b), some (.ref (LB q + 0)), some (.ref (LB q + 58 + 0)), some (.int (x3 + 6))]) hC dL_law_1254 rfl (by rfl) (Nat.le_of_ble_eq_true rfl) rfl rfl ?_
      refine L_goto (tgt := 18) hC dL_law_1257 (by decide) ?_
      exact ih (k + 1) (x3 + 6) cl2 sl2 (by omega) (by omega) (by rw [e3, show 6 * (k + 1) = 6 * k + 6 by omega]; exact (Int32.ofNat_add (6 * k) 6).symm) ⟨by omega, by omega⟩ P2 Dm2 hI2
    obtain ⟨j, hj, ej⟩ := pk_andE (xs x3.toNatClampNeg) (m := 31) 5 (by decide)
    rw [ej]
    have hcap2 : cl + 100 ≤ 75420 ∧ sl + 4000 ≤ 8875990 := ⟨by omega, by omega⟩
    have hj : j < 32 := hj
    by_cases h0 : j = 0
    · subst h0
      refine L_tabIn (off := 135) (tgt := 168) hC dL_law_33 ⟨by decide, by decide, by decide +kernel⟩ (by decide) ?_
      exact law_c0 hC hLy hJ hin1 hin2 hin3 hin4 hin5 hcap2 o0 hI kk
    by_cases h1 : j = 1
    · subst h1
      refine L_tabIn (off := 178) (tgt := 211) hC dL_law_33 ⟨by decide, by decide, by decide +kernel⟩ (by decide) ?_
      exact law_c1 hC hLy hJ hin1 hin2 hin3 hin4 hin5 hcap2 o1 hI kk
    by_cases h2 : j = 2
    · subst h2
      refine L_tabIn (off := 221) (tgt := 254) hC dL_law_33 ⟨by decide, by decide, by decide +kernel⟩ (by decide) ?_
      exact law_c2 hC hLy hJ hin1 hin2 hin3 hin4 hin5 hcap2 o2 hI kk
    by_cases h3 : j = 3
    · subst h3
      refine L_tabIn (off := 244) (tgt := 277) hC dL_law_33 ⟨by decide, by decide, by decide +kernel⟩ (by decide) ?_
      exact law_c3 hC hLy hJ hin1 hin2 hin3 hin4 hin5 hcap2 o3 hI kk
    by_cases h4 : j = 4
    · subst h4
      refine L_tabIn (off := 267) (tgt := 300) hC dL_law_33 ⟨by decide, by decide, by decide +kernel⟩ (by decide) ?_
      exact law_c4 hC hLy hJ hin1 hin2 hin3 hin4 hin5 hcap2 o4 hI kk
    by_cases h5 : j = 5
    · subst h5
      refine L_tabIn (off := 300) (tgt := 333) hC dL_law_33 ⟨by decide, by decide, by decide +kernel⟩ (by decide) ?_
      exact law_c5 hC hLy hJ hin1 hin2 hin3 hin4 hin5 hcap2 o5 hI kk
    by_cases h6 : j = 6
    · subst h6
      refine L_tabIn (off := 333) (tgt := 366) hC dL_law_33 ⟨by decide, by decide, by decide +kernel⟩ (by decide) ?_
      exact law_c6 hC hLy hJ hin1 hin2 hin3 hin4 hin5 hcap2 o6 hI kk
    by_cases h7 : j = 7
    · subst h7
      refine L_tabIn (off := 396) (tgt := 429) hC dL_law_33 ⟨by decide, by decide, by decide +kernel⟩ (by decide) ?_
      exact law_c7 hC hLy hJ hin1 hin2 hin3 hin4 hin5 hcap2 o7 hI kk
    by_cases h8 : j = 8
    · subst h8
      refine L_tabIn (off := 419) (tgt := 452) hC dL_law_33 ⟨by decide, by decide, by decide +kernel⟩ (by decide) ?_
      exact law_c8 hC hLy hJ hin1 hin2 hin3 hin4 hin5 hcap2 o8 hI kk
    by_cases h9 : j = 9
    · subst h9
      refine L_tabIn (off := 458) (tgt := 491) hC dL_law_33 ⟨by decide, by decide, by decide +kernel⟩ (by decide) ?_
      exact law_c9 hC hLy hJ hin1 hin2 hin3 hin4 hin5 hcap2 o9 hI kk
    by_cases h10 : j = 10
    · subst h10
      refine L_tabIn (off := 481) (tgt := 514) hC dL_law_33 ⟨by decide, by decide, by decide +kernel⟩ (by decide) ?_
      exact law_c10 hC hLy hJ hin1 hin2 hin3 hin4 hin5 hcap2 o10 hI kk
    by_cases h11 : j = 11
    · subst h11
      refine L_tabIn (off := 544) (tgt := 577) hC dL_law_33 ⟨by decide, by decide, by decide +kernel⟩ (by decide) ?_
      exact law_c11 hC hLy hJ hin1 hin2 hin3 hin4 hin5 hcap2 o11 hI kk
    by_cases h12 : j = 12
    · subst h12
      refine L_tabIn (off := 577) (tgt := 610) hC dL_law_33 ⟨by decide, by decide, by decide +kernel⟩ (by decide) ?_
      exact law_c12 hC hLy hJ hin1 hin2 hin3 hin4 hin5 hcap2 o12 hI kk
    by_cases h13 : j = 13
    · subst h13
      refine L_tabIn (off := 620) (tgt := 653) hC dL_law_33 ⟨by decide, by decide, by decide +kernel⟩ (by decide) ?_
      exact law_c13 hC hLy hJ hin1 hin2 hin3 hin4 hin5 hcap2 o13 hI kk
    by_cases h14 : j = 14
    · subst h14
      refine L_tabIn (off := 643) (tgt := 676) hC dL_law_33 ⟨by decide, by decide, by decide +kernel⟩ (by decide) ?_
      exact law_c14 hC hLy hJ hin1 hin2 hin3 hin4 hin5 hcap2 o14 hI kk
    by_cases h15 : j = 15
    · subst h15
      refine L_tabIn (off := 676) (tgt := 709) hC dL_law_33 ⟨by decide, by decide, by decide +kernel⟩ (by decide) ?_
      exact law_c15 hC hLy hJ hin1 hin2 hin3 hin4 hin5 hcap2 o15 hI kk
    by_cases h16 : j = 16
    · subst h16
      refine L_tabIn (off := 719) (tgt := 752) hC dL_law_33 ⟨by decide, by decide, by decide +kernel⟩ (by decide) ?_
      exact law_c16 hC hLy hJ hin1 hin2 hin3 hin4 hin5 hcap2 o16 hI kk
    by_cases h17 : j = 17
    · subst h17
      refine L_tabIn (off := 752) (tgt := 785) hC dL_law_33 ⟨by decide, by decide, by decide +kernel⟩ (by decide) ?_
      exact law_c17 hC hLy hJ hin1 hin2 hin3 hin4 hin5 hcap2 o17 hI kk
    by_cases h18 : j = 18
    · subst h18
      refine L_tabIn (off := 785) (tgt := 818) hC dL_law_33 ⟨by decide, by decide, by decide +kernel⟩ (by decide) ?_
      exact law_c18 hC hLy hJ hin1 hin2 hin3 hin4 hin5 hcap2 o18 hI kk
    by_cases h19 : j = 19
    · subst h19
      refine L_tabIn (off := 808) (tgt := 841) hC dL_law_33 ⟨by decide, by decide, by decide +kernel⟩ (by decide) ?_
      exact law_c19 hC hLy hJ hin1 hin2 hin3 hin4 hin5 hcap2 o19 hI kk
    by_cases h20 : j = 20
    · subst h20
      refine L_tabIn (off := 851) (tgt := 884) hC dL_law_33 ⟨by decide, by decide, by decide +kernel⟩ (by decide) ?_
      exact law_c20 hC hLy hJ hin1 hin2 hin3 hin4 hin5 hcap2 o20 hI kk
    by_cases h21 : j = 21
    · subst h21
      refine L_tabIn (off := 894) (tgt := 927) hC dL_law_33 ⟨by decide, by decide, by decide +kernel⟩ (by decide) ?_
      exact law_c21 hC hLy hJ hin1 hin2 hin3 hin4 hin5 hcap2 o21 hI kk
    by_cases h22 : j = 22
    · subst h22
      refine L_tabIn (off := 957) (tgt := 990) hC dL_law_33 ⟨by decide, by decide, by decide +kernel⟩ (by decide) ?_
      exact law_c22 hC hLy hJ hin1 hin2 hin3 hin4 hin5 hcap2 o22 hI kk
    by_cases h23 : j = 23
    · subst h23
      refine L_tabIn (off := 1000) (tgt := 1033) hC dL_law_33 ⟨by decide, by decide, by decide +kernel⟩ (by decide) ?_
      exact law_c23 hC hLy hJ hin1 hin2 hin3 hin4 hin5 hcap2 o23 hI kk
    by_cases h24 : j = 24
    · subst h24
      refine L_tabIn (off := 1043) (tgt := 1076) hC dL_law_33 ⟨by decide, by decide, by decide +kernel⟩ (by decide) ?_
      exact law_c24 hC hLy hJ hin1 hin2 hin3 hin4 hin5 hcap2 o24 hI kk
    by_cases h25 : j = 25
    · subst h25
      refine L_tabIn (off := 1076) (tgt := 1109) hC dL_law_33 ⟨by decide, by decide, by decide +kernel⟩ (by decide) ?_
      exact law_c25 hC hLy hJ hin1 hin2 hin3 hin4 hin5 hcap2 o25 hI kk
    by_cases h26 : j = 26
    · subst h26
      refine L_tabIn (off := 1109) (tgt := 1142) hC dL_law_33 ⟨by decide, by decide, by decide +kernel⟩ (by decide) ?_
      exact law_c26 hC hLy hJ hin1 hin2 hin3 hin4 hin5 hcap2 o26 hI kk
    by_cases h27 : j = 27
    · subst h27
      refine L_tabIn (off := 1152) (tgt := 1185) hC dL_law_33 ⟨by decide, by decide, by decide +kernel⟩ (by decide) ?_
      exact law_c27 hC hLy hJ hin1 hin2 hin3 hin4 hin5 hcap2 o27 hI kk
    by_cases h28 : j = 28
    · subst h28
      refine L_tabIn (off := 1175) (tgt := 1208) hC dL_law_33 ⟨by decide, by decide, by decide +kernel⟩ (by decide) ?_
      exact law_c28 hC hLy hJ hin1 hin2 hin3 hin4 hin5 hcap2 o28 hI kk
    by_cases h29 : j = 29
    · subst h29
      refine L_tabIn (off := 1198) (tgt := 1231) hC dL_law_33 ⟨by decide, by decide, by decide +kernel⟩ (by decide) ?_
      exact law_c29 hC hLy hJ hin1 hin2 hin3 hin4 hin5 hcap2 o29 hI kk
    by_cases h30 : j = 30
    · subst h30
      refine L_tabOut (tgt := 1254) hC dL_law_33 (by decide) (by decide) ?_
      exact kk _ _ _ _ (hIJ _ _ hI) ⟨by omega, by omega⟩
    by_cases h31 : j = 31
    · subst h31
      refine L_tabOut (tgt := 1254) hC dL_law_33 (by decide) (by decide) ?_
      exact kk _ _ _ _ (hIJ _ _ hI) ⟨by omega, by omega⟩
    omega
