theorem ci_m8 : Int32.ofInt (-8) = -8 := by decide +kernel
theorem ci_m1 : Int32.ofInt (-1) = -1 := by decide +kernel
theorem ci_0 : Int32.ofInt (0) = 0 := by decide +kernel
theorem ci_1 : Int32.ofInt (1) = 1 := by decide +kernel
theorem ci_2 : Int32.ofInt (2) = 2 := by decide +kernel
theorem ci_3 : Int32.ofInt (3) = 3 := by decide +kernel
theorem ci_4 : Int32.ofInt (4) = 4 := by decide +kernel
theorem ci_5 : Int32.ofInt (5) = 5 := by decide +kernel
theorem ci_6 : Int32.ofInt (6) = 6 := by decide +kernel
theorem ci_16 : Int32.ofInt (16) = 16 := by decide +kernel
theorem ci_64 : Int32.ofInt (64) = 64 := by decide +kernel
theorem cb_6 : (Int8.ofInt (6)).toInt32 = 6 := by decide +kernel
theorem cb_7 : (Int8.ofInt (7)).toInt32 = 7 := by decide +kernel
theorem cb_8 : (Int8.ofInt (8)).toInt32 = 8 := by decide +kernel
theorem cb_9 : (Int8.ofInt (9)).toInt32 = 9 := by decide +kernel
theorem cb_10 : (Int8.ofInt (10)).toInt32 = 10 := by decide +kernel
theorem cb_11 : (Int8.ofInt (11)).toInt32 = 11 := by decide +kernel
theorem cb_12 : (Int8.ofInt (12)).toInt32 = 12 := by decide +kernel
theorem cb_13 : (Int8.ofInt (13)).toInt32 = 13 := by decide +kernel
theorem cb_14 : (Int8.ofInt (14)).toInt32 = 14 := by decide +kernel
theorem cb_15 : (Int8.ofInt (15)).toInt32 = 15 := by decide +kernel
theorem cb_16 : (Int8.ofInt (16)).toInt32 = 16 := by decide +kernel
theorem cb_17 : (Int8.ofInt (17)).toInt32 = 17 := by decide +kernel
theorem cb_18 : (Int8.ofInt (18)).toInt32 = 18 := by decide +kernel
theorem cb_19 : (Int8.ofInt (19)).toInt32 = 19 := by decide +kernel
theorem cb_20 : (Int8.ofInt (20)).toInt32 = 20 := by decide +kernel
theorem cb_21 : (Int8.ofInt (21)).toInt32 = 21 := by decide +kernel
theorem cb_22 : (Int8.ofInt (22)).toInt32 = 22 := by decide +kernel
theorem cb_23 : (Int8.ofInt (23)).toInt32 = 23 := by decide +kernel
theorem cb_24 : (Int8.ofInt (24)).toInt32 = 24 := by decide +kernel
theorem cb_25 : (Int8.ofInt (25)).toInt32 = 25 := by decide +kernel
theorem cb_26 : (Int8.ofInt (26)).toInt32 = 26 := by decide +kernel
theorem cb_30 : (Int8.ofInt (30)).toInt32 = 30 := by decide +kernel
theorem cb_31 : (Int8.ofInt (31)).toInt32 = 31 := by decide +kernel
theorem cb_32 : (Int8.ofInt (32)).toInt32 = 32 := by decide +kernel
theorem cb_33 : (Int8.ofInt (33)).toInt32 = 33 := by decide +kernel
theorem cb_35 : (Int8.ofInt (35)).toInt32 = 35 := by decide +kernel
theorem cb_36 : (Int8.ofInt (36)).toInt32 = 36 := by decide +kernel
theorem cb_38 : (Int8.ofInt (38)).toInt32 = 38 := by decide +kernel
theorem cb_40 : (Int8.ofInt (40)).toInt32 = 40 := by decide +kernel
theorem cb_41 : (Int8.ofInt (41)).toInt32 = 41 := by decide +kernel
theorem cb_43 : (Int8.ofInt (43)).toInt32 = 43 := by decide +kernel
theorem cb_45 : (Int8.ofInt (45)).toInt32 = 45 := by decide +kernel
theorem cb_47 : (Int8.ofInt (47)).toInt32 = 47 := by decide +kernel
theorem cb_48 : (Int8.ofInt (48)).toInt32 = 48 := by decide +kernel
theorem cb_50 : (Int8.ofInt (50)).toInt32 = 50 := by decide +kernel
theorem cb_51 : (Int8.ofInt (51)).toInt32 = 51 := by decide +kernel
theorem cb_52 : (Int8.ofInt (52)).toInt32 = 52 := by decide +kernel
theorem cb_54 : (Int8.ofInt (54)).toInt32 = 54 := by decide +kernel
theorem cb_55 : (Int8.ofInt (55)).toInt32 = 55 := by decide +kernel
theorem cb_56 : (Int8.ofInt (56)).toInt32 = 56 := by decide +kernel
theorem cb_60 : (Int8.ofInt (60)).toInt32 = 60 := by decide +kernel
theorem cb_64 : (Int8.ofInt (64)).toInt32 = 64 := by decide +kernel
theorem cb_66 : (Int8.ofInt (66)).toInt32 = 66 := by decide +kernel
theorem cb_68 : (Int8.ofInt (68)).toInt32 = 68 := by decide +kernel
theorem cb_70 : (Int8.ofInt (70)).toInt32 = 70 := by decide +kernel
theorem cb_92 : (Int8.ofInt (92)).toInt32 = 92 := by decide +kernel
theorem cb_96 : (Int8.ofInt (96)).toInt32 = 96 := by decide +kernel
theorem cb_100 : (Int8.ofInt (100)).toInt32 = 100 := by decide +kernel
theorem cb_103 : (Int8.ofInt (103)).toInt32 = 103 := by decide +kernel
theorem cb_107 : (Int8.ofInt (107)).toInt32 = 107 := by decide +kernel
theorem cb_115 : (Int8.ofInt (115)).toInt32 = 115 := by decide +kernel
theorem cb_123 : (Int8.ofInt (123)).toInt32 = 123 := by decide +kernel
theorem cs_128 : (Int16.ofInt (128)).toInt32 = 128 := by decide +kernel
theorem cs_132 : (Int16.ofInt (132)).toInt32 = 132 := by decide +kernel
theorem cs_252 : (Int16.ofInt (252)).toInt32 = 252 := by decide +kernel
theorem cs_255 : (Int16.ofInt (255)).toInt32 = 255 := by decide +kernel
theorem cs_256 : (Int16.ofInt (256)).toInt32 = 256 := by decide +kernel
theorem cs_257 : (Int16.ofInt (257)).toInt32 = 257 := by decide +kernel
theorem cs_278 : (Int16.ofInt (278)).toInt32 = 278 := by decide +kernel
theorem cs_400 : (Int16.ofInt (400)).toInt32 = 400 := by decide +kernel
theorem cs_422 : (Int16.ofInt (422)).toInt32 = 422 := by decide +kernel
theorem cs_500 : (Int16.ofInt (500)).toInt32 = 500 := by decide +kernel
theorem cs_600 : (Int16.ofInt (600)).toInt32 = 600 := by decide +kernel
theorem cs_620 : (Int16.ofInt (620)).toInt32 = 620 := by decide +kernel
theorem cs_640 : (Int16.ofInt (640)).toInt32 = 640 := by decide +kernel
theorem cs_664 : (Int16.ofInt (664)).toInt32 = 664 := by decide +kernel
theorem cs_771 : (Int16.ofInt (771)).toInt32 = 771 := by decide +kernel
theorem cs_772 : (Int16.ofInt (772)).toInt32 = 772 := by decide +kernel
theorem cs_1200 : (Int16.ofInt (1200)).toInt32 = 1200 := by decide +kernel
theorem cs_1600 : (Int16.ofInt (1600)).toInt32 = 1600 := by decide +kernel
theorem cs_2000 : (Int16.ofInt (2000)).toInt32 = 2000 := by decide +kernel
theorem cs_4867 : (Int16.ofInt (4867)).toInt32 = 4867 := by decide +kernel
theorem cs_8000 : (Int16.ofInt (8000)).toInt32 = 8000 := by decide +kernel
theorem cs_16384 : (Int16.ofInt (16384)).toInt32 = 16384 := by decide +kernel
theorem cs_16640 : (Int16.ofInt (16640)).toInt32 = 16640 := by decide +kernel
theorem cs_21120 : (Int16.ofInt (21120)).toInt32 = 21120 := by decide +kernel
theorem kt_0_0 : mm_kt (tyX0 0) = 3 := by decide +kernel
theorem kt_0_1 : mm_kt (tyX0 1) = 5 := by decide +kernel
theorem kt_0_2 : mm_kt (tyX0 2) = 2 := by decide +kernel
theorem kt_0_3 : mm_kt (tyX0 3) = 2 := by decide +kernel
theorem kt_0_6 : mm_kt (tyX0 6) = 9 := by decide +kernel
theorem kt_0_7 : mm_kt (tyX0 7) = 6 := by decide +kernel
theorem kt_0_8 : mm_kt (tyX0 8) = 5 := by decide +kernel
theorem kt_0_9 : mm_kt (tyX0 9) = 5 := by decide +kernel
theorem kt_0_10 : mm_kt (tyX0 10) = 5 := by decide +kernel
theorem kt_0_11 : mm_kt (tyX0 11) = 5 := by decide +kernel
theorem kt_1_0 : mm_kt (tyX1 0) = 8 := by decide +kernel
theorem kt_1_1 : mm_kt (tyX1 1) = 5 := by decide +kernel
theorem kt_1_2 : mm_kt (tyX1 2) = 5 := by decide +kernel
theorem kt_1_3 : mm_kt (tyX1 3) = 5 := by decide +kernel
theorem kt_1_4 : mm_kt (tyX1 4) = 5 := by decide +kernel
theorem kt_1_5 : mm_kt (tyX1 5) = 5 := by decide +kernel
theorem kt_1_6 : mm_kt (tyX1 6) = 5 := by decide +kernel
theorem kt_2_0 : mm_kt (tyX2 0) = 5 := by decide +kernel
theorem kt_2_1 : mm_kt (tyX2 1) = 5 := by decide +kernel
theorem kt_2_2 : mm_kt (tyX2 2) = 5 := by decide +kernel
theorem kt_3_0 : mm_kt (tyX4 0) = 24 := by decide +kernel
theorem kt_4_0 : mm_kt (tyX5 0) = 23 := by decide +kernel
theorem kt_4_1 : mm_kt (tyX5 1) = 23 := by decide +kernel
theorem kt_4_2 : mm_kt (tyX5 2) = 23 := by decide +kernel
theorem kt_5_0 : mm_kt (tyX6 0) = 20 := by decide +kernel
theorem kt_6_0 : mm_kt (tyX7 0) = 5 := by decide +kernel
theorem kt_6_1 : mm_kt (tyX7 1) = 5 := by decide +kernel
theorem kt_6_2 : mm_kt (tyX7 2) = 5 := by decide +kernel
theorem kt_6_3 : mm_kt (tyX7 3) = 1 := by decide +kernel
theorem kt_6_4 : mm_kt (tyX7 4) = 5 := by decide +kernel
theorem kt_6_5 : mm_kt (tyX7 5) = 5 := by decide +kernel
theorem kt_7_0 : mm_kt (tyX8 0) = 4 := by decide +kernel
theorem kt_7_1 : mm_kt (tyX8 1) = 20 := by decide +kernel
theorem kt_7_2 : mm_kt (tyX8 2) = 20 := by decide +kernel
theorem kt_7_3 : mm_kt (tyX8 3) = 5 := by decide +kernel
theorem kt_7_4 : mm_kt (tyX8 4) = 5 := by decide +kernel
theorem kt_7_5 : mm_kt (tyX8 5) = 5 := by decide +kernel
theorem kt_8_0 : mm_kt (tyX9 0) = 20 := by decide +kernel
theorem kt_8_1 : mm_kt (tyX9 1) = 20 := by decide +kernel
theorem kt_9_0 : mm_kt (tyX10 0) = 8 := by decide +kernel
theorem kt_9_1 : mm_kt (tyX10 1) = 1 := by decide +kernel
theorem kt_9_2 : mm_kt (tyX10 2) = 7 := by decide +kernel
theorem kt_9_3 : mm_kt (tyX10 3) = 5 := by decide +kernel
theorem kt_9_4 : mm_kt (tyX10 4) = 5 := by decide +kernel
theorem kt_9_5 : mm_kt (tyX10 5) = 5 := by decide +kernel
theorem kt_9_6 : mm_kt (tyX10 6) = 5 := by decide +kernel
theorem kt_9_7 : mm_kt (tyX10 7) = 5 := by decide +kernel
theorem kt_9_8 : mm_kt (tyX10 8) = 5 := by decide +kernel
theorem kt_9_9 : mm_kt (tyX10 9) = 5 := by decide +kernel
theorem kt_9_10 : mm_kt (tyX10 10) = 5 := by decide +kernel
theorem kt_10_0 : mm_kt (tyX11 0) = 5 := by decide +kernel
theorem kt_10_1 : mm_kt (tyX11 1) = 25 := by decide +kernel
theorem kt_10_2 : mm_kt (tyX11 2) = 9 := by decide +kernel
theorem kt_11_0 : mm_kt (tyX12 0) = 21 := by decide +kernel
theorem kt_11_3 : mm_kt (tyX12 3) = 22 := by decide +kernel
theorem kt_11_4 : mm_kt (tyX12 4) = 20 := by decide +kernel
theorem kt_11_5 : mm_kt (tyX12 5) = 21 := by decide +kernel
theorem kt_11_6 : mm_kt (tyX12 6) = 20 := by decide +kernel
theorem kt_11_7 : mm_kt (tyX12 7) = 21 := by decide +kernel
theorem kt_11_8 : mm_kt (tyX12 8) = 20 := by decide +kernel
theorem kt_11_9 : mm_kt (tyX12 9) = 21 := by decide +kernel
theorem kt_11_10 : mm_kt (tyX12 10) = 22 := by decide +kernel
theorem kt_11_11 : mm_kt (tyX12 11) = 20 := by decide +kernel
theorem kt_11_12 : mm_kt (tyX12 12) = 20 := by decide +kernel
theorem kt_11_13 : mm_kt (tyX12 13) = 22 := by decide +kernel
theorem kt_11_14 : mm_kt (tyX12 14) = 22 := by decide +kernel
theorem kt_11_15 : mm_kt (tyX12 15) = 21 := by decide +kernel
theorem kt_11_16 : mm_kt (tyX12 16) = 20 := by decide +kernel
theorem kt_11_17 : mm_kt (tyX12 17) = 20 := by decide +kernel
theorem kt_11_18 : mm_kt (tyX12 18) = 21 := by decide +kernel
theorem kt_11_19 : mm_kt (tyX12 19) = 20 := by decide +kernel
theorem kt_11_20 : mm_kt (tyX12 20) = 21 := by decide +kernel
theorem kt_11_21 : mm_kt (tyX12 21) = 20 := by decide +kernel
theorem kt_11_22 : mm_kt (tyX12 22) = 21 := by decide +kernel
theorem kt_11_23 : mm_kt (tyX12 23) = 21 := by decide +kernel
theorem kt_11_24 : mm_kt (tyX12 24) = 21 := by decide +kernel
theorem kt_11_25 : mm_kt (tyX12 25) = 21 := by decide +kernel
theorem kt_11_26 : mm_kt (tyX12 26) = 22 := by decide +kernel
theorem kt_11_27 : mm_kt (tyX12 27) = 22 := by decide +kernel
theorem kt_11_28 : mm_kt (tyX12 28) = 20 := by decide +kernel
theorem kt_11_29 : mm_kt (tyX12 29) = 20 := by decide +kernel
theorem kt_11_30 : mm_kt (tyX12 30) = 20 := by decide +kernel
theorem kt_11_31 : mm_kt (tyX12 31) = 20 := by decide +kernel
theorem kt_11_32 : mm_kt (tyX12 32) = 20 := by decide +kernel
theorem kt_11_33 : mm_kt (tyX12 33) = 21 := by decide +kernel
theorem kt_11_34 : mm_kt (tyX12 34) = 21 := by decide +kernel
theorem kt_11_35 : mm_kt (tyX12 35) = 21 := by decide +kernel
theorem kt_11_36 : mm_kt (tyX12 36) = 21 := by decide +kernel
theorem kt_11_38 : mm_kt (tyX12 38) = 21 := by decide +kernel
theorem kt_11_39 : mm_kt (tyX12 39) = 21 := by decide +kernel
theorem kt_11_40 : mm_kt (tyX12 40) = 21 := by decide +kernel
theorem kt_11_41 : mm_kt (tyX12 41) = 21 := by decide +kernel
theorem kt_11_42 : mm_kt (tyX12 42) = 21 := by decide +kernel
theorem kt_11_43 : mm_kt (tyX12 43) = 21 := by decide +kernel
theorem kt_11_44 : mm_kt (tyX12 44) = 21 := by decide +kernel
theorem kt_11_45 : mm_kt (tyX12 45) = 21 := by decide +kernel
theorem kt_11_46 : mm_kt (tyX12 46) = 20 := by decide +kernel
theorem kt_11_47 : mm_kt (tyX12 47) = 20 := by decide +kernel
theorem kt_11_48 : mm_kt (tyX12 48) = 21 := by decide +kernel
theorem kt_11_49 : mm_kt (tyX12 49) = 21 := by decide +kernel
theorem kt_11_50 : mm_kt (tyX12 50) = 21 := by decide +kernel
theorem kt_11_51 : mm_kt (tyX12 51) = 23 := by decide +kernel
theorem kt_11_52 : mm_kt (tyX12 52) = 23 := by decide +kernel
theorem kt_11_53 : mm_kt (tyX12 53) = 23 := by decide +kernel
theorem kt_11_54 : mm_kt (tyX12 54) = 21 := by decide +kernel
theorem kt_11_55 : mm_kt (tyX12 55) = 21 := by decide +kernel
theorem kt_11_56 : mm_kt (tyX12 56) = 21 := by decide +kernel
theorem kt_11_57 : mm_kt (tyX12 57) = 21 := by decide +kernel
theorem kt_11_59 : mm_kt (tyX12 59) = 21 := by decide +kernel
theorem kt_11_60 : mm_kt (tyX12 60) = 21 := by decide +kernel
theorem kt_11_65 : mm_kt (tyX12 65) = 21 := by decide +kernel
theorem kr_5 : mm_kt (.object RX6) = 5 := by decide +kernel
theorem kr_0 : mm_kt (.object RX0) = 0 := by decide +kernel
theorem tf_0 : ∀ k, k < 18 → tyX0 k ≠ .float ∧ tyX0 k ≠ .double := by decide +kernel
theorem tf_1 : ∀ k, k < 7 → tyX1 k ≠ .float ∧ tyX1 k ≠ .double := by decide +kernel
theorem tf_2 : ∀ k, k < 5 → tyX2 k ≠ .float ∧ tyX2 k ≠ .double := by decide +kernel
theorem tf_3 : ∀ k, k < 2 → tyX4 k ≠ .float ∧ tyX4 k ≠ .double := by decide +kernel
theorem tf_4 : ∀ k, k < 3 → tyX5 k ≠ .float ∧ tyX5 k ≠ .double := by decide +kernel
theorem tf_5 : ∀ k, k < 2 → tyX6 k ≠ .float ∧ tyX6 k ≠ .double := by decide +kernel
theorem tf_6 : ∀ k, k < 6 → tyX7 k ≠ .float ∧ tyX7 k ≠ .double := by decide +kernel
theorem tf_7 : ∀ k, k < 6 → tyX8 k ≠ .float ∧ tyX8 k ≠ .double := by decide +kernel
theorem tf_8 : ∀ k, k < 2 → tyX9 k ≠ .float ∧ tyX9 k ≠ .double := by decide +kernel
theorem tf_9 : ∀ k, k < 11 → tyX10 k ≠ .float ∧ tyX10 k ≠ .double := by decide +kernel
theorem tf_10 : ∀ k, k < 4 → tyX11 k ≠ .float ∧ tyX11 k ≠ .double := by decide +kernel
theorem tf_11 : ∀ k, k < 66 → tyX12 k ≠ .float ∧ tyX12 k ≠ .double := by decide +kernel
theorem pn_RJ0 : plainName RJ0 = true := by decide +kernel
theorem pn_RJ1 : plainName RJ1 = true := by decide +kernel
theorem pn_RL : plainName RL = true := by decide +kernel
theorem pn_RX0 : plainName RX0 = true := by decide +kernel
theorem pn_RX1 : plainName RX1 = true := by decide +kernel
theorem pn_RX10 : plainName RX10 = true := by decide +kernel
theorem pn_RX11 : plainName RX11 = true := by decide +kernel
theorem pn_RX12 : plainName RX12 = true := by decide +kernel
theorem pn_RX2 : plainName RX2 = true := by decide +kernel
theorem pn_RX3 : plainName RX3 = true := by decide +kernel
theorem pn_RX4 : plainName RX4 = true := by decide +kernel
theorem pn_RX5 : plainName RX5 = true := by decide +kernel
theorem pn_RX6 : plainName RX6 = true := by decide +kernel
theorem pn_RX7 : plainName RX7 = true := by decide +kernel
theorem pn_RX8 : plainName RX8 = true := by decide +kernel
theorem pn_RX9 : plainName RX9 = true := by decide +kernel
def my_X0_init : mm_Y := (yX0_init, cX0_init, 2, none, 3, 82)
def my_X0_learn : mm_Y := (yX0_learn, cX0_learn, 3, (some .boolean), 4, 107)
def my_X0_keep : mm_Y := (yX0_keep, cX0_keep, 3, (some .boolean), 3, 85)
def my_X0_begin : mm_Y := (yX0_begin, cX0_begin, 2, (some .boolean), 8, 235)
def my_X0_speak : mm_Y := (yX0_speak, cX0_speak, 2, (some .boolean), 6, 159)
def my_X0_renew : mm_Y := (yX0_renew, cX0_renew, 2, (some .boolean), 8, 236)
def my_X0_shut : mm_Y := (yX0_shut, cX0_shut, 1, (some .boolean), 6, 159)
def my_X0_report : mm_Y := (yX0_report, cX0_report, 2, (some .int), 1, 40)
def my_X0_read : mm_Y := (yX0_read, cX0_read, 3, none, 9, 257)
def my_X0_lookAtFrame : mm_Y := (yX0_lookAtFrame, cX0_lookAtFrame, 2, (some .int), 2, 61)
def my_X0_unwrap : mm_Y := (yX0_unwrap, cX0_unwrap, 2, (some .int), 5, 137)
def my_X0_isHarmlessChange : mm_Y := (yX0_isHarmlessChange, cX0_isHarmlessChange, 3, (some .boolean), 2, 61)
def my_X0_takeInnerType : mm_Y := (yX0_takeInnerType, cX0_takeInnerType, 3, (some .int), 2, 61)
def my_X0_lookAtContent : mm_Y := (yX0_lookAtContent, cX0_lookAtContent, 1, (some .int), 6, 151)
def my_X0_lookAtMessage : mm_Y := (yX0_lookAtMessage, cX0_lookAtMessage, 2, (some .int), 5, 130)
def my_X0_waitedFor : mm_Y := (yX0_waitedFor, cX0_waitedFor, 1, (some .int), 1, 40)
def my_X0_lookAtClientHello : mm_Y := (yX0_lookAtClientHello, cX0_lookAtClientHello, 2, (some .int), 4, 109)
def my_X0_lookAtUpdate : mm_Y := (yX0_lookAtUpdate, cX0_lookAtUpdate, 1, (some .int), 2, 61)
def my_X0_isProven : mm_Y := (yX0_isProven, cX0_isProven, 2, (some .boolean), 8, 235)
def my_X0_fail : mm_Y := (yX0_fail, cX0_fail, 2, none, 6, 159)
def my_X0_heed : mm_Y := (yX0_heed, cX0_heed, 3, none, 2, 61)
def my_X0_answerHello : mm_Y := (yX0_answerHello, cX0_answerHello, 2, none, 8, 236)
def my_X0_takeServerHello : mm_Y := (yX0_takeServerHello, cX0_takeServerHello, 1, none, 8, 236)
def my_X0_takeFinished : mm_Y := (yX0_takeFinished, cX0_takeFinished, 1, none, 8, 236)
def my_X0_isAsked : mm_Y := (yX0_isAsked, cX0_isAsked, 1, (some .boolean), 2, 61)
def my_X0_send : mm_Y := (yX0_send, cX0_send, 5, (some .boolean), 5, 135)
def my_X1_init : mm_Y := (yX1_init, cX1_init, 2, none, 2, 61)
def my_X1_mac : mm_Y := (yX1_mac, cX1_mac, 4, none, 3, 97)
def my_X1_putKey : mm_Y := (yX1_putKey, cX1_putKey, 4, none, 2, 61)
def my_X1_expand : mm_Y := (yX1_expand, cX1_expand, 6, none, 6, 187)
def my_X2_init : mm_Y := (yX2_init, cX2_init, 1, none, 2, 61)
def my_X2_load : mm_Y := (yX2_load, cX2_load, 5, none, 7, 212)
def my_X3_putHead : mm_Y := (yX3_putHead, cX3_putHead, 3, none, 2, 63)
def my_X3_putClientHello : mm_Y := (yX3_putClientHello, cX3_putClientHello, 4, none, 3, 85)
def my_X3_putServerHello : mm_Y := (yX3_putServerHello, cX3_putServerHello, 2, none, 3, 85)
def my_X3_putExtensions : mm_Y := (yX3_putExtensions, cX3_putExtensions, 1, none, 3, 85)
def my_X3_putFinished : mm_Y := (yX3_putFinished, cX3_putFinished, 2, none, 3, 85)
def my_X3_putUpdate : mm_Y := (yX3_putUpdate, cX3_putUpdate, 2, none, 3, 85)
def my_X3_putAlert : mm_Y := (yX3_putAlert, cX3_putAlert, 3, none, 2, 61)
def my_X3_findName : mm_Y := (yX3_findName, cX3_findName, 3, (some .boolean), 3, 87)
def my_X3_findRandom : mm_Y := (yX3_findRandom, cX3_findRandom, 2, none, 3, 87)
def my_X3_isWhole : mm_Y := (yX3_isWhole, cX3_isWhole, 1, (some .boolean), 2, 61)
def my_X4_init : mm_Y := (yX4_init, cX4_init, 2, none, 2, 61)
def my_X4_isFull : mm_Y := (yX4_isFull, cX4_isFull, 1, (some .boolean), 1, 40)
def my_X4_first : mm_Y := (yX4_first, cX4_first, 1, (some (.object "SecretEnds$Row")), 1, 40)
def my_X4_byteOf : mm_Y := (yX4_byteOf, cX4_byteOf, 3, (some .int), 2, 61)
def my_X4_add : mm_Y := (yX4_add, cX4_add, 2, (some (.object "SecretEnds$Row")), 2, 60)
def my_X4_drop : mm_Y := (yX4_drop, cX4_drop, 3, (some .boolean), 1, 40)
def my_X4_twice : mm_Y := (yX4_twice, cX4_twice, 3, (some .boolean), 3, 85)
def my_X4_swap : mm_Y := (yX4_swap, cX4_swap, 2, (some .boolean), 1, 40)
def my_X5_init : mm_Y := (yX5_init, cX5_init, 1, none, 1, 40)
def my_X5_tag : mm_Y := (yX5_tag, cX5_tag, 5, none, 3, 89)
def my_X5_addBytes : mm_Y := (yX5_addBytes, cX5_addBytes, 7, none, 1, 40)
def my_X5_multiply : mm_Y := (yX5_multiply, cX5_multiply, 5, none, 1, 40)
def my_X5_settle : mm_Y := (yX5_settle, cX5_settle, 6, none, 1, 40)
def my_X5_reduce : mm_Y := (yX5_reduce, cX5_reduce, 6, none, 1, 40)
def my_X5_putSum : mm_Y := (yX5_putSum, cX5_putSum, 9, none, 2, 61)
def my_X6_init : mm_Y := (yX6_init, cX6_init, 2, none, 1, 40)
def my_X6_clear : mm_Y := (yX6_clear, cX6_clear, 1, none, 1, 40)
def my_X6_cut : mm_Y := (yX6_cut, cX6_cut, 2, none, 1, 40)
def my_X6_at : mm_Y := (yX6_at, cX6_at, 2, (some .int), 1, 40)
def my_X6_twoAt : mm_Y := (yX6_twoAt, cX6_twoAt, 2, (some .int), 1, 40)
def my_X6_fourLowFirst : mm_Y := (yX6_fourLowFirst, cX6_fourLowFirst, 2, (some .int), 1, 40)
def my_X6_flip : mm_Y := (yX6_flip, cX6_flip, 3, (some .boolean), 1, 40)
def my_X6_put : mm_Y := (yX6_put, cX6_put, 2, none, 1, 40)
def my_X6_putNumber : mm_Y := (yX6_putNumber, cX6_putNumber, 4, none, 1, 40)
def my_X6_putLowFirst : mm_Y := (yX6_putLowFirst, cX6_putLowFirst, 4, none, 1, 40)
def my_X6_fillUp : mm_Y := (yX6_fillUp, cX6_fillUp, 2, none, 1, 40)
def my_X6_putAll : mm_Y := (yX6_putAll, cX6_putAll, 3, none, 2, 61)
def my_X6_putText : mm_Y := (yX6_putText, cX6_putText, 3, none, 5, 165)
def my_X6_append : mm_Y := (yX6_append, cX6_append, 2, none, 2, 64)
def my_X6_appendPart : mm_Y := (yX6_appendPart, cX6_appendPart, 5, none, 1, 40)
def my_X6_copy : mm_Y := (yX6_copy, cX6_copy, 2, none, 2, 64)
def my_X6_copyPart : mm_Y := (yX6_copyPart, cX6_copyPart, 4, none, 2, 64)
def my_X6_same : mm_Y := (yX6_same, cX6_same, 2, (some .boolean), 2, 63)
def my_X6_hasAt : mm_Y := (yX6_hasAt, cX6_hasAt, 4, (some .boolean), 1, 40)
def my_X7_init : mm_Y := (yX7_init, cX7_init, 2, none, 2, 61)
def my_X7_prepare : mm_Y := (yX7_prepare, cX7_prepare, 3, none, 7, 212)
def my_X7_prove : mm_Y := (yX7_prove, cX7_prove, 4, none, 7, 212)
def my_X8_init : mm_Y := (yX8_init, cX8_init, 1, none, 2, 61)
def my_X8_seal : mm_Y := (yX8_seal, cX8_seal, 3, none, 4, 113)
def my_X8_open : mm_Y := (yX8_open, cX8_open, 5, (some .boolean), 4, 113)
def my_X8_aim : mm_Y := (yX8_aim, cX8_aim, 3, none, 2, 71)
def my_X8_turned : mm_Y := (yX8_turned, cX8_turned, 1, (some .int), 1, 40)
def my_X8_mix : mm_Y := (yX8_mix, cX8_mix, 6, none, 2, 71)
def my_X8_turnBlock : mm_Y := (yX8_turnBlock, cX8_turnBlock, 12, none, 1, 40)
def my_X8_gather : mm_Y := (yX8_gather, cX8_gather, 3, none, 2, 64)
def my_X9_init : mm_Y := (yX9_init, cX9_init, 1, none, 1, 40)
def my_X9_digest : mm_Y := (yX9_digest, cX9_digest, 5, none, 2, 73)
def my_X9_load : mm_Y := (yX9_load, cX9_load, 9, none, 1, 40)
def my_X9_compress : mm_Y := (yX9_compress, cX9_compress, 14, none, 1, 40)
def my_X10_init : mm_Y := (yX10_init, cX10_init, 1, none, 3, 82)
def my_X11_init : mm_Y := (yX11_init, cX11_init, 2, none, 4, 103)
def my_X11_feed : mm_Y := (yX11_feed, cX11_feed, 6, (some .int), 2, 63)
def my_X11_end : mm_Y := (yX11_end, cX11_end, 2, (some .int), 2, 61)
def my_X11_make : mm_Y := (yX11_make, cX11_make, 2, (some .int), 1, 40)
def my_X11_tell : mm_Y := (yX11_tell, cX11_tell, 4, (some .boolean), 5, 129)
def my_X11_start : mm_Y := (yX11_start, cX11_start, 3, (some .boolean), 9, 256)
def my_X11_say : mm_Y := (yX11_say, cX11_say, 3, (some .int), 7, 180)
def my_X11_update : mm_Y := (yX11_update, cX11_update, 4, (some .int), 9, 257)
def my_X11_close : mm_Y := (yX11_close, cX11_close, 3, (some .boolean), 7, 179)
def my_X11_carry : mm_Y := (yX11_carry, cX11_carry, 5, (some .int), 10, 279)
def my_X11_give : mm_Y := (yX11_give, cX11_give, 3, (some .int), 10, 279)
def my_X11_meddle : mm_Y := (yX11_meddle, cX11_meddle, 4, (some .boolean), 4, 107)
def my_X11_alter : mm_Y := (yX11_alter, cX11_alter, 5, (some .boolean), 2, 62)
def my_X11_written : mm_Y := (yX11_written, cX11_written, 5, (some .int), 3, 83)
def my_X11_given : mm_Y := (yX11_given, cX11_given, 4, (some .int), 2, 61)
def my_X11_secret : mm_Y := (yX11_secret, cX11_secret, 6, (some .int), 2, 61)
def my_X11_state : mm_Y := (yX11_state, cX11_state, 4, (some .int), 2, 61)
def my_X11_hash : mm_Y := (yX11_hash, cX11_hash, 2, (some .int), 3, 97)
def my_X11_about : mm_Y := (yX11_about, cX11_about, 2, (some .int), 1, 40)
def my_X11_find : mm_Y := (yX11_find, cX11_find, 2, (some (.object "SecretEnds$End")), 1, 40)
def my_X12_init : mm_Y := (yX12_init, cX12_init, 2, none, 2, 69)
def my_X12_isIn : mm_Y := (yX12_isIn, cX12_isIn, 3, (some .boolean), 1, 40)
def my_X12_isEnd : mm_Y := (yX12_isEnd, cX12_isEnd, 2, (some .boolean), 2, 62)
def my_X12_move : mm_Y := (yX12_move, cX12_move, 6, none, 1, 40)
def my_X12_put8 : mm_Y := (yX12_put8, cX12_put8, 10, none, 1, 40)
def my_X12_turn : mm_Y := (yX12_turn, cX12_turn, 2, (some .int), 1, 40)
def my_X12_mixBlock : mm_Y := (yX12_mixBlock, cX12_mixBlock, 12, none, 2, 61)
def my_X12_sum : mm_Y := (yX12_sum, cX12_sum, 11, none, 3, 92)
def my_X12_sign : mm_Y := (yX12_sign, cX12_sign, 11, none, 4, 122)
def my_X12_text : mm_Y := (yX12_text, cX12_text, 5, none, 1, 40)
def my_X12_label : mm_Y := (yX12_label, cX12_label, 2, none, 2, 64)
def my_X12_expand : mm_Y := (yX12_expand, cX12_expand, 9, none, 5, 152)
def my_X12_beginSchedule : mm_Y := (yX12_beginSchedule, cX12_beginSchedule, 2, none, 6, 180)
def my_X12_hear : mm_Y := (yX12_hear, cX12_hear, 2, none, 4, 122)
def my_X12_append : mm_Y := (yX12_append, cX12_append, 5, none, 2, 65)
def my_X12_prove : mm_Y := (yX12_prove, cX12_prove, 5, none, 6, 180)
def my_X12_word : mm_Y := (yX12_word, cX12_word, 2, (some .int), 1, 40)
def my_X12_quarter : mm_Y := (yX12_quarter, cX12_quarter, 5, none, 2, 61)
def my_X12_streamOf : mm_Y := (yX12_streamOf, cX12_streamOf, 3, none, 3, 85)
def my_X12_cover : mm_Y := (yX12_cover, cX12_cover, 5, none, 4, 107)
def my_X12_part : mm_Y := (yX12_part, cX12_part, 6, (some .long), 1, 40)
def my_X12_takeSixteen : mm_Y := (yX12_takeSixteen, cX12_takeSixteen, 6, none, 2, 65)
def my_X12_take : mm_Y := (yX12_take, cX12_take, 6, none, 3, 90)
def my_X12_sealOf : mm_Y := (yX12_sealOf, cX12_sealOf, 8, none, 4, 115)
def my_X12_settle : mm_Y := (yX12_settle, cX12_settle, 5, none, 1, 40)
def my_X12_byteOf : mm_Y := (yX12_byteOf, cX12_byteOf, 5, (some .int), 1, 40)
def my_X12_keysOf : mm_Y := (yX12_keysOf, cX12_keysOf, 5, none, 6, 180)
def my_X12_sayByte : mm_Y := (yX12_sayByte, cX12_sayByte, 2, none, 1, 40)
def my_X12_sayTwo : mm_Y := (yX12_sayTwo, cX12_sayTwo, 2, none, 2, 61)
def my_X12_isFull : mm_Y := (yX12_isFull, cX12_isFull, 2, (some .boolean), 1, 40)
def my_X12_writeRecord : mm_Y := (yX12_writeRecord, cX12_writeRecord, 5, none, 7, 204)
def my_X12_beginMessage : mm_Y := (yX12_beginMessage, cX12_beginMessage, 2, none, 3, 82)
def my_X12_endMessage : mm_Y := (yX12_endMessage, cX12_endMessage, 3, none, 8, 228)
def my_X12_sayRow : mm_Y := (yX12_sayRow, cX12_sayRow, 5, none, 2, 61)
def my_X12_bind : mm_Y := (yX12_bind, cX12_bind, 5, none, 7, 201)
def my_X12_sayHello : mm_Y := (yX12_sayHello, cX12_sayHello, 3, none, 9, 250)
def my_X12_sayFinished : mm_Y := (yX12_sayFinished, cX12_sayFinished, 2, none, 9, 250)
def my_X12_sayAlert : mm_Y := (yX12_sayAlert, cX12_sayAlert, 4, none, 8, 228)
def my_X12_sayUpdate : mm_Y := (yX12_sayUpdate, cX12_sayUpdate, 3, none, 9, 250)
def my_X12_follow : mm_Y := (yX12_follow, cX12_follow, 3, none, 6, 180)
def my_X12_handSecrets : mm_Y := (yX12_handSecrets, cX12_handSecrets, 2, none, 7, 201)
def my_X12_fail : mm_Y := (yX12_fail, cX12_fail, 3, none, 9, 251)
def my_X12_isOpened : mm_Y := (yX12_isOpened, cX12_isOpened, 4, (some .boolean), 7, 204)
def my_X12_readRecord : mm_Y := (yX12_readRecord, cX12_readRecord, 4, none, 13, 340)
def my_X12_outerFault : mm_Y := (yX12_outerFault, cX12_outerFault, 5, (some .int), 2, 62)
def my_X12_readAlert : mm_Y := (yX12_readAlert, cX12_readAlert, 3, none, 10, 273)
def my_X12_readData : mm_Y := (yX12_readData, cX12_readData, 3, none, 10, 273)
def my_X12_waited : mm_Y := (yX12_waited, cX12_waited, 1, (some .int), 1, 40)
def my_X12_readHandshake : mm_Y := (yX12_readHandshake, cX12_readHandshake, 5, none, 12, 316)
def my_X12_bodyFault : mm_Y := (yX12_bodyFault, cX12_bodyFault, 5, (some .int), 9, 252)
def my_X12_mustBe : mm_Y := (yX12_mustBe, cX12_mustBe, 2, none, 1, 40)
def my_X12_mustByte : mm_Y := (yX12_mustByte, cX12_mustByte, 2, none, 1, 40)
def my_X12_isAnswer : mm_Y := (yX12_isAnswer, cX12_isAnswer, 2, (some .boolean), 2, 61)
def my_X12_helloFault : mm_Y := (yX12_helloFault, cX12_helloFault, 8, (some .int), 8, 225)
def my_X12_goOn : mm_Y := (yX12_goOn, cX12_goOn, 3, none, 11, 294)
def my_X12_answer : mm_Y := (yX12_answer, cX12_answer, 2, none, 10, 271)
def my_X12_finish : mm_Y := (yX12_finish, cX12_finish, 2, none, 10, 271)
def my_X12_turnOver : mm_Y := (yX12_turnOver, cX12_turnOver, 3, none, 10, 272)
def my_X12_feed : mm_Y := (yX12_feed, cX12_feed, 6, (some .int), 2, 62)
def my_X12_four : mm_Y := (yX12_four, cX12_four, 3, none, 1, 40)
def my_X12_end : mm_Y := (yX12_end, cX12_end, 2, (some .int), 2, 62)
def my_X12_make : mm_Y := (yX12_make, cX12_make, 2, (some .int), 1, 40)
def my_X12_tell : mm_Y := (yX12_tell, cX12_tell, 3, (some .boolean), 3, 83)
def my_X12_start : mm_Y := (yX12_start, cX12_start, 2, (some .boolean), 10, 272)
def my_X12_canSay : mm_Y := (yX12_canSay, cX12_canSay, 2, (some .boolean), 3, 83)
def my_X12_say : mm_Y := (yX12_say, cX12_say, 2, (some .int), 8, 228)
def my_X12_update : mm_Y := (yX12_update, cX12_update, 3, (some .int), 10, 272)
def my_X12_close : mm_Y := (yX12_close, cX12_close, 2, (some .boolean), 9, 251)
def my_X12_leave : mm_Y := (yX12_leave, cX12_leave, 3, none, 3, 88)
def my_X12_copyRecord : mm_Y := (yX12_copyRecord, cX12_copyRecord, 4, none, 2, 65)
def my_X12_carry : mm_Y := (yX12_carry, cX12_carry, 4, (some .int), 14, 363)
def my_X12_give : mm_Y := (yX12_give, cX12_give, 3, (some .int), 14, 363)
def my_X12_meddle : mm_Y := (yX12_meddle, cX12_meddle, 4, (some .boolean), 4, 110)
def my_X12_alter : mm_Y := (yX12_alter, cX12_alter, 4, (some .boolean), 3, 83)
def my_X12_written : mm_Y := (yX12_written, cX12_written, 4, (some .int), 3, 83)
def my_X12_given : mm_Y := (yX12_given, cX12_given, 3, (some .int), 3, 83)
def my_X12_secret : mm_Y := (yX12_secret, cX12_secret, 4, (some .int), 3, 83)
def my_X12_state : mm_Y := (yX12_state, cX12_state, 3, (some .int), 3, 83)
def my_X12_hash : mm_Y := (yX12_hash, cX12_hash, 2, (some .int), 4, 122)
def my_X12_about : mm_Y := (yX12_about, cX12_about, 2, (some .int), 1, 40)
def my_J0_length_8abf5 : mm_Y := (yJ0_length_8abf5, cJ0_length_8abf5, 1, (some .int), 2, 60)
def my_J0_charAt_5068e : mm_Y := (yJ0_charAt_5068e, cJ0_charAt_5068e, 2, (some .char), 4, 144)
def my_J0_coder_7d493 : mm_Y := (yJ0_coder_7d493, cJ0_coder_7d493, 1, (some .byte), 1, 40)
def my_J0_isLatin1_aae02 : mm_Y := (yJ0_isLatin1_aae02, cJ0_isLatin1_aae02, 1, (some .boolean), 1, 40)
def my_J0_checkIndex_df160 : mm_Y := (yJ0_checkIndex_df160, cJ0_checkIndex_df160, 2, none, 2, 102)
def my_J1_charAt_3b067 : mm_Y := (yJ1_charAt_3b067, cJ1_charAt_3b067, 2, (some .char), 3, 123)
def my_L_law : mm_Y := (yL_law, cL_law, 4, (some .boolean), 15, 386)
theorem ds_X0_init : my_X0_init.1.cls ≠ "java/lang/invoke/MethodHandle" ∧ my_X0_init.1.cls ≠ "java/lang/invoke/VarHandle" ∧ (parseMethodDescriptor my_X0_init.1.desc).map (fun d => d.parameters.length) = some 1 := by decide +kernel
theorem ds_X0_learn : my_X0_learn.1.cls ≠ "java/lang/invoke/MethodHandle" ∧ my_X0_learn.1.cls ≠ "java/lang/invoke/VarHandle" ∧ (parseMethodDescriptor my_X0_learn.1.desc).map (fun d => d.parameters.length) = some 2 := by decide +kernel
theorem ds_X0_keep : my_X0_keep.1.cls ≠ "java/lang/invoke/MethodHandle" ∧ my_X0_keep.1.cls ≠ "java/lang/invoke/VarHandle" ∧ (parseMethodDescriptor my_X0_keep.1.desc).map (fun d => d.parameters.length) = some 3 := by decide +kernel
theorem ds_X0_begin : my_X0_begin.1.cls ≠ "java/lang/invoke/MethodHandle" ∧ my_X0_begin.1.cls ≠ "java/lang/invoke/VarHandle" ∧ (parseMethodDescriptor my_X0_begin.1.desc).map (fun d => d.parameters.length) = some 0 := by decide +kernel
theorem ds_X0_speak : my_X0_speak.1.cls ≠ "java/lang/invoke/MethodHandle" ∧ my_X0_speak.1.cls ≠ "java/lang/invoke/VarHandle" ∧ (parseMethodDescriptor my_X0_speak.1.desc).map (fun d => d.parameters.length) = some 1 := by decide +kernel
theorem ds_X0_renew : my_X0_renew.1.cls ≠ "java/lang/invoke/MethodHandle" ∧ my_X0_renew.1.cls ≠ "java/lang/invoke/VarHandle" ∧ (parseMethodDescriptor my_X0_renew.1.desc).map (fun d => d.parameters.length) = some 1 := by decide +kernel
theorem ds_X0_shut : my_X0_shut.1.cls ≠ "java/lang/invoke/MethodHandle" ∧ my_X0_shut.1.cls ≠ "java/lang/invoke/VarHandle" ∧ (parseMethodDescriptor my_X0_shut.1.desc).map (fun d => d.parameters.length) = some 0 := by decide +kernel
theorem ds_X0_report : my_X0_report.1.cls ≠ "java/lang/invoke/MethodHandle" ∧ my_X0_report.1.cls ≠ "java/lang/invoke/VarHandle" ∧ (parseMethodDescriptor my_X0_report.1.desc).map (fun d => d.parameters.length) = some 1 := by decide +kernel
theorem ds_X0_read : my_X0_read.1.cls ≠ "java/lang/invoke/MethodHandle" ∧ my_X0_read.1.cls ≠ "java/lang/invoke/VarHandle" ∧ (parseMethodDescriptor my_X0_read.1.desc).map (fun d => d.parameters.length) = some 1 := by decide +kernel
theorem ds_X0_lookAtFrame : my_X0_lookAtFrame.1.cls ≠ "java/lang/invoke/MethodHandle" ∧ my_X0_lookAtFrame.1.cls ≠ "java/lang/invoke/VarHandle" ∧ (parseMethodDescriptor my_X0_lookAtFrame.1.desc).map (fun d => d.parameters.length) = some 1 := by decide +kernel
theorem ds_X0_unwrap : my_X0_unwrap.1.cls ≠ "java/lang/invoke/MethodHandle" ∧ my_X0_unwrap.1.cls ≠ "java/lang/invoke/VarHandle" ∧ (parseMethodDescriptor my_X0_unwrap.1.desc).map (fun d => d.parameters.length) = some 1 := by decide +kernel
theorem ds_X0_isHarmlessChange : my_X0_isHarmlessChange.1.cls ≠ "java/lang/invoke/MethodHandle" ∧ my_X0_isHarmlessChange.1.cls ≠ "java/lang/invoke/VarHandle" ∧ (parseMethodDescriptor my_X0_isHarmlessChange.1.desc).map (fun d => d.parameters.length) = some 1 := by decide +kernel
theorem ds_X0_takeInnerType : my_X0_takeInnerType.1.cls ≠ "java/lang/invoke/MethodHandle" ∧ my_X0_takeInnerType.1.cls ≠ "java/lang/invoke/VarHandle" ∧ (parseMethodDescriptor my_X0_takeInnerType.1.desc).map (fun d => d.parameters.length) = some 1 := by decide +kernel
theorem ds_X0_lookAtContent : my_X0_lookAtContent.1.cls ≠ "java/lang/invoke/MethodHandle" ∧ my_X0_lookAtContent.1.cls ≠ "java/lang/invoke/VarHandle" ∧ (parseMethodDescriptor my_X0_lookAtContent.1.desc).map (fun d => d.parameters.length) = some 0 := by decide +kernel
theorem ds_X0_lookAtMessage : my_X0_lookAtMessage.1.cls ≠ "java/lang/invoke/MethodHandle" ∧ my_X0_lookAtMessage.1.cls ≠ "java/lang/invoke/VarHandle" ∧ (parseMethodDescriptor my_X0_lookAtMessage.1.desc).map (fun d => d.parameters.length) = some 1 := by decide +kernel
theorem ds_X0_waitedFor : my_X0_waitedFor.1.cls ≠ "java/lang/invoke/MethodHandle" ∧ my_X0_waitedFor.1.cls ≠ "java/lang/invoke/VarHandle" ∧ (parseMethodDescriptor my_X0_waitedFor.1.desc).map (fun d => d.parameters.length) = some 0 := by decide +kernel
theorem ds_X0_lookAtClientHello : my_X0_lookAtClientHello.1.cls ≠ "java/lang/invoke/MethodHandle" ∧ my_X0_lookAtClientHello.1.cls ≠ "java/lang/invoke/VarHandle" ∧ (parseMethodDescriptor my_X0_lookAtClientHello.1.desc).map (fun d => d.parameters.length) = some 1 := by decide +kernel
theorem ds_X0_lookAtUpdate : my_X0_lookAtUpdate.1.cls ≠ "java/lang/invoke/MethodHandle" ∧ my_X0_lookAtUpdate.1.cls ≠ "java/lang/invoke/VarHandle" ∧ (parseMethodDescriptor my_X0_lookAtUpdate.1.desc).map (fun d => d.parameters.length) = some 1 := by decide +kernel
theorem ds_X0_isProven : my_X0_isProven.1.cls ≠ "java/lang/invoke/MethodHandle" ∧ my_X0_isProven.1.cls ≠ "java/lang/invoke/VarHandle" ∧ (parseMethodDescriptor my_X0_isProven.1.desc).map (fun d => d.parameters.length) = some 0 := by decide +kernel
theorem ds_X0_fail : my_X0_fail.1.cls ≠ "java/lang/invoke/MethodHandle" ∧ my_X0_fail.1.cls ≠ "java/lang/invoke/VarHandle" ∧ (parseMethodDescriptor my_X0_fail.1.desc).map (fun d => d.parameters.length) = some 1 := by decide +kernel
theorem ds_X0_heed : my_X0_heed.1.cls ≠ "java/lang/invoke/MethodHandle" ∧ my_X0_heed.1.cls ≠ "java/lang/invoke/VarHandle" ∧ (parseMethodDescriptor my_X0_heed.1.desc).map (fun d => d.parameters.length) = some 0 := by decide +kernel
theorem ds_X0_answerHello : my_X0_answerHello.1.cls ≠ "java/lang/invoke/MethodHandle" ∧ my_X0_answerHello.1.cls ≠ "java/lang/invoke/VarHandle" ∧ (parseMethodDescriptor my_X0_answerHello.1.desc).map (fun d => d.parameters.length) = some 0 := by decide +kernel
theorem ds_X0_takeServerHello : my_X0_takeServerHello.1.cls ≠ "java/lang/invoke/MethodHandle" ∧ my_X0_takeServerHello.1.cls ≠ "java/lang/invoke/VarHandle" ∧ (parseMethodDescriptor my_X0_takeServerHello.1.desc).map (fun d => d.parameters.length) = some 0 := by decide +kernel
theorem ds_X0_takeFinished : my_X0_takeFinished.1.cls ≠ "java/lang/invoke/MethodHandle" ∧ my_X0_takeFinished.1.cls ≠ "java/lang/invoke/VarHandle" ∧ (parseMethodDescriptor my_X0_takeFinished.1.desc).map (fun d => d.parameters.length) = some 0 := by decide +kernel
theorem ds_X0_isAsked : my_X0_isAsked.1.cls ≠ "java/lang/invoke/MethodHandle" ∧ my_X0_isAsked.1.cls ≠ "java/lang/invoke/VarHandle" ∧ (parseMethodDescriptor my_X0_isAsked.1.desc).map (fun d => d.parameters.length) = some 0 := by decide +kernel
theorem ds_X0_send : my_X0_send.1.cls ≠ "java/lang/invoke/MethodHandle" ∧ my_X0_send.1.cls ≠ "java/lang/invoke/VarHandle" ∧ (parseMethodDescriptor my_X0_send.1.desc).map (fun d => d.parameters.length) = some 2 := by decide +kernel
theorem ds_X1_init : my_X1_init.1.cls ≠ "java/lang/invoke/MethodHandle" ∧ my_X1_init.1.cls ≠ "java/lang/invoke/VarHandle" ∧ (parseMethodDescriptor my_X1_init.1.desc).map (fun d => d.parameters.length) = some 1 := by decide +kernel
theorem ds_X1_mac : my_X1_mac.1.cls ≠ "java/lang/invoke/MethodHandle" ∧ my_X1_mac.1.cls ≠ "java/lang/invoke/VarHandle" ∧ (parseMethodDescriptor my_X1_mac.1.desc).map (fun d => d.parameters.length) = some 3 := by decide +kernel
theorem ds_X1_putKey : my_X1_putKey.1.cls ≠ "java/lang/invoke/MethodHandle" ∧ my_X1_putKey.1.cls ≠ "java/lang/invoke/VarHandle" ∧ (parseMethodDescriptor my_X1_putKey.1.desc).map (fun d => d.parameters.length) = some 2 := by decide +kernel
theorem ds_X1_expand : my_X1_expand.1.cls ≠ "java/lang/invoke/MethodHandle" ∧ my_X1_expand.1.cls ≠ "java/lang/invoke/VarHandle" ∧ (parseMethodDescriptor my_X1_expand.1.desc).map (fun d => d.parameters.length) = some 5 := by decide +kernel
theorem ds_X2_init : my_X2_init.1.cls ≠ "java/lang/invoke/MethodHandle" ∧ my_X2_init.1.cls ≠ "java/lang/invoke/VarHandle" ∧ (parseMethodDescriptor my_X2_init.1.desc).map (fun d => d.parameters.length) = some 0 := by decide +kernel
theorem ds_X2_load : my_X2_load.1.cls ≠ "java/lang/invoke/MethodHandle" ∧ my_X2_load.1.cls ≠ "java/lang/invoke/VarHandle" ∧ (parseMethodDescriptor my_X2_load.1.desc).map (fun d => d.parameters.length) = some 4 := by decide +kernel
theorem ds_X3_putHead : my_X3_putHead.1.cls ≠ "java/lang/invoke/MethodHandle" ∧ my_X3_putHead.1.cls ≠ "java/lang/invoke/VarHandle" ∧ (parseMethodDescriptor my_X3_putHead.1.desc).map (fun d => d.parameters.length) = some 3 := by decide +kernel
theorem ds_X3_putClientHello : my_X3_putClientHello.1.cls ≠ "java/lang/invoke/MethodHandle" ∧ my_X3_putClientHello.1.cls ≠ "java/lang/invoke/VarHandle" ∧ (parseMethodDescriptor my_X3_putClientHello.1.desc).map (fun d => d.parameters.length) = some 3 := by decide +kernel
theorem ds_X3_putServerHello : my_X3_putServerHello.1.cls ≠ "java/lang/invoke/MethodHandle" ∧ my_X3_putServerHello.1.cls ≠ "java/lang/invoke/VarHandle" ∧ (parseMethodDescriptor my_X3_putServerHello.1.desc).map (fun d => d.parameters.length) = some 2 := by decide +kernel
theorem ds_X3_putExtensions : my_X3_putExtensions.1.cls ≠ "java/lang/invoke/MethodHandle" ∧ my_X3_putExtensions.1.cls ≠ "java/lang/invoke/VarHandle" ∧ (parseMethodDescriptor my_X3_putExtensions.1.desc).map (fun d => d.parameters.length) = some 1 := by decide +kernel
theorem ds_X3_putFinished : my_X3_putFinished.1.cls ≠ "java/lang/invoke/MethodHandle" ∧ my_X3_putFinished.1.cls ≠ "java/lang/invoke/VarHandle" ∧ (parseMethodDescriptor my_X3_putFinished.1.desc).map (fun d => d.parameters.length) = some 2 := by decide +kernel
theorem ds_X3_putUpdate : my_X3_putUpdate.1.cls ≠ "java/lang/invoke/MethodHandle" ∧ my_X3_putUpdate.1.cls ≠ "java/lang/invoke/VarHandle" ∧ (parseMethodDescriptor my_X3_putUpdate.1.desc).map (fun d => d.parameters.length) = some 2 := by decide +kernel
theorem ds_X3_putAlert : my_X3_putAlert.1.cls ≠ "java/lang/invoke/MethodHandle" ∧ my_X3_putAlert.1.cls ≠ "java/lang/invoke/VarHandle" ∧ (parseMethodDescriptor my_X3_putAlert.1.desc).map (fun d => d.parameters.length) = some 3 := by decide +kernel
theorem ds_X3_findName : my_X3_findName.1.cls ≠ "java/lang/invoke/MethodHandle" ∧ my_X3_findName.1.cls ≠ "java/lang/invoke/VarHandle" ∧ (parseMethodDescriptor my_X3_findName.1.desc).map (fun d => d.parameters.length) = some 2 := by decide +kernel
theorem ds_X3_findRandom : my_X3_findRandom.1.cls ≠ "java/lang/invoke/MethodHandle" ∧ my_X3_findRandom.1.cls ≠ "java/lang/invoke/VarHandle" ∧ (parseMethodDescriptor my_X3_findRandom.1.desc).map (fun d => d.parameters.length) = some 2 := by decide +kernel
theorem ds_X3_isWhole : my_X3_isWhole.1.cls ≠ "java/lang/invoke/MethodHandle" ∧ my_X3_isWhole.1.cls ≠ "java/lang/invoke/VarHandle" ∧ (parseMethodDescriptor my_X3_isWhole.1.desc).map (fun d => d.parameters.length) = some 1 := by decide +kernel
theorem ds_X4_init : my_X4_init.1.cls ≠ "java/lang/invoke/MethodHandle" ∧ my_X4_init.1.cls ≠ "java/lang/invoke/VarHandle" ∧ (parseMethodDescriptor my_X4_init.1.desc).map (fun d => d.parameters.length) = some 0 := by decide +kernel
theorem ds_X4_isFull : my_X4_isFull.1.cls ≠ "java/lang/invoke/MethodHandle" ∧ my_X4_isFull.1.cls ≠ "java/lang/invoke/VarHandle" ∧ (parseMethodDescriptor my_X4_isFull.1.desc).map (fun d => d.parameters.length) = some 0 := by decide +kernel
theorem ds_X4_first : my_X4_first.1.cls ≠ "java/lang/invoke/MethodHandle" ∧ my_X4_first.1.cls ≠ "java/lang/invoke/VarHandle" ∧ (parseMethodDescriptor my_X4_first.1.desc).map (fun d => d.parameters.length) = some 0 := by decide +kernel
theorem ds_X4_byteOf : my_X4_byteOf.1.cls ≠ "java/lang/invoke/MethodHandle" ∧ my_X4_byteOf.1.cls ≠ "java/lang/invoke/VarHandle" ∧ (parseMethodDescriptor my_X4_byteOf.1.desc).map (fun d => d.parameters.length) = some 2 := by decide +kernel
theorem ds_X4_add : my_X4_add.1.cls ≠ "java/lang/invoke/MethodHandle" ∧ my_X4_add.1.cls ≠ "java/lang/invoke/VarHandle" ∧ (parseMethodDescriptor my_X4_add.1.desc).map (fun d => d.parameters.length) = some 0 := by decide +kernel
theorem ds_X4_drop : my_X4_drop.1.cls ≠ "java/lang/invoke/MethodHandle" ∧ my_X4_drop.1.cls ≠ "java/lang/invoke/VarHandle" ∧ (parseMethodDescriptor my_X4_drop.1.desc).map (fun d => d.parameters.length) = some 0 := by decide +kernel
theorem ds_X4_twice : my_X4_twice.1.cls ≠ "java/lang/invoke/MethodHandle" ∧ my_X4_twice.1.cls ≠ "java/lang/invoke/VarHandle" ∧ (parseMethodDescriptor my_X4_twice.1.desc).map (fun d => d.parameters.length) = some 0 := by decide +kernel
theorem ds_X4_swap : my_X4_swap.1.cls ≠ "java/lang/invoke/MethodHandle" ∧ my_X4_swap.1.cls ≠ "java/lang/invoke/VarHandle" ∧ (parseMethodDescriptor my_X4_swap.1.desc).map (fun d => d.parameters.length) = some 0 := by decide +kernel
theorem ds_X5_init : my_X5_init.1.cls ≠ "java/lang/invoke/MethodHandle" ∧ my_X5_init.1.cls ≠ "java/lang/invoke/VarHandle" ∧ (parseMethodDescriptor my_X5_init.1.desc).map (fun d => d.parameters.length) = some 0 := by decide +kernel
theorem ds_X5_tag : my_X5_tag.1.cls ≠ "java/lang/invoke/MethodHandle" ∧ my_X5_tag.1.cls ≠ "java/lang/invoke/VarHandle" ∧ (parseMethodDescriptor my_X5_tag.1.desc).map (fun d => d.parameters.length) = some 3 := by decide +kernel
theorem ds_X5_addBytes : my_X5_addBytes.1.cls ≠ "java/lang/invoke/MethodHandle" ∧ my_X5_addBytes.1.cls ≠ "java/lang/invoke/VarHandle" ∧ (parseMethodDescriptor my_X5_addBytes.1.desc).map (fun d => d.parameters.length) = some 3 := by decide +kernel
theorem ds_X5_multiply : my_X5_multiply.1.cls ≠ "java/lang/invoke/MethodHandle" ∧ my_X5_multiply.1.cls ≠ "java/lang/invoke/VarHandle" ∧ (parseMethodDescriptor my_X5_multiply.1.desc).map (fun d => d.parameters.length) = some 0 := by decide +kernel
theorem ds_X5_settle : my_X5_settle.1.cls ≠ "java/lang/invoke/MethodHandle" ∧ my_X5_settle.1.cls ≠ "java/lang/invoke/VarHandle" ∧ (parseMethodDescriptor my_X5_settle.1.desc).map (fun d => d.parameters.length) = some 1 := by decide +kernel
theorem ds_X5_reduce : my_X5_reduce.1.cls ≠ "java/lang/invoke/MethodHandle" ∧ my_X5_reduce.1.cls ≠ "java/lang/invoke/VarHandle" ∧ (parseMethodDescriptor my_X5_reduce.1.desc).map (fun d => d.parameters.length) = some 0 := by decide +kernel
theorem ds_X5_putSum : my_X5_putSum.1.cls ≠ "java/lang/invoke/MethodHandle" ∧ my_X5_putSum.1.cls ≠ "java/lang/invoke/VarHandle" ∧ (parseMethodDescriptor my_X5_putSum.1.desc).map (fun d => d.parameters.length) = some 2 := by decide +kernel
theorem ds_X6_init : my_X6_init.1.cls ≠ "java/lang/invoke/MethodHandle" ∧ my_X6_init.1.cls ≠ "java/lang/invoke/VarHandle" ∧ (parseMethodDescriptor my_X6_init.1.desc).map (fun d => d.parameters.length) = some 1 := by decide +kernel
theorem ds_X6_clear : my_X6_clear.1.cls ≠ "java/lang/invoke/MethodHandle" ∧ my_X6_clear.1.cls ≠ "java/lang/invoke/VarHandle" ∧ (parseMethodDescriptor my_X6_clear.1.desc).map (fun d => d.parameters.length) = some 0 := by decide +kernel
theorem ds_X6_cut : my_X6_cut.1.cls ≠ "java/lang/invoke/MethodHandle" ∧ my_X6_cut.1.cls ≠ "java/lang/invoke/VarHandle" ∧ (parseMethodDescriptor my_X6_cut.1.desc).map (fun d => d.parameters.length) = some 1 := by decide +kernel
theorem ds_X6_at : my_X6_at.1.cls ≠ "java/lang/invoke/MethodHandle" ∧ my_X6_at.1.cls ≠ "java/lang/invoke/VarHandle" ∧ (parseMethodDescriptor my_X6_at.1.desc).map (fun d => d.parameters.length) = some 1 := by decide +kernel
theorem ds_X6_twoAt : my_X6_twoAt.1.cls ≠ "java/lang/invoke/MethodHandle" ∧ my_X6_twoAt.1.cls ≠ "java/lang/invoke/VarHandle" ∧ (parseMethodDescriptor my_X6_twoAt.1.desc).map (fun d => d.parameters.length) = some 1 := by decide +kernel
theorem ds_X6_fourLowFirst : my_X6_fourLowFirst.1.cls ≠ "java/lang/invoke/MethodHandle" ∧ my_X6_fourLowFirst.1.cls ≠ "java/lang/invoke/VarHandle" ∧ (parseMethodDescriptor my_X6_fourLowFirst.1.desc).map (fun d => d.parameters.length) = some 1 := by decide +kernel
theorem ds_X6_flip : my_X6_flip.1.cls ≠ "java/lang/invoke/MethodHandle" ∧ my_X6_flip.1.cls ≠ "java/lang/invoke/VarHandle" ∧ (parseMethodDescriptor my_X6_flip.1.desc).map (fun d => d.parameters.length) = some 2 := by decide +kernel
theorem ds_X6_put : my_X6_put.1.cls ≠ "java/lang/invoke/MethodHandle" ∧ my_X6_put.1.cls ≠ "java/lang/invoke/VarHandle" ∧ (parseMethodDescriptor my_X6_put.1.desc).map (fun d => d.parameters.length) = some 1 := by decide +kernel
theorem ds_X6_putNumber : my_X6_putNumber.1.cls ≠ "java/lang/invoke/MethodHandle" ∧ my_X6_putNumber.1.cls ≠ "java/lang/invoke/VarHandle" ∧ (parseMethodDescriptor my_X6_putNumber.1.desc).map (fun d => d.parameters.length) = some 2 := by decide +kernel
theorem ds_X6_putLowFirst : my_X6_putLowFirst.1.cls ≠ "java/lang/invoke/MethodHandle" ∧ my_X6_putLowFirst.1.cls ≠ "java/lang/invoke/VarHandle" ∧ (parseMethodDescriptor my_X6_putLowFirst.1.desc).map (fun d => d.parameters.length) = some 2 := by decide +kernel
theorem ds_X6_fillUp : my_X6_fillUp.1.cls ≠ "java/lang/invoke/MethodHandle" ∧ my_X6_fillUp.1.cls ≠ "java/lang/invoke/VarHandle" ∧ (parseMethodDescriptor my_X6_fillUp.1.desc).map (fun d => d.parameters.length) = some 1 := by decide +kernel
theorem ds_X6_putAll : my_X6_putAll.1.cls ≠ "java/lang/invoke/MethodHandle" ∧ my_X6_putAll.1.cls ≠ "java/lang/invoke/VarHandle" ∧ (parseMethodDescriptor my_X6_putAll.1.desc).map (fun d => d.parameters.length) = some 1 := by decide +kernel
theorem ds_X6_putText : my_X6_putText.1.cls ≠ "java/lang/invoke/MethodHandle" ∧ my_X6_putText.1.cls ≠ "java/lang/invoke/VarHandle" ∧ (parseMethodDescriptor my_X6_putText.1.desc).map (fun d => d.parameters.length) = some 1 := by decide +kernel
theorem ds_X6_append : my_X6_append.1.cls ≠ "java/lang/invoke/MethodHandle" ∧ my_X6_append.1.cls ≠ "java/lang/invoke/VarHandle" ∧ (parseMethodDescriptor my_X6_append.1.desc).map (fun d => d.parameters.length) = some 1 := by decide +kernel
theorem ds_X6_appendPart : my_X6_appendPart.1.cls ≠ "java/lang/invoke/MethodHandle" ∧ my_X6_appendPart.1.cls ≠ "java/lang/invoke/VarHandle" ∧ (parseMethodDescriptor my_X6_appendPart.1.desc).map (fun d => d.parameters.length) = some 3 := by decide +kernel
theorem ds_X6_copy : my_X6_copy.1.cls ≠ "java/lang/invoke/MethodHandle" ∧ my_X6_copy.1.cls ≠ "java/lang/invoke/VarHandle" ∧ (parseMethodDescriptor my_X6_copy.1.desc).map (fun d => d.parameters.length) = some 1 := by decide +kernel
theorem ds_X6_copyPart : my_X6_copyPart.1.cls ≠ "java/lang/invoke/MethodHandle" ∧ my_X6_copyPart.1.cls ≠ "java/lang/invoke/VarHandle" ∧ (parseMethodDescriptor my_X6_copyPart.1.desc).map (fun d => d.parameters.length) = some 3 := by decide +kernel
theorem ds_X6_same : my_X6_same.1.cls ≠ "java/lang/invoke/MethodHandle" ∧ my_X6_same.1.cls ≠ "java/lang/invoke/VarHandle" ∧ (parseMethodDescriptor my_X6_same.1.desc).map (fun d => d.parameters.length) = some 1 := by decide +kernel
theorem ds_X6_hasAt : my_X6_hasAt.1.cls ≠ "java/lang/invoke/MethodHandle" ∧ my_X6_hasAt.1.cls ≠ "java/lang/invoke/VarHandle" ∧ (parseMethodDescriptor my_X6_hasAt.1.desc).map (fun d => d.parameters.length) = some 2 := by decide +kernel
theorem ds_X7_init : my_X7_init.1.cls ≠ "java/lang/invoke/MethodHandle" ∧ my_X7_init.1.cls ≠ "java/lang/invoke/VarHandle" ∧ (parseMethodDescriptor my_X7_init.1.desc).map (fun d => d.parameters.length) = some 1 := by decide +kernel
theorem ds_X7_prepare : my_X7_prepare.1.cls ≠ "java/lang/invoke/MethodHandle" ∧ my_X7_prepare.1.cls ≠ "java/lang/invoke/VarHandle" ∧ (parseMethodDescriptor my_X7_prepare.1.desc).map (fun d => d.parameters.length) = some 1 := by decide +kernel
theorem ds_X7_prove : my_X7_prove.1.cls ≠ "java/lang/invoke/MethodHandle" ∧ my_X7_prove.1.cls ≠ "java/lang/invoke/VarHandle" ∧ (parseMethodDescriptor my_X7_prove.1.desc).map (fun d => d.parameters.length) = some 3 := by decide +kernel
theorem ds_X8_init : my_X8_init.1.cls ≠ "java/lang/invoke/MethodHandle" ∧ my_X8_init.1.cls ≠ "java/lang/invoke/VarHandle" ∧ (parseMethodDescriptor my_X8_init.1.desc).map (fun d => d.parameters.length) = some 0 := by decide +kernel
theorem ds_X8_seal : my_X8_seal.1.cls ≠ "java/lang/invoke/MethodHandle" ∧ my_X8_seal.1.cls ≠ "java/lang/invoke/VarHandle" ∧ (parseMethodDescriptor my_X8_seal.1.desc).map (fun d => d.parameters.length) = some 2 := by decide +kernel
theorem ds_X8_open : my_X8_open.1.cls ≠ "java/lang/invoke/MethodHandle" ∧ my_X8_open.1.cls ≠ "java/lang/invoke/VarHandle" ∧ (parseMethodDescriptor my_X8_open.1.desc).map (fun d => d.parameters.length) = some 3 := by decide +kernel
theorem ds_X8_aim : my_X8_aim.1.cls ≠ "java/lang/invoke/MethodHandle" ∧ my_X8_aim.1.cls ≠ "java/lang/invoke/VarHandle" ∧ (parseMethodDescriptor my_X8_aim.1.desc).map (fun d => d.parameters.length) = some 1 := by decide +kernel
theorem ds_X8_turned : my_X8_turned.1.cls ≠ "java/lang/invoke/MethodHandle" ∧ my_X8_turned.1.cls ≠ "java/lang/invoke/VarHandle" ∧ (parseMethodDescriptor my_X8_turned.1.desc).map (fun d => d.parameters.length) = some 1 := by decide +kernel
theorem ds_X8_mix : my_X8_mix.1.cls ≠ "java/lang/invoke/MethodHandle" ∧ my_X8_mix.1.cls ≠ "java/lang/invoke/VarHandle" ∧ (parseMethodDescriptor my_X8_mix.1.desc).map (fun d => d.parameters.length) = some 2 := by decide +kernel
theorem ds_X8_turnBlock : my_X8_turnBlock.1.cls ≠ "java/lang/invoke/MethodHandle" ∧ my_X8_turnBlock.1.cls ≠ "java/lang/invoke/VarHandle" ∧ (parseMethodDescriptor my_X8_turnBlock.1.desc).map (fun d => d.parameters.length) = some 1 := by decide +kernel
theorem ds_X8_gather : my_X8_gather.1.cls ≠ "java/lang/invoke/MethodHandle" ∧ my_X8_gather.1.cls ≠ "java/lang/invoke/VarHandle" ∧ (parseMethodDescriptor my_X8_gather.1.desc).map (fun d => d.parameters.length) = some 2 := by decide +kernel
theorem ds_X9_init : my_X9_init.1.cls ≠ "java/lang/invoke/MethodHandle" ∧ my_X9_init.1.cls ≠ "java/lang/invoke/VarHandle" ∧ (parseMethodDescriptor my_X9_init.1.desc).map (fun d => d.parameters.length) = some 0 := by decide +kernel
theorem ds_X9_digest : my_X9_digest.1.cls ≠ "java/lang/invoke/MethodHandle" ∧ my_X9_digest.1.cls ≠ "java/lang/invoke/VarHandle" ∧ (parseMethodDescriptor my_X9_digest.1.desc).map (fun d => d.parameters.length) = some 2 := by decide +kernel
theorem ds_X9_load : my_X9_load.1.cls ≠ "java/lang/invoke/MethodHandle" ∧ my_X9_load.1.cls ≠ "java/lang/invoke/VarHandle" ∧ (parseMethodDescriptor my_X9_load.1.desc).map (fun d => d.parameters.length) = some 3 := by decide +kernel
theorem ds_X9_compress : my_X9_compress.1.cls ≠ "java/lang/invoke/MethodHandle" ∧ my_X9_compress.1.cls ≠ "java/lang/invoke/VarHandle" ∧ (parseMethodDescriptor my_X9_compress.1.desc).map (fun d => d.parameters.length) = some 0 := by decide +kernel
theorem ds_X10_init : my_X10_init.1.cls ≠ "java/lang/invoke/MethodHandle" ∧ my_X10_init.1.cls ≠ "java/lang/invoke/VarHandle" ∧ (parseMethodDescriptor my_X10_init.1.desc).map (fun d => d.parameters.length) = some 0 := by decide +kernel
theorem ds_X11_init : my_X11_init.1.cls ≠ "java/lang/invoke/MethodHandle" ∧ my_X11_init.1.cls ≠ "java/lang/invoke/VarHandle" ∧ (parseMethodDescriptor my_X11_init.1.desc).map (fun d => d.parameters.length) = some 0 := by decide +kernel
theorem ds_X11_feed : my_X11_feed.1.cls ≠ "java/lang/invoke/MethodHandle" ∧ my_X11_feed.1.cls ≠ "java/lang/invoke/VarHandle" ∧ (parseMethodDescriptor my_X11_feed.1.desc).map (fun d => d.parameters.length) = some 5 := by decide +kernel
theorem ds_X11_end : my_X11_end.1.cls ≠ "java/lang/invoke/MethodHandle" ∧ my_X11_end.1.cls ≠ "java/lang/invoke/VarHandle" ∧ (parseMethodDescriptor my_X11_end.1.desc).map (fun d => d.parameters.length) = some 1 := by decide +kernel
theorem ds_X11_make : my_X11_make.1.cls ≠ "java/lang/invoke/MethodHandle" ∧ my_X11_make.1.cls ≠ "java/lang/invoke/VarHandle" ∧ (parseMethodDescriptor my_X11_make.1.desc).map (fun d => d.parameters.length) = some 1 := by decide +kernel
theorem ds_X11_tell : my_X11_tell.1.cls ≠ "java/lang/invoke/MethodHandle" ∧ my_X11_tell.1.cls ≠ "java/lang/invoke/VarHandle" ∧ (parseMethodDescriptor my_X11_tell.1.desc).map (fun d => d.parameters.length) = some 2 := by decide +kernel
theorem ds_X11_start : my_X11_start.1.cls ≠ "java/lang/invoke/MethodHandle" ∧ my_X11_start.1.cls ≠ "java/lang/invoke/VarHandle" ∧ (parseMethodDescriptor my_X11_start.1.desc).map (fun d => d.parameters.length) = some 1 := by decide +kernel
theorem ds_X11_say : my_X11_say.1.cls ≠ "java/lang/invoke/MethodHandle" ∧ my_X11_say.1.cls ≠ "java/lang/invoke/VarHandle" ∧ (parseMethodDescriptor my_X11_say.1.desc).map (fun d => d.parameters.length) = some 1 := by decide +kernel
theorem ds_X11_update : my_X11_update.1.cls ≠ "java/lang/invoke/MethodHandle" ∧ my_X11_update.1.cls ≠ "java/lang/invoke/VarHandle" ∧ (parseMethodDescriptor my_X11_update.1.desc).map (fun d => d.parameters.length) = some 2 := by decide +kernel
theorem ds_X11_close : my_X11_close.1.cls ≠ "java/lang/invoke/MethodHandle" ∧ my_X11_close.1.cls ≠ "java/lang/invoke/VarHandle" ∧ (parseMethodDescriptor my_X11_close.1.desc).map (fun d => d.parameters.length) = some 1 := by decide +kernel
theorem ds_X11_carry : my_X11_carry.1.cls ≠ "java/lang/invoke/MethodHandle" ∧ my_X11_carry.1.cls ≠ "java/lang/invoke/VarHandle" ∧ (parseMethodDescriptor my_X11_carry.1.desc).map (fun d => d.parameters.length) = some 2 := by decide +kernel
theorem ds_X11_give : my_X11_give.1.cls ≠ "java/lang/invoke/MethodHandle" ∧ my_X11_give.1.cls ≠ "java/lang/invoke/VarHandle" ∧ (parseMethodDescriptor my_X11_give.1.desc).map (fun d => d.parameters.length) = some 1 := by decide +kernel
theorem ds_X11_meddle : my_X11_meddle.1.cls ≠ "java/lang/invoke/MethodHandle" ∧ my_X11_meddle.1.cls ≠ "java/lang/invoke/VarHandle" ∧ (parseMethodDescriptor my_X11_meddle.1.desc).map (fun d => d.parameters.length) = some 2 := by decide +kernel
theorem ds_X11_alter : my_X11_alter.1.cls ≠ "java/lang/invoke/MethodHandle" ∧ my_X11_alter.1.cls ≠ "java/lang/invoke/VarHandle" ∧ (parseMethodDescriptor my_X11_alter.1.desc).map (fun d => d.parameters.length) = some 3 := by decide +kernel
theorem ds_X11_written : my_X11_written.1.cls ≠ "java/lang/invoke/MethodHandle" ∧ my_X11_written.1.cls ≠ "java/lang/invoke/VarHandle" ∧ (parseMethodDescriptor my_X11_written.1.desc).map (fun d => d.parameters.length) = some 3 := by decide +kernel
theorem ds_X11_given : my_X11_given.1.cls ≠ "java/lang/invoke/MethodHandle" ∧ my_X11_given.1.cls ≠ "java/lang/invoke/VarHandle" ∧ (parseMethodDescriptor my_X11_given.1.desc).map (fun d => d.parameters.length) = some 2 := by decide +kernel
theorem ds_X11_secret : my_X11_secret.1.cls ≠ "java/lang/invoke/MethodHandle" ∧ my_X11_secret.1.cls ≠ "java/lang/invoke/VarHandle" ∧ (parseMethodDescriptor my_X11_secret.1.desc).map (fun d => d.parameters.length) = some 3 := by decide +kernel
theorem ds_X11_state : my_X11_state.1.cls ≠ "java/lang/invoke/MethodHandle" ∧ my_X11_state.1.cls ≠ "java/lang/invoke/VarHandle" ∧ (parseMethodDescriptor my_X11_state.1.desc).map (fun d => d.parameters.length) = some 2 := by decide +kernel
theorem ds_X11_hash : my_X11_hash.1.cls ≠ "java/lang/invoke/MethodHandle" ∧ my_X11_hash.1.cls ≠ "java/lang/invoke/VarHandle" ∧ (parseMethodDescriptor my_X11_hash.1.desc).map (fun d => d.parameters.length) = some 1 := by decide +kernel
theorem ds_X11_about : my_X11_about.1.cls ≠ "java/lang/invoke/MethodHandle" ∧ my_X11_about.1.cls ≠ "java/lang/invoke/VarHandle" ∧ (parseMethodDescriptor my_X11_about.1.desc).map (fun d => d.parameters.length) = some 1 := by decide +kernel
theorem ds_X11_find : my_X11_find.1.cls ≠ "java/lang/invoke/MethodHandle" ∧ my_X11_find.1.cls ≠ "java/lang/invoke/VarHandle" ∧ (parseMethodDescriptor my_X11_find.1.desc).map (fun d => d.parameters.length) = some 1 := by decide +kernel
theorem ds_X12_init : my_X12_init.1.cls ≠ "java/lang/invoke/MethodHandle" ∧ my_X12_init.1.cls ≠ "java/lang/invoke/VarHandle" ∧ (parseMethodDescriptor my_X12_init.1.desc).map (fun d => d.parameters.length) = some 0 := by decide +kernel
theorem ds_X12_isIn : my_X12_isIn.1.cls ≠ "java/lang/invoke/MethodHandle" ∧ my_X12_isIn.1.cls ≠ "java/lang/invoke/VarHandle" ∧ (parseMethodDescriptor my_X12_isIn.1.desc).map (fun d => d.parameters.length) = some 3 := by decide +kernel
theorem ds_X12_isEnd : my_X12_isEnd.1.cls ≠ "java/lang/invoke/MethodHandle" ∧ my_X12_isEnd.1.cls ≠ "java/lang/invoke/VarHandle" ∧ (parseMethodDescriptor my_X12_isEnd.1.desc).map (fun d => d.parameters.length) = some 1 := by decide +kernel
theorem ds_X12_move : my_X12_move.1.cls ≠ "java/lang/invoke/MethodHandle" ∧ my_X12_move.1.cls ≠ "java/lang/invoke/VarHandle" ∧ (parseMethodDescriptor my_X12_move.1.desc).map (fun d => d.parameters.length) = some 5 := by decide +kernel
theorem ds_X12_put8 : my_X12_put8.1.cls ≠ "java/lang/invoke/MethodHandle" ∧ my_X12_put8.1.cls ≠ "java/lang/invoke/VarHandle" ∧ (parseMethodDescriptor my_X12_put8.1.desc).map (fun d => d.parameters.length) = some 9 := by decide +kernel
theorem ds_X12_turn : my_X12_turn.1.cls ≠ "java/lang/invoke/MethodHandle" ∧ my_X12_turn.1.cls ≠ "java/lang/invoke/VarHandle" ∧ (parseMethodDescriptor my_X12_turn.1.desc).map (fun d => d.parameters.length) = some 2 := by decide +kernel
theorem ds_X12_mixBlock : my_X12_mixBlock.1.cls ≠ "java/lang/invoke/MethodHandle" ∧ my_X12_mixBlock.1.cls ≠ "java/lang/invoke/VarHandle" ∧ (parseMethodDescriptor my_X12_mixBlock.1.desc).map (fun d => d.parameters.length) = some 0 := by decide +kernel
theorem ds_X12_sum : my_X12_sum.1.cls ≠ "java/lang/invoke/MethodHandle" ∧ my_X12_sum.1.cls ≠ "java/lang/invoke/VarHandle" ∧ (parseMethodDescriptor my_X12_sum.1.desc).map (fun d => d.parameters.length) = some 5 := by decide +kernel
theorem ds_X12_sign : my_X12_sign.1.cls ≠ "java/lang/invoke/MethodHandle" ∧ my_X12_sign.1.cls ≠ "java/lang/invoke/VarHandle" ∧ (parseMethodDescriptor my_X12_sign.1.desc).map (fun d => d.parameters.length) = some 8 := by decide +kernel
theorem ds_X12_text : my_X12_text.1.cls ≠ "java/lang/invoke/MethodHandle" ∧ my_X12_text.1.cls ≠ "java/lang/invoke/VarHandle" ∧ (parseMethodDescriptor my_X12_text.1.desc).map (fun d => d.parameters.length) = some 1 := by decide +kernel
theorem ds_X12_label : my_X12_label.1.cls ≠ "java/lang/invoke/MethodHandle" ∧ my_X12_label.1.cls ≠ "java/lang/invoke/VarHandle" ∧ (parseMethodDescriptor my_X12_label.1.desc).map (fun d => d.parameters.length) = some 1 := by decide +kernel
theorem ds_X12_expand : my_X12_expand.1.cls ≠ "java/lang/invoke/MethodHandle" ∧ my_X12_expand.1.cls ≠ "java/lang/invoke/VarHandle" ∧ (parseMethodDescriptor my_X12_expand.1.desc).map (fun d => d.parameters.length) = some 8 := by decide +kernel
theorem ds_X12_beginSchedule : my_X12_beginSchedule.1.cls ≠ "java/lang/invoke/MethodHandle" ∧ my_X12_beginSchedule.1.cls ≠ "java/lang/invoke/VarHandle" ∧ (parseMethodDescriptor my_X12_beginSchedule.1.desc).map (fun d => d.parameters.length) = some 1 := by decide +kernel
theorem ds_X12_hear : my_X12_hear.1.cls ≠ "java/lang/invoke/MethodHandle" ∧ my_X12_hear.1.cls ≠ "java/lang/invoke/VarHandle" ∧ (parseMethodDescriptor my_X12_hear.1.desc).map (fun d => d.parameters.length) = some 1 := by decide +kernel
theorem ds_X12_append : my_X12_append.1.cls ≠ "java/lang/invoke/MethodHandle" ∧ my_X12_append.1.cls ≠ "java/lang/invoke/VarHandle" ∧ (parseMethodDescriptor my_X12_append.1.desc).map (fun d => d.parameters.length) = some 4 := by decide +kernel
theorem ds_X12_prove : my_X12_prove.1.cls ≠ "java/lang/invoke/MethodHandle" ∧ my_X12_prove.1.cls ≠ "java/lang/invoke/VarHandle" ∧ (parseMethodDescriptor my_X12_prove.1.desc).map (fun d => d.parameters.length) = some 4 := by decide +kernel
theorem ds_X12_word : my_X12_word.1.cls ≠ "java/lang/invoke/MethodHandle" ∧ my_X12_word.1.cls ≠ "java/lang/invoke/VarHandle" ∧ (parseMethodDescriptor my_X12_word.1.desc).map (fun d => d.parameters.length) = some 2 := by decide +kernel
theorem ds_X12_quarter : my_X12_quarter.1.cls ≠ "java/lang/invoke/MethodHandle" ∧ my_X12_quarter.1.cls ≠ "java/lang/invoke/VarHandle" ∧ (parseMethodDescriptor my_X12_quarter.1.desc).map (fun d => d.parameters.length) = some 4 := by decide +kernel
theorem ds_X12_streamOf : my_X12_streamOf.1.cls ≠ "java/lang/invoke/MethodHandle" ∧ my_X12_streamOf.1.cls ≠ "java/lang/invoke/VarHandle" ∧ (parseMethodDescriptor my_X12_streamOf.1.desc).map (fun d => d.parameters.length) = some 1 := by decide +kernel
theorem ds_X12_cover : my_X12_cover.1.cls ≠ "java/lang/invoke/MethodHandle" ∧ my_X12_cover.1.cls ≠ "java/lang/invoke/VarHandle" ∧ (parseMethodDescriptor my_X12_cover.1.desc).map (fun d => d.parameters.length) = some 3 := by decide +kernel
theorem ds_X12_part : my_X12_part.1.cls ≠ "java/lang/invoke/MethodHandle" ∧ my_X12_part.1.cls ≠ "java/lang/invoke/VarHandle" ∧ (parseMethodDescriptor my_X12_part.1.desc).map (fun d => d.parameters.length) = some 2 := by decide +kernel
theorem ds_X12_takeSixteen : my_X12_takeSixteen.1.cls ≠ "java/lang/invoke/MethodHandle" ∧ my_X12_takeSixteen.1.cls ≠ "java/lang/invoke/VarHandle" ∧ (parseMethodDescriptor my_X12_takeSixteen.1.desc).map (fun d => d.parameters.length) = some 0 := by decide +kernel
theorem ds_X12_take : my_X12_take.1.cls ≠ "java/lang/invoke/MethodHandle" ∧ my_X12_take.1.cls ≠ "java/lang/invoke/VarHandle" ∧ (parseMethodDescriptor my_X12_take.1.desc).map (fun d => d.parameters.length) = some 3 := by decide +kernel
theorem ds_X12_sealOf : my_X12_sealOf.1.cls ≠ "java/lang/invoke/MethodHandle" ∧ my_X12_sealOf.1.cls ≠ "java/lang/invoke/VarHandle" ∧ (parseMethodDescriptor my_X12_sealOf.1.desc).map (fun d => d.parameters.length) = some 4 := by decide +kernel
theorem ds_X12_settle : my_X12_settle.1.cls ≠ "java/lang/invoke/MethodHandle" ∧ my_X12_settle.1.cls ≠ "java/lang/invoke/VarHandle" ∧ (parseMethodDescriptor my_X12_settle.1.desc).map (fun d => d.parameters.length) = some 0 := by decide +kernel
theorem ds_X12_byteOf : my_X12_byteOf.1.cls ≠ "java/lang/invoke/MethodHandle" ∧ my_X12_byteOf.1.cls ≠ "java/lang/invoke/VarHandle" ∧ (parseMethodDescriptor my_X12_byteOf.1.desc).map (fun d => d.parameters.length) = some 1 := by decide +kernel
theorem ds_X12_keysOf : my_X12_keysOf.1.cls ≠ "java/lang/invoke/MethodHandle" ∧ my_X12_keysOf.1.cls ≠ "java/lang/invoke/VarHandle" ∧ (parseMethodDescriptor my_X12_keysOf.1.desc).map (fun d => d.parameters.length) = some 3 := by decide +kernel
theorem ds_X12_sayByte : my_X12_sayByte.1.cls ≠ "java/lang/invoke/MethodHandle" ∧ my_X12_sayByte.1.cls ≠ "java/lang/invoke/VarHandle" ∧ (parseMethodDescriptor my_X12_sayByte.1.desc).map (fun d => d.parameters.length) = some 1 := by decide +kernel
theorem ds_X12_sayTwo : my_X12_sayTwo.1.cls ≠ "java/lang/invoke/MethodHandle" ∧ my_X12_sayTwo.1.cls ≠ "java/lang/invoke/VarHandle" ∧ (parseMethodDescriptor my_X12_sayTwo.1.desc).map (fun d => d.parameters.length) = some 1 := by decide +kernel
theorem ds_X12_isFull : my_X12_isFull.1.cls ≠ "java/lang/invoke/MethodHandle" ∧ my_X12_isFull.1.cls ≠ "java/lang/invoke/VarHandle" ∧ (parseMethodDescriptor my_X12_isFull.1.desc).map (fun d => d.parameters.length) = some 1 := by decide +kernel
theorem ds_X12_writeRecord : my_X12_writeRecord.1.cls ≠ "java/lang/invoke/MethodHandle" ∧ my_X12_writeRecord.1.cls ≠ "java/lang/invoke/VarHandle" ∧ (parseMethodDescriptor my_X12_writeRecord.1.desc).map (fun d => d.parameters.length) = some 2 := by decide +kernel
theorem ds_X12_beginMessage : my_X12_beginMessage.1.cls ≠ "java/lang/invoke/MethodHandle" ∧ my_X12_beginMessage.1.cls ≠ "java/lang/invoke/VarHandle" ∧ (parseMethodDescriptor my_X12_beginMessage.1.desc).map (fun d => d.parameters.length) = some 1 := by decide +kernel
theorem ds_X12_endMessage : my_X12_endMessage.1.cls ≠ "java/lang/invoke/MethodHandle" ∧ my_X12_endMessage.1.cls ≠ "java/lang/invoke/VarHandle" ∧ (parseMethodDescriptor my_X12_endMessage.1.desc).map (fun d => d.parameters.length) = some 2 := by decide +kernel
theorem ds_X12_sayRow : my_X12_sayRow.1.cls ≠ "java/lang/invoke/MethodHandle" ∧ my_X12_sayRow.1.cls ≠ "java/lang/invoke/VarHandle" ∧ (parseMethodDescriptor my_X12_sayRow.1.desc).map (fun d => d.parameters.length) = some 3 := by decide +kernel
theorem ds_X12_bind : my_X12_bind.1.cls ≠ "java/lang/invoke/MethodHandle" ∧ my_X12_bind.1.cls ≠ "java/lang/invoke/VarHandle" ∧ (parseMethodDescriptor my_X12_bind.1.desc).map (fun d => d.parameters.length) = some 4 := by decide +kernel
theorem ds_X12_sayHello : my_X12_sayHello.1.cls ≠ "java/lang/invoke/MethodHandle" ∧ my_X12_sayHello.1.cls ≠ "java/lang/invoke/VarHandle" ∧ (parseMethodDescriptor my_X12_sayHello.1.desc).map (fun d => d.parameters.length) = some 1 := by decide +kernel
theorem ds_X12_sayFinished : my_X12_sayFinished.1.cls ≠ "java/lang/invoke/MethodHandle" ∧ my_X12_sayFinished.1.cls ≠ "java/lang/invoke/VarHandle" ∧ (parseMethodDescriptor my_X12_sayFinished.1.desc).map (fun d => d.parameters.length) = some 1 := by decide +kernel
theorem ds_X12_sayAlert : my_X12_sayAlert.1.cls ≠ "java/lang/invoke/MethodHandle" ∧ my_X12_sayAlert.1.cls ≠ "java/lang/invoke/VarHandle" ∧ (parseMethodDescriptor my_X12_sayAlert.1.desc).map (fun d => d.parameters.length) = some 3 := by decide +kernel
theorem ds_X12_sayUpdate : my_X12_sayUpdate.1.cls ≠ "java/lang/invoke/MethodHandle" ∧ my_X12_sayUpdate.1.cls ≠ "java/lang/invoke/VarHandle" ∧ (parseMethodDescriptor my_X12_sayUpdate.1.desc).map (fun d => d.parameters.length) = some 2 := by decide +kernel
theorem ds_X12_follow : my_X12_follow.1.cls ≠ "java/lang/invoke/MethodHandle" ∧ my_X12_follow.1.cls ≠ "java/lang/invoke/VarHandle" ∧ (parseMethodDescriptor my_X12_follow.1.desc).map (fun d => d.parameters.length) = some 2 := by decide +kernel
theorem ds_X12_handSecrets : my_X12_handSecrets.1.cls ≠ "java/lang/invoke/MethodHandle" ∧ my_X12_handSecrets.1.cls ≠ "java/lang/invoke/VarHandle" ∧ (parseMethodDescriptor my_X12_handSecrets.1.desc).map (fun d => d.parameters.length) = some 1 := by decide +kernel
theorem ds_X12_fail : my_X12_fail.1.cls ≠ "java/lang/invoke/MethodHandle" ∧ my_X12_fail.1.cls ≠ "java/lang/invoke/VarHandle" ∧ (parseMethodDescriptor my_X12_fail.1.desc).map (fun d => d.parameters.length) = some 2 := by decide +kernel
theorem ds_X12_isOpened : my_X12_isOpened.1.cls ≠ "java/lang/invoke/MethodHandle" ∧ my_X12_isOpened.1.cls ≠ "java/lang/invoke/VarHandle" ∧ (parseMethodDescriptor my_X12_isOpened.1.desc).map (fun d => d.parameters.length) = some 2 := by decide +kernel
theorem ds_X12_readRecord : my_X12_readRecord.1.cls ≠ "java/lang/invoke/MethodHandle" ∧ my_X12_readRecord.1.cls ≠ "java/lang/invoke/VarHandle" ∧ (parseMethodDescriptor my_X12_readRecord.1.desc).map (fun d => d.parameters.length) = some 2 := by decide +kernel
theorem ds_X12_outerFault : my_X12_outerFault.1.cls ≠ "java/lang/invoke/MethodHandle" ∧ my_X12_outerFault.1.cls ≠ "java/lang/invoke/VarHandle" ∧ (parseMethodDescriptor my_X12_outerFault.1.desc).map (fun d => d.parameters.length) = some 2 := by decide +kernel
theorem ds_X12_readAlert : my_X12_readAlert.1.cls ≠ "java/lang/invoke/MethodHandle" ∧ my_X12_readAlert.1.cls ≠ "java/lang/invoke/VarHandle" ∧ (parseMethodDescriptor my_X12_readAlert.1.desc).map (fun d => d.parameters.length) = some 1 := by decide +kernel
theorem ds_X12_readData : my_X12_readData.1.cls ≠ "java/lang/invoke/MethodHandle" ∧ my_X12_readData.1.cls ≠ "java/lang/invoke/VarHandle" ∧ (parseMethodDescriptor my_X12_readData.1.desc).map (fun d => d.parameters.length) = some 1 := by decide +kernel
theorem ds_X12_waited : my_X12_waited.1.cls ≠ "java/lang/invoke/MethodHandle" ∧ my_X12_waited.1.cls ≠ "java/lang/invoke/VarHandle" ∧ (parseMethodDescriptor my_X12_waited.1.desc).map (fun d => d.parameters.length) = some 1 := by decide +kernel
theorem ds_X12_readHandshake : my_X12_readHandshake.1.cls ≠ "java/lang/invoke/MethodHandle" ∧ my_X12_readHandshake.1.cls ≠ "java/lang/invoke/VarHandle" ∧ (parseMethodDescriptor my_X12_readHandshake.1.desc).map (fun d => d.parameters.length) = some 1 := by decide +kernel
theorem ds_X12_bodyFault : my_X12_bodyFault.1.cls ≠ "java/lang/invoke/MethodHandle" ∧ my_X12_bodyFault.1.cls ≠ "java/lang/invoke/VarHandle" ∧ (parseMethodDescriptor my_X12_bodyFault.1.desc).map (fun d => d.parameters.length) = some 3 := by decide +kernel
theorem ds_X12_mustBe : my_X12_mustBe.1.cls ≠ "java/lang/invoke/MethodHandle" ∧ my_X12_mustBe.1.cls ≠ "java/lang/invoke/VarHandle" ∧ (parseMethodDescriptor my_X12_mustBe.1.desc).map (fun d => d.parameters.length) = some 1 := by decide +kernel
theorem ds_X12_mustByte : my_X12_mustByte.1.cls ≠ "java/lang/invoke/MethodHandle" ∧ my_X12_mustByte.1.cls ≠ "java/lang/invoke/VarHandle" ∧ (parseMethodDescriptor my_X12_mustByte.1.desc).map (fun d => d.parameters.length) = some 1 := by decide +kernel
theorem ds_X12_isAnswer : my_X12_isAnswer.1.cls ≠ "java/lang/invoke/MethodHandle" ∧ my_X12_isAnswer.1.cls ≠ "java/lang/invoke/VarHandle" ∧ (parseMethodDescriptor my_X12_isAnswer.1.desc).map (fun d => d.parameters.length) = some 1 := by decide +kernel
theorem ds_X12_helloFault : my_X12_helloFault.1.cls ≠ "java/lang/invoke/MethodHandle" ∧ my_X12_helloFault.1.cls ≠ "java/lang/invoke/VarHandle" ∧ (parseMethodDescriptor my_X12_helloFault.1.desc).map (fun d => d.parameters.length) = some 2 := by decide +kernel
theorem ds_X12_goOn : my_X12_goOn.1.cls ≠ "java/lang/invoke/MethodHandle" ∧ my_X12_goOn.1.cls ≠ "java/lang/invoke/VarHandle" ∧ (parseMethodDescriptor my_X12_goOn.1.desc).map (fun d => d.parameters.length) = some 2 := by decide +kernel
theorem ds_X12_answer : my_X12_answer.1.cls ≠ "java/lang/invoke/MethodHandle" ∧ my_X12_answer.1.cls ≠ "java/lang/invoke/VarHandle" ∧ (parseMethodDescriptor my_X12_answer.1.desc).map (fun d => d.parameters.length) = some 1 := by decide +kernel
theorem ds_X12_finish : my_X12_finish.1.cls ≠ "java/lang/invoke/MethodHandle" ∧ my_X12_finish.1.cls ≠ "java/lang/invoke/VarHandle" ∧ (parseMethodDescriptor my_X12_finish.1.desc).map (fun d => d.parameters.length) = some 1 := by decide +kernel
theorem ds_X12_turnOver : my_X12_turnOver.1.cls ≠ "java/lang/invoke/MethodHandle" ∧ my_X12_turnOver.1.cls ≠ "java/lang/invoke/VarHandle" ∧ (parseMethodDescriptor my_X12_turnOver.1.desc).map (fun d => d.parameters.length) = some 1 := by decide +kernel
theorem ds_X12_feed : my_X12_feed.1.cls ≠ "java/lang/invoke/MethodHandle" ∧ my_X12_feed.1.cls ≠ "java/lang/invoke/VarHandle" ∧ (parseMethodDescriptor my_X12_feed.1.desc).map (fun d => d.parameters.length) = some 5 := by decide +kernel
theorem ds_X12_four : my_X12_four.1.cls ≠ "java/lang/invoke/MethodHandle" ∧ my_X12_four.1.cls ≠ "java/lang/invoke/VarHandle" ∧ (parseMethodDescriptor my_X12_four.1.desc).map (fun d => d.parameters.length) = some 1 := by decide +kernel
theorem ds_X12_end : my_X12_end.1.cls ≠ "java/lang/invoke/MethodHandle" ∧ my_X12_end.1.cls ≠ "java/lang/invoke/VarHandle" ∧ (parseMethodDescriptor my_X12_end.1.desc).map (fun d => d.parameters.length) = some 1 := by decide +kernel
theorem ds_X12_make : my_X12_make.1.cls ≠ "java/lang/invoke/MethodHandle" ∧ my_X12_make.1.cls ≠ "java/lang/invoke/VarHandle" ∧ (parseMethodDescriptor my_X12_make.1.desc).map (fun d => d.parameters.length) = some 1 := by decide +kernel
theorem ds_X12_tell : my_X12_tell.1.cls ≠ "java/lang/invoke/MethodHandle" ∧ my_X12_tell.1.cls ≠ "java/lang/invoke/VarHandle" ∧ (parseMethodDescriptor my_X12_tell.1.desc).map (fun d => d.parameters.length) = some 2 := by decide +kernel
theorem ds_X12_start : my_X12_start.1.cls ≠ "java/lang/invoke/MethodHandle" ∧ my_X12_start.1.cls ≠ "java/lang/invoke/VarHandle" ∧ (parseMethodDescriptor my_X12_start.1.desc).map (fun d => d.parameters.length) = some 1 := by decide +kernel
theorem ds_X12_canSay : my_X12_canSay.1.cls ≠ "java/lang/invoke/MethodHandle" ∧ my_X12_canSay.1.cls ≠ "java/lang/invoke/VarHandle" ∧ (parseMethodDescriptor my_X12_canSay.1.desc).map (fun d => d.parameters.length) = some 1 := by decide +kernel
theorem ds_X12_say : my_X12_say.1.cls ≠ "java/lang/invoke/MethodHandle" ∧ my_X12_say.1.cls ≠ "java/lang/invoke/VarHandle" ∧ (parseMethodDescriptor my_X12_say.1.desc).map (fun d => d.parameters.length) = some 1 := by decide +kernel
theorem ds_X12_update : my_X12_update.1.cls ≠ "java/lang/invoke/MethodHandle" ∧ my_X12_update.1.cls ≠ "java/lang/invoke/VarHandle" ∧ (parseMethodDescriptor my_X12_update.1.desc).map (fun d => d.parameters.length) = some 2 := by decide +kernel
theorem ds_X12_close : my_X12_close.1.cls ≠ "java/lang/invoke/MethodHandle" ∧ my_X12_close.1.cls ≠ "java/lang/invoke/VarHandle" ∧ (parseMethodDescriptor my_X12_close.1.desc).map (fun d => d.parameters.length) = some 1 := by decide +kernel
theorem ds_X12_leave : my_X12_leave.1.cls ≠ "java/lang/invoke/MethodHandle" ∧ my_X12_leave.1.cls ≠ "java/lang/invoke/VarHandle" ∧ (parseMethodDescriptor my_X12_leave.1.desc).map (fun d => d.parameters.length) = some 1 := by decide +kernel
theorem ds_X12_copyRecord : my_X12_copyRecord.1.cls ≠ "java/lang/invoke/MethodHandle" ∧ my_X12_copyRecord.1.cls ≠ "java/lang/invoke/VarHandle" ∧ (parseMethodDescriptor my_X12_copyRecord.1.desc).map (fun d => d.parameters.length) = some 3 := by decide +kernel
theorem ds_X12_carry : my_X12_carry.1.cls ≠ "java/lang/invoke/MethodHandle" ∧ my_X12_carry.1.cls ≠ "java/lang/invoke/VarHandle" ∧ (parseMethodDescriptor my_X12_carry.1.desc).map (fun d => d.parameters.length) = some 2 := by decide +kernel
theorem ds_X12_give : my_X12_give.1.cls ≠ "java/lang/invoke/MethodHandle" ∧ my_X12_give.1.cls ≠ "java/lang/invoke/VarHandle" ∧ (parseMethodDescriptor my_X12_give.1.desc).map (fun d => d.parameters.length) = some 1 := by decide +kernel
theorem ds_X12_meddle : my_X12_meddle.1.cls ≠ "java/lang/invoke/MethodHandle" ∧ my_X12_meddle.1.cls ≠ "java/lang/invoke/VarHandle" ∧ (parseMethodDescriptor my_X12_meddle.1.desc).map (fun d => d.parameters.length) = some 2 := by decide +kernel
theorem ds_X12_alter : my_X12_alter.1.cls ≠ "java/lang/invoke/MethodHandle" ∧ my_X12_alter.1.cls ≠ "java/lang/invoke/VarHandle" ∧ (parseMethodDescriptor my_X12_alter.1.desc).map (fun d => d.parameters.length) = some 3 := by decide +kernel
theorem ds_X12_written : my_X12_written.1.cls ≠ "java/lang/invoke/MethodHandle" ∧ my_X12_written.1.cls ≠ "java/lang/invoke/VarHandle" ∧ (parseMethodDescriptor my_X12_written.1.desc).map (fun d => d.parameters.length) = some 3 := by decide +kernel
theorem ds_X12_given : my_X12_given.1.cls ≠ "java/lang/invoke/MethodHandle" ∧ my_X12_given.1.cls ≠ "java/lang/invoke/VarHandle" ∧ (parseMethodDescriptor my_X12_given.1.desc).map (fun d => d.parameters.length) = some 2 := by decide +kernel
theorem ds_X12_secret : my_X12_secret.1.cls ≠ "java/lang/invoke/MethodHandle" ∧ my_X12_secret.1.cls ≠ "java/lang/invoke/VarHandle" ∧ (parseMethodDescriptor my_X12_secret.1.desc).map (fun d => d.parameters.length) = some 3 := by decide +kernel
theorem ds_X12_state : my_X12_state.1.cls ≠ "java/lang/invoke/MethodHandle" ∧ my_X12_state.1.cls ≠ "java/lang/invoke/VarHandle" ∧ (parseMethodDescriptor my_X12_state.1.desc).map (fun d => d.parameters.length) = some 2 := by decide +kernel
theorem ds_X12_hash : my_X12_hash.1.cls ≠ "java/lang/invoke/MethodHandle" ∧ my_X12_hash.1.cls ≠ "java/lang/invoke/VarHandle" ∧ (parseMethodDescriptor my_X12_hash.1.desc).map (fun d => d.parameters.length) = some 1 := by decide +kernel
theorem ds_X12_about : my_X12_about.1.cls ≠ "java/lang/invoke/MethodHandle" ∧ my_X12_about.1.cls ≠ "java/lang/invoke/VarHandle" ∧ (parseMethodDescriptor my_X12_about.1.desc).map (fun d => d.parameters.length) = some 1 := by decide +kernel
theorem ds_J0_length_8abf5 : my_J0_length_8abf5.1.cls ≠ "java/lang/invoke/MethodHandle" ∧ my_J0_length_8abf5.1.cls ≠ "java/lang/invoke/VarHandle" ∧ (parseMethodDescriptor my_J0_length_8abf5.1.desc).map (fun d => d.parameters.length) = some 0 := by decide +kernel
theorem ds_J0_charAt_5068e : my_J0_charAt_5068e.1.cls ≠ "java/lang/invoke/MethodHandle" ∧ my_J0_charAt_5068e.1.cls ≠ "java/lang/invoke/VarHandle" ∧ (parseMethodDescriptor my_J0_charAt_5068e.1.desc).map (fun d => d.parameters.length) = some 1 := by decide +kernel
theorem ds_J0_coder_7d493 : my_J0_coder_7d493.1.cls ≠ "java/lang/invoke/MethodHandle" ∧ my_J0_coder_7d493.1.cls ≠ "java/lang/invoke/VarHandle" ∧ (parseMethodDescriptor my_J0_coder_7d493.1.desc).map (fun d => d.parameters.length) = some 0 := by decide +kernel
theorem ds_J0_isLatin1_aae02 : my_J0_isLatin1_aae02.1.cls ≠ "java/lang/invoke/MethodHandle" ∧ my_J0_isLatin1_aae02.1.cls ≠ "java/lang/invoke/VarHandle" ∧ (parseMethodDescriptor my_J0_isLatin1_aae02.1.desc).map (fun d => d.parameters.length) = some 0 := by decide +kernel
theorem ds_J0_checkIndex_df160 : my_J0_checkIndex_df160.1.cls ≠ "java/lang/invoke/MethodHandle" ∧ my_J0_checkIndex_df160.1.cls ≠ "java/lang/invoke/VarHandle" ∧ (parseMethodDescriptor my_J0_checkIndex_df160.1.desc).map (fun d => d.parameters.length) = some 2 := by decide +kernel
theorem ds_J1_charAt_3b067 : my_J1_charAt_3b067.1.cls ≠ "java/lang/invoke/MethodHandle" ∧ my_J1_charAt_3b067.1.cls ≠ "java/lang/invoke/VarHandle" ∧ (parseMethodDescriptor my_J1_charAt_3b067.1.desc).map (fun d => d.parameters.length) = some 2 := by decide +kernel
