theorem kf_0 : jx_kf 0 9 RX9 TX9 14 tyX9 [jx_f1 1 0, jx_f1 6 0, jx_f1 8 0, jx_f1 9 0, jx_f1 10 0, jx_f1 13 0, jx_f0, jx_f0, jx_f1 14 0, jx_f1 19 0, jx_f1 21 0, jx_f1 22 0, jx_f1 25 0, jx_f1 26 0] := ⟨rfl, rfl, jx_in9, tyX9_ok, nmX9, rfl⟩
theorem kf_1 : jx_kf 1 3 RX3 TX3 7 tyX3 [jx_f0, jx_f0, jx_f0, jx_fi 2, jx_fi 3, jx_fi 4, jx_fi 5] := ⟨rfl, rfl, jx_in3, tyX3_ok, nmX3, rfl⟩
theorem kf_6 : jx_kf 6 5 RX5 TX5 3 tyX5 [jx_f1 7 0, jx_f0, jx_f0] := ⟨rfl, rfl, jx_in5, tyX5_ok, nmX5, rfl⟩
theorem kf_11 : jx_kf 11 7 RX7 TX7 3 tyX7 [jx_f0, jx_f0, jx_fi 12] := ⟨rfl, rfl, jx_in7, tyX7_ok, nmX7, rfl⟩
theorem kf_14 : jx_kf 14 6 RX6 TX6 11 tyX6 [jx_f0, jx_f0, jx_f0, jx_f0, jx_f0, jx_f0, jx_f0, jx_f1 15 0, jx_f1 16 0, jx_f1 17 0, jx_f1 18 0] := ⟨rfl, rfl, jx_in6, tyX6_ok, nmX6, rfl⟩
theorem kf_19 : jx_kf 19 2 RX2 TX2 1 tyX2 [jx_f1 20 0] := ⟨rfl, rfl, jx_in2, tyX2_ok, nmX2, rfl⟩
theorem kf_21 : jx_kf 21 1 RX1 TX1 5 tyX1 [jx_f2 14 0, jx_f2 1 0, jx_f0, jx_f0, jx_f0] := ⟨rfl, rfl, jx_in1, tyX1_ok, nmX1, rfl⟩
theorem kf_22 : jx_kf 22 4 RX4 TX4 4 tyX4 [jx_f2 14 0, jx_f0, jx_f1 23 0, jx_f1 24 0] := ⟨rfl, rfl, jx_in4, tyX4_ok, nmX4, rfl⟩
theorem kf_25 : jx_kf 25 8 RX8 TX8 4 tyX8 [jx_f2 1 0, jx_f0, jx_f0, jx_f0] := ⟨rfl, rfl, jx_in8, tyX8_ok, nmX8, rfl⟩
theorem kf_26 : jx_kf 26 0 RX0 TX0 3 tyX0 [jx_f2 14 0, jx_f2 1 0, jx_f1 27 0] := ⟨rfl, rfl, jx_in0, tyX0_ok, nmX0, rfl⟩
theorem kf_30 : jx_kf 30 10 RX10 TX10 24 tyX10 [jx_f0, jx_f0, jx_f0, jx_f1 33 0, jx_f1 34 0, jx_f1 35 0, jx_f1 36 0, jx_f0, jx_f1 38 0, jx_f1 39 0, jx_f1 40 0, jx_f1 41 0, jx_f1 42 0, jx_f1 43 0, jx_f0, jx_f1 45 0, jx_f0, jx_f1 47 0, jx_f1 48 0, jx_f1 49 0, jx_f1 50 0, jx_f1 51 0, jx_f1 52 0, jx_f1 53 0] := ⟨rfl, rfl, jx_in10, tyX10_ok, nmX10, rfl⟩
theorem mf_0 : jx_mfS 0 2 := ⟨⟨⟨(by decide +kernel), (by decide +kernel), (by decide +kernel)⟩, (by decide +kernel), wd_361, wd_61⟩, wd_360⟩
theorem mf_1 : jx_mfS 1 1 := ⟨⟨⟨(by decide +kernel), (by decide +kernel), (by decide +kernel)⟩, (by decide +kernel), wd_505, wd_62⟩, wd_504⟩
theorem mf_2 : jx_mfS 2 2 := ⟨⟨⟨(by decide +kernel), (by decide +kernel), (by decide +kernel)⟩, (by decide +kernel), wd_626, wd_61⟩, wd_625⟩
theorem mf_3 : jx_mfV 3 1 := ⟨⟨⟨(by decide +kernel), (by decide +kernel), (by decide +kernel)⟩, (by decide +kernel), wd_347, wd_49⟩, wd_345, wd_346⟩
theorem mf_4 : jx_mfV 4 1 := ⟨⟨⟨(by decide +kernel), (by decide +kernel), (by decide +kernel)⟩, (by decide +kernel), wd_351, wd_51⟩, wd_349, wd_350⟩
theorem mf_5 : jx_mfV 5 1 := ⟨⟨⟨(by decide +kernel), (by decide +kernel), (by decide +kernel)⟩, (by decide +kernel), wd_355, wd_50⟩, wd_353, wd_354⟩
theorem mf_6 : jx_mfV 6 1 := ⟨⟨⟨(by decide +kernel), (by decide +kernel), (by decide +kernel)⟩, (by decide +kernel), wd_365, wd_50⟩, wd_363, wd_364⟩
theorem mf_7 : jx_mfV 7 0 := ⟨⟨⟨(by decide +kernel), (by decide +kernel), (by decide +kernel)⟩, (by decide +kernel), wd_369, wd_49⟩, wd_367, wd_368⟩
theorem mf_8 : jx_mfV 8 1 := ⟨⟨⟨(by decide +kernel), (by decide +kernel), (by decide +kernel)⟩, (by decide +kernel), wd_373, wd_49⟩, wd_372, wd_0⟩
theorem mf_9 : jx_mfV 9 0 := ⟨⟨⟨(by decide +kernel), (by decide +kernel), (by decide +kernel)⟩, (by decide +kernel), wd_377, wd_50⟩, wd_375, wd_376⟩
theorem mf_10 : jx_mfV 10 2 := ⟨⟨⟨(by decide +kernel), (by decide +kernel), (by decide +kernel)⟩, (by decide +kernel), wd_381, wd_49⟩, wd_379, wd_380⟩
theorem mf_11 : jx_mfV 11 2 := ⟨⟨⟨(by decide +kernel), (by decide +kernel), (by decide +kernel)⟩, (by decide +kernel), wd_385, wd_49⟩, wd_384, wd_1⟩
theorem mf_12 : jx_mfV 12 1 := ⟨⟨⟨(by decide +kernel), (by decide +kernel), (by decide +kernel)⟩, (by decide +kernel), wd_389, wd_49⟩, wd_388, wd_2⟩
theorem mf_13 : jx_mfV 13 2 := ⟨⟨⟨(by decide +kernel), (by decide +kernel), (by decide +kernel)⟩, (by decide +kernel), wd_393, wd_50⟩, wd_391, wd_392⟩
theorem mf_14 : jx_mfV 14 3 := ⟨⟨⟨(by decide +kernel), (by decide +kernel), (by decide +kernel)⟩, (by decide +kernel), wd_397, wd_49⟩, wd_395, wd_396⟩
theorem mf_15 : jx_mfV 15 1 := ⟨⟨⟨(by decide +kernel), (by decide +kernel), (by decide +kernel)⟩, (by decide +kernel), wd_401, wd_49⟩, wd_400, wd_3⟩
theorem mf_16 : jx_mfV 16 1 := ⟨⟨⟨(by decide +kernel), (by decide +kernel), (by decide +kernel)⟩, (by decide +kernel), wd_405, wd_49⟩, wd_403, wd_404⟩
theorem mf_17 : jx_mfS 17 1 := ⟨⟨⟨(by decide +kernel), (by decide +kernel), (by decide +kernel)⟩, (by decide +kernel), wd_408, wd_49⟩, wd_407⟩
theorem mf_18 : jx_mfV 18 1 := ⟨⟨⟨(by decide +kernel), (by decide +kernel), (by decide +kernel)⟩, (by decide +kernel), wd_412, wd_50⟩, wd_410, wd_411⟩
theorem mf_19 : jx_mfS 19 2 := ⟨⟨⟨(by decide +kernel), (by decide +kernel), (by decide +kernel)⟩, (by decide +kernel), wd_415, wd_49⟩, wd_414⟩
theorem mf_20 : jx_mfV 20 2 := ⟨⟨⟨(by decide +kernel), (by decide +kernel), (by decide +kernel)⟩, (by decide +kernel), wd_419, wd_49⟩, wd_417, wd_418⟩
theorem mf_21 : jx_mfV 21 2 := ⟨⟨⟨(by decide +kernel), (by decide +kernel), (by decide +kernel)⟩, (by decide +kernel), wd_423, wd_50⟩, wd_421, wd_422⟩
theorem mf_22 : jx_mfS 22 3 := ⟨⟨⟨(by decide +kernel), (by decide +kernel), (by decide +kernel)⟩, (by decide +kernel), wd_426, wd_50⟩, wd_425⟩
theorem mf_23 : jx_mfV 23 2 := ⟨⟨⟨(by decide +kernel), (by decide +kernel), (by decide +kernel)⟩, (by decide +kernel), wd_431, wd_49⟩, wd_429, wd_430⟩
theorem mf_24 : jx_mfV 24 0 := ⟨⟨⟨(by decide +kernel), (by decide +kernel), (by decide +kernel)⟩, (by decide +kernel), wd_435, wd_49⟩, wd_433, wd_434⟩
theorem mf_25 : jx_mfV 25 1 := ⟨⟨⟨(by decide +kernel), (by decide +kernel), (by decide +kernel)⟩, (by decide +kernel), wd_439, wd_51⟩, wd_437, wd_438⟩
theorem mf_26 : jx_mfV 26 3 := ⟨⟨⟨(by decide +kernel), (by decide +kernel), (by decide +kernel)⟩, (by decide +kernel), wd_443, wd_49⟩, wd_441, wd_442⟩
theorem mf_27 : jx_mfS 27 1 := ⟨⟨⟨(by decide +kernel), (by decide +kernel), (by decide +kernel)⟩, (by decide +kernel), wd_446, wd_49⟩, wd_445⟩
theorem mf_28 : jx_mfV 28 2 := ⟨⟨⟨(by decide +kernel), (by decide +kernel), (by decide +kernel)⟩, (by decide +kernel), wd_450, wd_52⟩, wd_448, wd_449⟩
theorem mf_29 : jx_mfV 29 3 := ⟨⟨⟨(by decide +kernel), (by decide +kernel), (by decide +kernel)⟩, (by decide +kernel), wd_454, wd_49⟩, wd_452, wd_453⟩
theorem mf_30 : jx_mfV 30 0 := ⟨⟨⟨(by decide +kernel), (by decide +kernel), (by decide +kernel)⟩, (by decide +kernel), wd_458, wd_52⟩, wd_456, wd_457⟩
theorem mf_31 : jx_mfV 31 2 := ⟨⟨⟨(by decide +kernel), (by decide +kernel), (by decide +kernel)⟩, (by decide +kernel), wd_462, wd_52⟩, wd_460, wd_461⟩
theorem mf_32 : jx_mfV 32 5 := ⟨⟨⟨(by decide +kernel), (by decide +kernel), (by decide +kernel)⟩, (by decide +kernel), wd_467, wd_49⟩, wd_465, wd_466⟩
theorem mf_33 : jx_mfV 33 2 := ⟨⟨⟨(by decide +kernel), (by decide +kernel), (by decide +kernel)⟩, (by decide +kernel), wd_471, wd_52⟩, wd_469, wd_470⟩
theorem mf_34 : jx_mfV 34 1 := ⟨⟨⟨(by decide +kernel), (by decide +kernel), (by decide +kernel)⟩, (by decide +kernel), wd_476, wd_49⟩, wd_474, wd_475⟩
theorem mf_35 : jx_mfV 35 1 := ⟨⟨⟨(by decide +kernel), (by decide +kernel), (by decide +kernel)⟩, (by decide +kernel), wd_480, wd_49⟩, wd_479, wd_4⟩
theorem mf_36 : jx_mfV 36 2 := ⟨⟨⟨(by decide +kernel), (by decide +kernel), (by decide +kernel)⟩, (by decide +kernel), wd_484, wd_49⟩, wd_483, wd_5⟩
theorem mf_37 : jx_mfV 37 2 := ⟨⟨⟨(by decide +kernel), (by decide +kernel), (by decide +kernel)⟩, (by decide +kernel), wd_488, wd_49⟩, wd_486, wd_487⟩
theorem mf_38 : jx_mfV 38 1 := ⟨⟨⟨(by decide +kernel), (by decide +kernel), (by decide +kernel)⟩, (by decide +kernel), wd_492, wd_53⟩, wd_490, wd_491⟩
theorem mf_39 : jx_mfV 39 1 := ⟨⟨⟨(by decide +kernel), (by decide +kernel), (by decide +kernel)⟩, (by decide +kernel), wd_497, wd_53⟩, wd_496, wd_6⟩
theorem mf_40 : jx_mfV 40 2 := ⟨⟨⟨(by decide +kernel), (by decide +kernel), (by decide +kernel)⟩, (by decide +kernel), wd_501, wd_53⟩, wd_499, wd_500⟩
theorem mf_41 : jx_mfV 41 2 := ⟨⟨⟨(by decide +kernel), (by decide +kernel), (by decide +kernel)⟩, (by decide +kernel), wd_513, wd_49⟩, wd_511, wd_512⟩
theorem mf_42 : jx_mfV 42 2 := ⟨⟨⟨(by decide +kernel), (by decide +kernel), (by decide +kernel)⟩, (by decide +kernel), wd_517, wd_53⟩, wd_515, wd_516⟩
theorem mf_43 : jx_mfV 43 0 := ⟨⟨⟨(by decide +kernel), (by decide +kernel), (by decide +kernel)⟩, (by decide +kernel), wd_522, wd_49⟩, wd_520, wd_521⟩
theorem mf_44 : jx_mfV 44 1 := ⟨⟨⟨(by decide +kernel), (by decide +kernel), (by decide +kernel)⟩, (by decide +kernel), wd_526, wd_53⟩, wd_524, wd_525⟩
theorem mf_45 : jx_mfV 45 1 := ⟨⟨⟨(by decide +kernel), (by decide +kernel), (by decide +kernel)⟩, (by decide +kernel), wd_530, wd_49⟩, wd_528, wd_529⟩
theorem mf_46 : jx_mfV 46 1 := ⟨⟨⟨(by decide +kernel), (by decide +kernel), (by decide +kernel)⟩, (by decide +kernel), wd_534, wd_53⟩, wd_532, wd_533⟩
theorem mf_47 : jx_mfV 47 2 := ⟨⟨⟨(by decide +kernel), (by decide +kernel), (by decide +kernel)⟩, (by decide +kernel), wd_538, wd_53⟩, wd_536, wd_537⟩
theorem mf_48 : jx_mfV 48 2 := ⟨⟨⟨(by decide +kernel), (by decide +kernel), (by decide +kernel)⟩, (by decide +kernel), wd_542, wd_49⟩, wd_540, wd_541⟩
theorem mf_49 : jx_mfV 49 2 := ⟨⟨⟨(by decide +kernel), (by decide +kernel), (by decide +kernel)⟩, (by decide +kernel), wd_546, wd_53⟩, wd_544, wd_545⟩
theorem mf_50 : jx_mfV 50 2 := ⟨⟨⟨(by decide +kernel), (by decide +kernel), (by decide +kernel)⟩, (by decide +kernel), wd_550, wd_53⟩, wd_548, wd_549⟩
theorem mf_51 : jx_mfV 51 2 := ⟨⟨⟨(by decide +kernel), (by decide +kernel), (by decide +kernel)⟩, (by decide +kernel), wd_554, wd_49⟩, wd_552, wd_553⟩
theorem mf_52 : jx_mfV 52 2 := ⟨⟨⟨(by decide +kernel), (by decide +kernel), (by decide +kernel)⟩, (by decide +kernel), wd_558, wd_53⟩, wd_556, wd_557⟩
theorem mf_53 : jx_mfV 53 2 := ⟨⟨⟨(by decide +kernel), (by decide +kernel), (by decide +kernel)⟩, (by decide +kernel), wd_562, wd_49⟩, wd_560, wd_561⟩
theorem mf_54 : jx_mfV 54 1 := ⟨⟨⟨(by decide +kernel), (by decide +kernel), (by decide +kernel)⟩, (by decide +kernel), wd_566, wd_53⟩, wd_564, wd_565⟩
theorem mf_55 : jx_mfV 55 1 := ⟨⟨⟨(by decide +kernel), (by decide +kernel), (by decide +kernel)⟩, (by decide +kernel), wd_570, wd_53⟩, wd_568, wd_569⟩
theorem mf_56 : jx_mfV 56 0 := ⟨⟨⟨(by decide +kernel), (by decide +kernel), (by decide +kernel)⟩, (by decide +kernel), wd_574, wd_49⟩, wd_572, wd_573⟩
theorem mf_57 : jx_mfV 57 0 := ⟨⟨⟨(by decide +kernel), (by decide +kernel), (by decide +kernel)⟩, (by decide +kernel), wd_578, wd_53⟩, wd_576, wd_577⟩
theorem mf_58 : jx_mfV 58 0 := ⟨⟨⟨(by decide +kernel), (by decide +kernel), (by decide +kernel)⟩, (by decide +kernel), wd_582, wd_49⟩, wd_580, wd_581⟩
theorem mf_59 : jx_mfV 59 0 := ⟨⟨⟨(by decide +kernel), (by decide +kernel), (by decide +kernel)⟩, (by decide +kernel), wd_586, wd_53⟩, wd_584, wd_585⟩
theorem mf_60 : jx_mfV 60 2 := ⟨⟨⟨(by decide +kernel), (by decide +kernel), (by decide +kernel)⟩, (by decide +kernel), wd_590, wd_53⟩, wd_589, wd_7⟩
theorem mf_61 : jx_mfV 61 1 := ⟨⟨⟨(by decide +kernel), (by decide +kernel), (by decide +kernel)⟩, (by decide +kernel), wd_594, wd_49⟩, wd_592, wd_593⟩
theorem mf_62 : jx_mfV 62 2 := ⟨⟨⟨(by decide +kernel), (by decide +kernel), (by decide +kernel)⟩, (by decide +kernel), wd_598, wd_53⟩, wd_596, wd_597⟩
theorem mf_63 : jx_mfS 63 1 := ⟨⟨⟨(by decide +kernel), (by decide +kernel), (by decide +kernel)⟩, (by decide +kernel), wd_601, wd_49⟩, wd_600⟩
theorem mf_64 : jx_mfV 64 2 := ⟨⟨⟨(by decide +kernel), (by decide +kernel), (by decide +kernel)⟩, (by decide +kernel), wd_606, wd_53⟩, wd_605, wd_8⟩
theorem mf_65 : jx_mfV 65 1 := ⟨⟨⟨(by decide +kernel), (by decide +kernel), (by decide +kernel)⟩, (by decide +kernel), wd_611, wd_49⟩, wd_609, wd_610⟩
theorem mf_66 : jx_mfV 66 2 := ⟨⟨⟨(by decide +kernel), (by decide +kernel), (by decide +kernel)⟩, (by decide +kernel), wd_615, wd_54⟩, wd_613, wd_614⟩
theorem mf_67 : jx_mfV 67 3 := ⟨⟨⟨(by decide +kernel), (by decide +kernel), (by decide +kernel)⟩, (by decide +kernel), wd_619, wd_54⟩, wd_618, wd_9⟩
theorem mf_68 : jx_mfS 68 3 := ⟨⟨⟨(by decide +kernel), (by decide +kernel), (by decide +kernel)⟩, (by decide +kernel), wd_622, wd_54⟩, wd_621⟩
theorem mf_69 : jx_mfV 69 1 := ⟨⟨⟨(by decide +kernel), (by decide +kernel), (by decide +kernel)⟩, (by decide +kernel), wd_630, wd_49⟩, wd_628, wd_629⟩
theorem mf_70 : jx_mfV 70 2 := ⟨⟨⟨(by decide +kernel), (by decide +kernel), (by decide +kernel)⟩, (by decide +kernel), wd_634, wd_53⟩, wd_632, wd_633⟩
theorem mf_71 : jx_mfV 71 3 := ⟨⟨⟨(by decide +kernel), (by decide +kernel), (by decide +kernel)⟩, (by decide +kernel), wd_638, wd_55⟩, wd_636, wd_637⟩
theorem mf_72 : jx_mfV 72 3 := ⟨⟨⟨(by decide +kernel), (by decide +kernel), (by decide +kernel)⟩, (by decide +kernel), wd_642, wd_55⟩, wd_641, wd_10⟩
theorem mf_73 : jx_mfV 73 0 := ⟨⟨⟨(by decide +kernel), (by decide +kernel), (by decide +kernel)⟩, (by decide +kernel), wd_648, wd_49⟩, wd_646, wd_647⟩
theorem mf_74 : jx_mfV 74 0 := ⟨⟨⟨(by decide +kernel), (by decide +kernel), (by decide +kernel)⟩, (by decide +kernel), wd_652, wd_49⟩, wd_650, wd_651⟩
theorem mf_75 : jx_mfV 75 1 := ⟨⟨⟨(by decide +kernel), (by decide +kernel), (by decide +kernel)⟩, (by decide +kernel), wd_656, wd_56⟩, wd_654, wd_655⟩
theorem mf_76 : jx_mfV 76 3 := ⟨⟨⟨(by decide +kernel), (by decide +kernel), (by decide +kernel)⟩, (by decide +kernel), wd_660, wd_56⟩, wd_659, wd_11⟩
theorem mf_77 : jx_mfV 77 0 := ⟨⟨⟨(by decide +kernel), (by decide +kernel), (by decide +kernel)⟩, (by decide +kernel), wd_667, wd_49⟩, wd_665, wd_666⟩
theorem mf_78 : jx_mfV 78 1 := ⟨⟨⟨(by decide +kernel), (by decide +kernel), (by decide +kernel)⟩, (by decide +kernel), wd_671, wd_56⟩, wd_669, wd_670⟩
theorem mf_79 : jx_mfV 79 0 := ⟨⟨⟨(by decide +kernel), (by decide +kernel), (by decide +kernel)⟩, (by decide +kernel), wd_676, wd_49⟩, wd_674, wd_675⟩
theorem mf_80 : jx_mfV 80 1 := ⟨⟨⟨(by decide +kernel), (by decide +kernel), (by decide +kernel)⟩, (by decide +kernel), wd_680, wd_56⟩, wd_678, wd_679⟩
theorem mf_81 : jx_mfV 81 2 := ⟨⟨⟨(by decide +kernel), (by decide +kernel), (by decide +kernel)⟩, (by decide +kernel), wd_684, wd_56⟩, wd_683, wd_12⟩
theorem mf_82 : jx_mfV 82 4 := ⟨⟨⟨(by decide +kernel), (by decide +kernel), (by decide +kernel)⟩, (by decide +kernel), wd_688, wd_56⟩, wd_687, wd_13⟩
theorem mf_83 : jx_mfV 83 1 := ⟨⟨⟨(by decide +kernel), (by decide +kernel), (by decide +kernel)⟩, (by decide +kernel), wd_692, wd_49⟩, wd_690, wd_691⟩
theorem mf_84 : jx_mfV 84 1 := ⟨⟨⟨(by decide +kernel), (by decide +kernel), (by decide +kernel)⟩, (by decide +kernel), wd_696, wd_53⟩, wd_694, wd_695⟩
theorem mf_85 : jx_mfV 85 0 := ⟨⟨⟨(by decide +kernel), (by decide +kernel), (by decide +kernel)⟩, (by decide +kernel), wd_700, wd_49⟩, wd_698, wd_699⟩
theorem mf_86 : jx_mfV 86 1 := ⟨⟨⟨(by decide +kernel), (by decide +kernel), (by decide +kernel)⟩, (by decide +kernel), wd_704, wd_57⟩, wd_702, wd_703⟩
theorem mf_87 : jx_mfV 87 2 := ⟨⟨⟨(by decide +kernel), (by decide +kernel), (by decide +kernel)⟩, (by decide +kernel), wd_709, wd_57⟩, wd_708, wd_14⟩
theorem mf_88 : jx_mfV 88 0 := ⟨⟨⟨(by decide +kernel), (by decide +kernel), (by decide +kernel)⟩, (by decide +kernel), wd_713, wd_49⟩, wd_711, wd_712⟩
theorem mf_89 : jx_mfV 89 1 := ⟨⟨⟨(by decide +kernel), (by decide +kernel), (by decide +kernel)⟩, (by decide +kernel), wd_717, wd_53⟩, wd_715, wd_716⟩
theorem mf_90 : jx_mfV 90 0 := ⟨⟨⟨(by decide +kernel), (by decide +kernel), (by decide +kernel)⟩, (by decide +kernel), wd_721, wd_49⟩, wd_719, wd_720⟩
theorem mf_91 : jx_mfV 91 2 := ⟨⟨⟨(by decide +kernel), (by decide +kernel), (by decide +kernel)⟩, (by decide +kernel), wd_725, wd_58⟩, wd_723, wd_724⟩
theorem mf_92 : jx_mfV 92 2 := ⟨⟨⟨(by decide +kernel), (by decide +kernel), (by decide +kernel)⟩, (by decide +kernel), wd_730, wd_58⟩, wd_729, wd_15⟩
theorem mf_93 : jx_mfV 93 0 := ⟨⟨⟨(by decide +kernel), (by decide +kernel), (by decide +kernel)⟩, (by decide +kernel), wd_735, wd_58⟩, wd_734, wd_16⟩
theorem mf_94 : jx_mfV 94 1 := ⟨⟨⟨(by decide +kernel), (by decide +kernel), (by decide +kernel)⟩, (by decide +kernel), wd_739, wd_58⟩, wd_738, wd_17⟩
theorem mf_95 : jx_mfV 95 2 := ⟨⟨⟨(by decide +kernel), (by decide +kernel), (by decide +kernel)⟩, (by decide +kernel), wd_744, wd_58⟩, wd_743, wd_18⟩
theorem mf_96 : jx_mfV 96 1 := ⟨⟨⟨(by decide +kernel), (by decide +kernel), (by decide +kernel)⟩, (by decide +kernel), wd_750, wd_49⟩, wd_748, wd_749⟩
theorem mf_97 : jx_mfV 97 0 := ⟨⟨⟨(by decide +kernel), (by decide +kernel), (by decide +kernel)⟩, (by decide +kernel), wd_754, wd_49⟩, wd_752, wd_753⟩
theorem mf_98 : jx_mfV 98 2 := ⟨⟨⟨(by decide +kernel), (by decide +kernel), (by decide +kernel)⟩, (by decide +kernel), wd_758, wd_53⟩, wd_756, wd_757⟩
theorem mf_99 : jx_mfV 99 2 := ⟨⟨⟨(by decide +kernel), (by decide +kernel), (by decide +kernel)⟩, (by decide +kernel), wd_762, wd_49⟩, wd_760, wd_761⟩
theorem mf_100 : jx_mfV 100 3 := ⟨⟨⟨(by decide +kernel), (by decide +kernel), (by decide +kernel)⟩, (by decide +kernel), wd_766, wd_50⟩, wd_764, wd_765⟩
theorem mf_101 : jx_mfV 101 2 := ⟨⟨⟨(by decide +kernel), (by decide +kernel), (by decide +kernel)⟩, (by decide +kernel), wd_770, wd_50⟩, wd_769, wd_19⟩
theorem mf_102 : jx_mfV 102 1 := ⟨⟨⟨(by decide +kernel), (by decide +kernel), (by decide +kernel)⟩, (by decide +kernel), wd_774, wd_49⟩, wd_772, wd_773⟩
theorem mf_103 : jx_mfS 103 1 := ⟨⟨⟨(by decide +kernel), (by decide +kernel), (by decide +kernel)⟩, (by decide +kernel), wd_777, wd_49⟩, wd_776⟩
theorem mf_104 : jx_mfV 104 0 := ⟨⟨⟨(by decide +kernel), (by decide +kernel), (by decide +kernel)⟩, (by decide +kernel), wd_782, wd_49⟩, wd_781, wd_20⟩
theorem mf_105 : jx_mfV 105 1 := ⟨⟨⟨(by decide +kernel), (by decide +kernel), (by decide +kernel)⟩, (by decide +kernel), wd_786, wd_49⟩, wd_784, wd_785⟩
theorem mf_106 : jx_mfV 106 2 := ⟨⟨⟨(by decide +kernel), (by decide +kernel), (by decide +kernel)⟩, (by decide +kernel), wd_790, wd_49⟩, wd_788, wd_789⟩
theorem mf_107 : jx_mfS 107 2 := ⟨⟨⟨(by decide +kernel), (by decide +kernel), (by decide +kernel)⟩, (by decide +kernel), wd_795, wd_49⟩, wd_794⟩
theorem mf_108 : jx_mfV 108 1 := ⟨⟨⟨(by decide +kernel), (by decide +kernel), (by decide +kernel)⟩, (by decide +kernel), wd_799, wd_49⟩, wd_797, wd_798⟩
theorem mf_109 : jx_mfV 109 0 := ⟨⟨⟨(by decide +kernel), (by decide +kernel), (by decide +kernel)⟩, (by decide +kernel), wd_803, wd_50⟩, wd_801, wd_802⟩
theorem mf_110 : jx_mfV 110 0 := ⟨⟨⟨(by decide +kernel), (by decide +kernel), (by decide +kernel)⟩, (by decide +kernel), wd_887, wd_59⟩, wd_885, wd_886⟩
theorem mf_111 : jx_mfV 111 1 := ⟨⟨⟨(by decide +kernel), (by decide +kernel), (by decide +kernel)⟩, (by decide +kernel), wd_891, wd_59⟩, wd_890, wd_21⟩
theorem mf_112 : jx_mfV 112 2 := ⟨⟨⟨(by decide +kernel), (by decide +kernel), (by decide +kernel)⟩, (by decide +kernel), wd_895, wd_59⟩, wd_894, wd_22⟩
theorem mf_113 : jx_mfV 113 1 := ⟨⟨⟨(by decide +kernel), (by decide +kernel), (by decide +kernel)⟩, (by decide +kernel), wd_899, wd_59⟩, wd_897, wd_898⟩
theorem mf_114 : jx_mfV 114 0 := ⟨⟨⟨(by decide +kernel), (by decide +kernel), (by decide +kernel)⟩, (by decide +kernel), wd_903, wd_59⟩, wd_902, wd_23⟩
theorem mf_115 : jx_mfV 115 2 := ⟨⟨⟨(by decide +kernel), (by decide +kernel), (by decide +kernel)⟩, (by decide +kernel), wd_907, wd_59⟩, wd_906, wd_24⟩
theorem mf_116 : jx_mfV 116 0 := ⟨⟨⟨(by decide +kernel), (by decide +kernel), (by decide +kernel)⟩, (by decide +kernel), wd_911, wd_59⟩, wd_909, wd_910⟩
theorem mf_117 : jx_mfV 117 2 := ⟨⟨⟨(by decide +kernel), (by decide +kernel), (by decide +kernel)⟩, (by decide +kernel), wd_915, wd_59⟩, wd_913, wd_914⟩
theorem mf_118 : jx_mfV 118 1 := ⟨⟨⟨(by decide +kernel), (by decide +kernel), (by decide +kernel)⟩, (by decide +kernel), wd_919, wd_59⟩, wd_918, wd_25⟩
theorem mf_119 : jx_mfV 119 2 := ⟨⟨⟨(by decide +kernel), (by decide +kernel), (by decide +kernel)⟩, (by decide +kernel), wd_923, wd_59⟩, wd_922, wd_26⟩
theorem mf_120 : jx_mfV 120 3 := ⟨⟨⟨(by decide +kernel), (by decide +kernel), (by decide +kernel)⟩, (by decide +kernel), wd_927, wd_59⟩, wd_925, wd_926⟩
theorem mf_121 : jx_mfV 121 1 := ⟨⟨⟨(by decide +kernel), (by decide +kernel), (by decide +kernel)⟩, (by decide +kernel), wd_931, wd_59⟩, wd_930, wd_27⟩
theorem mf_122 : jx_mfV 122 1 := ⟨⟨⟨(by decide +kernel), (by decide +kernel), (by decide +kernel)⟩, (by decide +kernel), wd_935, wd_59⟩, wd_933, wd_934⟩
theorem mf_123 : jx_mfV 123 1 := ⟨⟨⟨(by decide +kernel), (by decide +kernel), (by decide +kernel)⟩, (by decide +kernel), wd_939, wd_59⟩, wd_938, wd_28⟩
theorem mf_124 : jx_mfV 124 2 := ⟨⟨⟨(by decide +kernel), (by decide +kernel), (by decide +kernel)⟩, (by decide +kernel), wd_943, wd_59⟩, wd_941, wd_942⟩
theorem mf_125 : jx_mfS 125 3 := ⟨⟨⟨(by decide +kernel), (by decide +kernel), (by decide +kernel)⟩, (by decide +kernel), wd_946, wd_59⟩, wd_945⟩
theorem mf_126 : jx_mfV 126 2 := ⟨⟨⟨(by decide +kernel), (by decide +kernel), (by decide +kernel)⟩, (by decide +kernel), wd_950, wd_59⟩, wd_948, wd_949⟩
theorem mf_127 : jx_mfV 127 3 := ⟨⟨⟨(by decide +kernel), (by decide +kernel), (by decide +kernel)⟩, (by decide +kernel), wd_954, wd_59⟩, wd_952, wd_953⟩
theorem mf_128 : jx_mfS 128 1 := ⟨⟨⟨(by decide +kernel), (by decide +kernel), (by decide +kernel)⟩, (by decide +kernel), wd_957, wd_59⟩, wd_956⟩
theorem mf_129 : jx_mfV 129 3 := ⟨⟨⟨(by decide +kernel), (by decide +kernel), (by decide +kernel)⟩, (by decide +kernel), wd_961, wd_59⟩, wd_959, wd_960⟩
theorem mf_130 : jx_mfV 130 5 := ⟨⟨⟨(by decide +kernel), (by decide +kernel), (by decide +kernel)⟩, (by decide +kernel), wd_965, wd_59⟩, wd_963, wd_964⟩
theorem mf_131 : jx_mfV 131 3 := ⟨⟨⟨(by decide +kernel), (by decide +kernel), (by decide +kernel)⟩, (by decide +kernel), wd_969, wd_59⟩, wd_968, wd_29⟩
theorem mf_132 : jx_mfV 132 1 := ⟨⟨⟨(by decide +kernel), (by decide +kernel), (by decide +kernel)⟩, (by decide +kernel), wd_973, wd_59⟩, wd_971, wd_972⟩
theorem mf_133 : jx_mfV 133 2 := ⟨⟨⟨(by decide +kernel), (by decide +kernel), (by decide +kernel)⟩, (by decide +kernel), wd_977, wd_59⟩, wd_975, wd_976⟩
theorem mf_134 : jx_mfV 134 2 := ⟨⟨⟨(by decide +kernel), (by decide +kernel), (by decide +kernel)⟩, (by decide +kernel), wd_981, wd_59⟩, wd_980, wd_30⟩
theorem mf_135 : jx_mfV 135 0 := ⟨⟨⟨(by decide +kernel), (by decide +kernel), (by decide +kernel)⟩, (by decide +kernel), wd_985, wd_59⟩, wd_984, wd_31⟩
theorem mf_136 : jx_mfS 136 2 := ⟨⟨⟨(by decide +kernel), (by decide +kernel), (by decide +kernel)⟩, (by decide +kernel), wd_988, wd_59⟩, wd_987⟩
theorem mf_137 : jx_mfV 137 0 := ⟨⟨⟨(by decide +kernel), (by decide +kernel), (by decide +kernel)⟩, (by decide +kernel), wd_992, wd_59⟩, wd_991, wd_32⟩
theorem mf_138 : jx_mfV 138 3 := ⟨⟨⟨(by decide +kernel), (by decide +kernel), (by decide +kernel)⟩, (by decide +kernel), wd_996, wd_59⟩, wd_995, wd_33⟩
theorem mf_139 : jx_mfV 139 2 := ⟨⟨⟨(by decide +kernel), (by decide +kernel), (by decide +kernel)⟩, (by decide +kernel), wd_1000, wd_59⟩, wd_998, wd_999⟩
theorem mf_140 : jx_mfS 140 1 := ⟨⟨⟨(by decide +kernel), (by decide +kernel), (by decide +kernel)⟩, (by decide +kernel), wd_1003, wd_59⟩, wd_1002⟩
theorem mf_141 : jx_mfV 141 0 := ⟨⟨⟨(by decide +kernel), (by decide +kernel), (by decide +kernel)⟩, (by decide +kernel), wd_1007, wd_59⟩, wd_1005, wd_1006⟩
theorem mf_142 : jx_mfV 142 2 := ⟨⟨⟨(by decide +kernel), (by decide +kernel), (by decide +kernel)⟩, (by decide +kernel), wd_1011, wd_59⟩, wd_1010, wd_34⟩
theorem mf_143 : jx_mfV 143 1 := ⟨⟨⟨(by decide +kernel), (by decide +kernel), (by decide +kernel)⟩, (by decide +kernel), wd_1015, wd_59⟩, wd_1013, wd_1014⟩
theorem mf_144 : jx_mfV 144 2 := ⟨⟨⟨(by decide +kernel), (by decide +kernel), (by decide +kernel)⟩, (by decide +kernel), wd_1020, wd_59⟩, wd_1018, wd_1019⟩
theorem mf_145 : jx_mfV 145 3 := ⟨⟨⟨(by decide +kernel), (by decide +kernel), (by decide +kernel)⟩, (by decide +kernel), wd_1024, wd_59⟩, wd_1023, wd_35⟩
theorem mf_146 : jx_mfV 146 2 := ⟨⟨⟨(by decide +kernel), (by decide +kernel), (by decide +kernel)⟩, (by decide +kernel), wd_1028, wd_59⟩, wd_1026, wd_1027⟩
theorem mf_147 : jx_mfV 147 2 := ⟨⟨⟨(by decide +kernel), (by decide +kernel), (by decide +kernel)⟩, (by decide +kernel), wd_1032, wd_59⟩, wd_1030, wd_1031⟩
theorem mf_148 : jx_mfV 148 2 := ⟨⟨⟨(by decide +kernel), (by decide +kernel), (by decide +kernel)⟩, (by decide +kernel), wd_1036, wd_59⟩, wd_1035, wd_36⟩
theorem mf_149 : jx_mfV 149 0 := ⟨⟨⟨(by decide +kernel), (by decide +kernel), (by decide +kernel)⟩, (by decide +kernel), wd_1040, wd_59⟩, wd_1038, wd_1039⟩
theorem mf_150 : jx_mfV 150 0 := ⟨⟨⟨(by decide +kernel), (by decide +kernel), (by decide +kernel)⟩, (by decide +kernel), wd_1044, wd_59⟩, wd_1042, wd_1043⟩
theorem mf_151 : jx_mfV 151 1 := ⟨⟨⟨(by decide +kernel), (by decide +kernel), (by decide +kernel)⟩, (by decide +kernel), wd_1048, wd_59⟩, wd_1046, wd_1047⟩
theorem mf_152 : jx_mfV 152 2 := ⟨⟨⟨(by decide +kernel), (by decide +kernel), (by decide +kernel)⟩, (by decide +kernel), wd_1052, wd_59⟩, wd_1051, wd_37⟩
theorem mf_153 : jx_mfV 153 1 := ⟨⟨⟨(by decide +kernel), (by decide +kernel), (by decide +kernel)⟩, (by decide +kernel), wd_1056, wd_59⟩, wd_1054, wd_1055⟩
theorem mf_154 : jx_mfV 154 1 := ⟨⟨⟨(by decide +kernel), (by decide +kernel), (by decide +kernel)⟩, (by decide +kernel), wd_1060, wd_59⟩, wd_1058, wd_1059⟩
theorem mf_155 : jx_mfV 155 1 := ⟨⟨⟨(by decide +kernel), (by decide +kernel), (by decide +kernel)⟩, (by decide +kernel), wd_1064, wd_59⟩, wd_1063, wd_38⟩
theorem mf_156 : jx_mfV 156 0 := ⟨⟨⟨(by decide +kernel), (by decide +kernel), (by decide +kernel)⟩, (by decide +kernel), wd_1068, wd_59⟩, wd_1066, wd_1067⟩
theorem mf_157 : jx_mfV 157 0 := ⟨⟨⟨(by decide +kernel), (by decide +kernel), (by decide +kernel)⟩, (by decide +kernel), wd_1072, wd_59⟩, wd_1070, wd_1071⟩
theorem mf_158 : jx_mfV 158 0 := ⟨⟨⟨(by decide +kernel), (by decide +kernel), (by decide +kernel)⟩, (by decide +kernel), wd_1076, wd_59⟩, wd_1075, wd_39⟩
theorem mf_159 : jx_mfV 159 0 := ⟨⟨⟨(by decide +kernel), (by decide +kernel), (by decide +kernel)⟩, (by decide +kernel), wd_1080, wd_59⟩, wd_1078, wd_1079⟩
theorem mf_160 : jx_mfV 160 1 := ⟨⟨⟨(by decide +kernel), (by decide +kernel), (by decide +kernel)⟩, (by decide +kernel), wd_1084, wd_59⟩, wd_1083, wd_40⟩
theorem mf_161 : jx_mfV 161 0 := ⟨⟨⟨(by decide +kernel), (by decide +kernel), (by decide +kernel)⟩, (by decide +kernel), wd_1088, wd_59⟩, wd_1086, wd_1087⟩
theorem mf_162 : jx_mfV 162 1 := ⟨⟨⟨(by decide +kernel), (by decide +kernel), (by decide +kernel)⟩, (by decide +kernel), wd_1092, wd_59⟩, wd_1091, wd_41⟩
theorem mf_163 : jx_mfV 163 1 := ⟨⟨⟨(by decide +kernel), (by decide +kernel), (by decide +kernel)⟩, (by decide +kernel), wd_1096, wd_59⟩, wd_1094, wd_1095⟩
theorem mf_164 : jx_mfV 164 0 := ⟨⟨⟨(by decide +kernel), (by decide +kernel), (by decide +kernel)⟩, (by decide +kernel), wd_1100, wd_59⟩, wd_1098, wd_1099⟩
theorem mf_165 : jx_mfV 165 0 := ⟨⟨⟨(by decide +kernel), (by decide +kernel), (by decide +kernel)⟩, (by decide +kernel), wd_1104, wd_59⟩, wd_1103, wd_42⟩
theorem mf_166 : jx_mfV 166 0 := ⟨⟨⟨(by decide +kernel), (by decide +kernel), (by decide +kernel)⟩, (by decide +kernel), wd_1108, wd_59⟩, wd_1106, wd_1107⟩
theorem mf_167 : jx_mfV 167 1 := ⟨⟨⟨(by decide +kernel), (by decide +kernel), (by decide +kernel)⟩, (by decide +kernel), wd_1112, wd_59⟩, wd_1111, wd_43⟩
theorem mf_168 : jx_mfV 168 0 := ⟨⟨⟨(by decide +kernel), (by decide +kernel), (by decide +kernel)⟩, (by decide +kernel), wd_1116, wd_59⟩, wd_1114, wd_1115⟩
theorem mf_169 : jx_mfV 169 0 := ⟨⟨⟨(by decide +kernel), (by decide +kernel), (by decide +kernel)⟩, (by decide +kernel), wd_1120, wd_59⟩, wd_1119, wd_44⟩
theorem mf_170 : jx_mfV 170 0 := ⟨⟨⟨(by decide +kernel), (by decide +kernel), (by decide +kernel)⟩, (by decide +kernel), wd_1124, wd_59⟩, wd_1123, wd_45⟩
theorem mf_171 : jx_mfV 171 1 := ⟨⟨⟨(by decide +kernel), (by decide +kernel), (by decide +kernel)⟩, (by decide +kernel), wd_1128, wd_59⟩, wd_1127, wd_46⟩
theorem mf_172 : jx_mfV 172 2 := ⟨⟨⟨(by decide +kernel), (by decide +kernel), (by decide +kernel)⟩, (by decide +kernel), wd_1132, wd_59⟩, wd_1131, wd_47⟩
theorem mf_173 : jx_mfV 173 1 := ⟨⟨⟨(by decide +kernel), (by decide +kernel), (by decide +kernel)⟩, (by decide +kernel), wd_1137, wd_59⟩, wd_1135, wd_1136⟩
theorem mf_174 : jx_mfV 174 0 := ⟨⟨⟨(by decide +kernel), (by decide +kernel), (by decide +kernel)⟩, (by decide +kernel), wd_1141, wd_59⟩, wd_1139, wd_1140⟩
theorem mf_175 : jx_mfV 175 2 := ⟨⟨⟨(by decide +kernel), (by decide +kernel), (by decide +kernel)⟩, (by decide +kernel), wd_1145, wd_59⟩, wd_1143, wd_1144⟩
theorem mf_176 : jx_mfV 176 1 := ⟨⟨⟨(by decide +kernel), (by decide +kernel), (by decide +kernel)⟩, (by decide +kernel), wd_1149, wd_59⟩, wd_1147, wd_1148⟩
theorem mf_177 : jx_mfS 177 1 := ⟨⟨⟨(by decide +kernel), (by decide +kernel), (by decide +kernel)⟩, (by decide +kernel), wd_1152, wd_59⟩, wd_1151⟩
theorem mf_178 : jx_mfV 178 1 := ⟨⟨⟨(by decide +kernel), (by decide +kernel), (by decide +kernel)⟩, (by decide +kernel), wd_1156, wd_59⟩, wd_1154, wd_1155⟩
theorem mf_179 : jx_mfV 179 2 := ⟨⟨⟨(by decide +kernel), (by decide +kernel), (by decide +kernel)⟩, (by decide +kernel), wd_1160, wd_59⟩, wd_1158, wd_1159⟩
theorem mf_180 : jx_mfV 180 1 := ⟨⟨⟨(by decide +kernel), (by decide +kernel), (by decide +kernel)⟩, (by decide +kernel), wd_1164, wd_59⟩, wd_1162, wd_1163⟩
def jx_mn (x y : Int32) : Int32 := if y < x then y else x
def jx_mx (x y : Int32) : Int32 := if x < y then y else x
def jx_m2 (f : Int32 → Int32 → Int32) (nx : Nat) : jx_A := fun k l s h => match s with
  | .inl (.inl y) :: .inl (.inl x) :: s => bif Nat.ble (jx_ct s) 8 then k nx l (vi (f x y) :: s) h else none
  | _ => none
theorem tl_m2 {f : Int32 → Int32 → Int32} {nx : Nat} : jx_tl (jx_m2 f nx) := by
  intro l s h
  rcases s with _ | ⟨(x | x) | (_ | ⟨c, i⟩), _ | ⟨(y | y) | (_ | ⟨d, j⟩), s⟩⟩ <;> first | exact tf_none | exact tf_cond tf_k tf_none
section
variable {cc : ByteArray} {nL : Nat} {own : String} {ret : Option FieldType} {D : jx_D} {pc : Nat}
theorem sd_mmin {idx : Nat} (hd : decode cc pc = .ok (.invokestatic idx, 3)) (hlk : Cond.methodLink own idx Lib.Math.min.name ∈ jx_tg) (hst : Cond.static Lib.Math.min.name ∈ jx_tg) (hini : Cond.initialized "java/lang/Math" ∈ jx_tg) (hcd : Cond.code Lib.Math.min.name Lib.Math.min.code 2 (some .int) ∈ jx_tg) : jx_Snd cc nL own ret D pc (jx_m2 jx_mn (pc + 3)) := by
  intro p l e R s m args below meth cd w r C k lo st h hk ha H locs ls hP hS hl o1 o2
  obtain ⟨⟨hx, hb, hml, hown, hts⟩, hr, hlocks, hw, hK, d, hR, hD⟩ := C
  unfold jx_m2 at ha
  split at ha
  · rename_i y x st
    cases hct : Nat.ble (jx_ct st) 8 with
    | false => rw [hct] at ha; cases ha
    | true =>
      rw [hct] at ha
      have h8 := Nat.le_of_ble_eq_true hct
      refine va_mmin hx hb (by rw [hml]; exact hl.2.1.symm) hown (hts _ hlk) (hts _ hst) (hts _ hini) (hts _ hcd) (by rw [hR]; exact Nat.succ_le_succ (Nat.zero_le _)) ?_ (Nat.zero_le _) (Nat.zero_le _) hd (hk _ _ _ _ ha H locs ls hP hS hl o1 (jx_oc trivial (jx_o1 (jx_o1 o2))))
      rw [hR, jx_ct_sum]
      show _ ≤ 64 * (d + 1)
      omega
  · cases ha
theorem sd_mmax {idx : Nat} (hd : decode cc pc = .ok (.invokestatic idx, 3)) (hlk : Cond.methodLink own idx Lib.Math.max.name ∈ jx_tg) (hst : Cond.static Lib.Math.max.name ∈ jx_tg) (hini : Cond.initialized "java/lang/Math" ∈ jx_tg) (hcd : Cond.code Lib.Math.max.name Lib.Math.max.code 2 (some .int) ∈ jx_tg) : jx_Snd cc nL own ret D pc (jx_m2 jx_mx (pc + 3)) := by
  intro p l e R s m args below meth cd w r C k lo st h hk ha H locs ls hP hS hl o1 o2
  obtain ⟨⟨hx, hb, hml, hown, hts⟩, hr, hlocks, hw, hK, d, hR, hD⟩ := C
  unfold jx_m2 at ha
  split at ha
  · rename_i y x st
    cases hct : Nat.ble (jx_ct st) 8 with
    | false => rw [hct] at ha; cases ha
    | true =>
      rw [hct] at ha
      have h8 := Nat.le_of_ble_eq_true hct
      refine va_mmax hx hb (by rw [hml]; exact hl.2.1.symm) hown (hts _ hlk) (hts _ hst) (hts _ hini) (hts _ hcd) (by rw [hR]; exact Nat.succ_le_succ (Nat.zero_le _)) ?_ (Nat.zero_le _) (Nat.zero_le _) hd (hk _ _ _ _ ha H locs ls hP hS hl o1 (jx_oc trivial (jx_o1 (jx_o1 o2))))
      rw [hR, jx_ct_sum]
      show _ ≤ 64 * (d + 1)
      omega
  · cases ha
end
