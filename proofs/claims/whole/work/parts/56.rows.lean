/-! rows of memory that is the same as g0 but for scratch, by the reference's rows of g0 -/
theorem rE_14 {g0 g : qz_G} (hR : Rel g0) (hs : Same g0 g) : g.1 14 = g0.1 79 := (hs.1 14 (by decide)).trans hR.1.1
theorem rE_15 {g0 g : qz_G} (hR : Rel g0) (hs : Same g0 g) : g.1 15 = g0.1 81 := (hs.1 15 (by decide)).trans hR.1.2.1
theorem rE_16 {g0 g : qz_G} (hR : Rel g0) (hs : Same g0 g) : g.1 16 = g0.1 82 := (hs.1 16 (by decide)).trans hR.1.2.2.1
theorem rE_17 {g0 g : qz_G} (hR : Rel g0) (hs : Same g0 g) : g.1 17 = g0.1 83 := (hs.1 17 (by decide)).trans hR.1.2.2.2.1
theorem rE_46 {g0 g : qz_G} (hR : Rel g0) (hs : Same g0 g) : g.1 46 = g0.1 84 := (hs.1 46 (by decide)).trans hR.1.2.2.2.2.1
theorem rE_18 {g0 g : qz_G} (hR : Rel g0) (hs : Same g0 g) : g.1 18 = g0.1 85 := (hs.1 18 (by decide)).trans hR.1.2.2.2.2.2.1
theorem rE_19 {g0 g : qz_G} (hR : Rel g0) (hs : Same g0 g) : g.1 19 = g0.1 86 := (hs.1 19 (by decide)).trans hR.1.2.2.2.2.2.2.1
theorem rE_20 {g0 g : qz_G} (hR : Rel g0) (hs : Same g0 g) : g.1 20 = g0.1 87 := (hs.1 20 (by decide)).trans hR.1.2.2.2.2.2.2.2.1
theorem rE_21 {g0 g : qz_G} (hR : Rel g0) (hs : Same g0 g) : g.1 21 = g0.1 88 := (hs.1 21 (by decide)).trans hR.1.2.2.2.2.2.2.2.2.1
theorem rE_22 {g0 g : qz_G} (hR : Rel g0) (hs : Same g0 g) : g.1 22 = g0.1 89 := (hs.1 22 (by decide)).trans hR.1.2.2.2.2.2.2.2.2.2.1
theorem rE_23 {g0 g : qz_G} (hR : Rel g0) (hs : Same g0 g) : g.1 23 = g0.1 90 := (hs.1 23 (by decide)).trans hR.1.2.2.2.2.2.2.2.2.2.2.1
theorem rE_24 {g0 g : qz_G} (hR : Rel g0) (hs : Same g0 g) : g.1 24 = g0.1 91 := (hs.1 24 (by decide)).trans hR.1.2.2.2.2.2.2.2.2.2.2.2.1
theorem rE_25 {g0 g : qz_G} (hR : Rel g0) (hs : Same g0 g) : g.1 25 = g0.1 92 := (hs.1 25 (by decide)).trans hR.1.2.2.2.2.2.2.2.2.2.2.2.2.1
theorem rE_26 {g0 g : qz_G} (hR : Rel g0) (hs : Same g0 g) : g.1 26 = g0.1 93 := (hs.1 26 (by decide)).trans hR.1.2.2.2.2.2.2.2.2.2.2.2.2.2.1
theorem rE_27 {g0 g : qz_G} (hR : Rel g0) (hs : Same g0 g) : g.1 27 = g0.1 94 := (hs.1 27 (by decide)).trans hR.1.2.2.2.2.2.2.2.2.2.2.2.2.2.2.1
theorem rE_28 {g0 g : qz_G} (hR : Rel g0) (hs : Same g0 g) : g.1 28 = g0.1 95 := (hs.1 28 (by decide)).trans hR.1.2.2.2.2.2.2.2.2.2.2.2.2.2.2.2.1
theorem rE_29 {g0 g : qz_G} (hR : Rel g0) (hs : Same g0 g) : g.1 29 = g0.1 96 := (hs.1 29 (by decide)).trans hR.1.2.2.2.2.2.2.2.2.2.2.2.2.2.2.2.2.1
theorem rE_30 {g0 g : qz_G} (hR : Rel g0) (hs : Same g0 g) : g.1 30 = g0.1 97 := (hs.1 30 (by decide)).trans hR.1.2.2.2.2.2.2.2.2.2.2.2.2.2.2.2.2.2.1
theorem rE_31 {g0 g : qz_G} (hR : Rel g0) (hs : Same g0 g) : g.1 31 = g0.1 98 := (hs.1 31 (by decide)).trans hR.1.2.2.2.2.2.2.2.2.2.2.2.2.2.2.2.2.2.2.1
theorem rE_34 {g0 g : qz_G} (hR : Rel g0) (hs : Same g0 g) : g.1 34 = g0.1 122 := (hs.1 34 (by decide)).trans hR.1.2.2.2.2.2.2.2.2.2.2.2.2.2.2.2.2.2.2.2.1
theorem rE_35 {g0 g : qz_G} (hR : Rel g0) (hs : Same g0 g) : g.1 35 = g0.1 123 := (hs.1 35 (by decide)).trans hR.1.2.2.2.2.2.2.2.2.2.2.2.2.2.2.2.2.2.2.2.2.1
theorem rE_36 {g0 g : qz_G} (hR : Rel g0) (hs : Same g0 g) : g.1 36 = g0.1 124 := (hs.1 36 (by decide)).trans hR.1.2.2.2.2.2.2.2.2.2.2.2.2.2.2.2.2.2.2.2.2.2.1
theorem rE_37 {g0 g : qz_G} (hR : Rel g0) (hs : Same g0 g) : g.1 37 = g0.1 125 := (hs.1 37 (by decide)).trans hR.1.2.2.2.2.2.2.2.2.2.2.2.2.2.2.2.2.2.2.2.2.2.2.1
theorem rE_38 {g0 g : qz_G} (hR : Rel g0) (hs : Same g0 g) : g.1 38 = g0.1 126 := (hs.1 38 (by decide)).trans hR.1.2.2.2.2.2.2.2.2.2.2.2.2.2.2.2.2.2.2.2.2.2.2.2.1
theorem rE_39 {g0 g : qz_G} (hR : Rel g0) (hs : Same g0 g) : g.1 39 = g0.1 127 := (hs.1 39 (by decide)).trans hR.1.2.2.2.2.2.2.2.2.2.2.2.2.2.2.2.2.2.2.2.2.2.2.2.2.1
theorem rE_40 {g0 g : qz_G} (hR : Rel g0) (hs : Same g0 g) : g.1 40 = g0.1 128 := (hs.1 40 (by decide)).trans hR.1.2.2.2.2.2.2.2.2.2.2.2.2.2.2.2.2.2.2.2.2.2.2.2.2.2.1
theorem rE_41 {g0 g : qz_G} (hR : Rel g0) (hs : Same g0 g) : g.1 41 = g0.1 129 := (hs.1 41 (by decide)).trans hR.1.2.2.2.2.2.2.2.2.2.2.2.2.2.2.2.2.2.2.2.2.2.2.2.2.2.2.1
theorem rE_42 {g0 g : qz_G} (hR : Rel g0) (hs : Same g0 g) : g.1 42 = g0.1 130 := (hs.1 42 (by decide)).trans hR.1.2.2.2.2.2.2.2.2.2.2.2.2.2.2.2.2.2.2.2.2.2.2.2.2.2.2.2.1
theorem rE_43 {g0 g : qz_G} (hR : Rel g0) (hs : Same g0 g) : g.1 43 = g0.1 131 := (hs.1 43 (by decide)).trans hR.1.2.2.2.2.2.2.2.2.2.2.2.2.2.2.2.2.2.2.2.2.2.2.2.2.2.2.2.2.1
theorem rE_44 {g0 g : qz_G} (hR : Rel g0) (hs : Same g0 g) : g.1 44 = g0.1 132 := (hs.1 44 (by decide)).trans hR.1.2.2.2.2.2.2.2.2.2.2.2.2.2.2.2.2.2.2.2.2.2.2.2.2.2.2.2.2.2.1
theorem rE_45 {g0 g : qz_G} (hR : Rel g0) (hs : Same g0 g) : g.1 45 = g0.1 133 := (hs.1 45 (by decide)).trans hR.1.2.2.2.2.2.2.2.2.2.2.2.2.2.2.2.2.2.2.2.2.2.2.2.2.2.2.2.2.2.2.1
theorem rE_47 {g0 g : qz_G} (hR : Rel g0) (hs : Same g0 g) : g.1 47 = g0.1 108 := (hs.1 47 (by decide)).trans hR.1.2.2.2.2.2.2.2.2.2.2.2.2.2.2.2.2.2.2.2.2.2.2.2.2.2.2.2.2.2.2.2.1
theorem rE_48 {g0 g : qz_G} (hR : Rel g0) (hs : Same g0 g) : g.1 48 = g0.1 109 := (hs.1 48 (by decide)).trans hR.1.2.2.2.2.2.2.2.2.2.2.2.2.2.2.2.2.2.2.2.2.2.2.2.2.2.2.2.2.2.2.2.2.1
theorem rE_49 {g0 g : qz_G} (hR : Rel g0) (hs : Same g0 g) : g.1 49 = g0.1 110 := (hs.1 49 (by decide)).trans hR.1.2.2.2.2.2.2.2.2.2.2.2.2.2.2.2.2.2.2.2.2.2.2.2.2.2.2.2.2.2.2.2.2.2.1
theorem rE_50 {g0 g : qz_G} (hR : Rel g0) (hs : Same g0 g) : g.1 50 = g0.1 111 := (hs.1 50 (by decide)).trans hR.1.2.2.2.2.2.2.2.2.2.2.2.2.2.2.2.2.2.2.2.2.2.2.2.2.2.2.2.2.2.2.2.2.2.2.1
theorem rE_61 {g0 g : qz_G} (hR : Rel g0) (hs : Same g0 g) : g.1 61 = g0.1 120 := (hs.1 61 (by decide)).trans hR.1.2.2.2.2.2.2.2.2.2.2.2.2.2.2.2.2.2.2.2.2.2.2.2.2.2.2.2.2.2.2.2.2.2.2.2.1
theorem rE_62 {g0 g : qz_G} (hR : Rel g0) (hs : Same g0 g) : g.1 62 = g0.1 121 := (hs.1 62 (by decide)).trans hR.1.2.2.2.2.2.2.2.2.2.2.2.2.2.2.2.2.2.2.2.2.2.2.2.2.2.2.2.2.2.2.2.2.2.2.2.2.1
theorem rE_67 {g0 g : qz_G} (hR : Rel g0) (hs : Same g0 g) : g.1 67 = g0.1 134 := (hs.1 67 (by decide)).trans hR.1.2.2.2.2.2.2.2.2.2.2.2.2.2.2.2.2.2.2.2.2.2.2.2.2.2.2.2.2.2.2.2.2.2.2.2.2.2.1
theorem rE_68 {g0 g : qz_G} (hR : Rel g0) (hs : Same g0 g) : g.1 68 = g0.1 135 := (hs.1 68 (by decide)).trans hR.1.2.2.2.2.2.2.2.2.2.2.2.2.2.2.2.2.2.2.2.2.2.2.2.2.2.2.2.2.2.2.2.2.2.2.2.2.2.2.1
theorem rE_69 {g0 g : qz_G} (hR : Rel g0) (hs : Same g0 g) : g.1 69 = g0.1 136 := (hs.1 69 (by decide)).trans hR.1.2.2.2.2.2.2.2.2.2.2.2.2.2.2.2.2.2.2.2.2.2.2.2.2.2.2.2.2.2.2.2.2.2.2.2.2.2.2.2.1
theorem rE_70 {g0 g : qz_G} (hR : Rel g0) (hs : Same g0 g) : g.1 70 = g0.1 137 := (hs.1 70 (by decide)).trans hR.1.2.2.2.2.2.2.2.2.2.2.2.2.2.2.2.2.2.2.2.2.2.2.2.2.2.2.2.2.2.2.2.2.2.2.2.2.2.2.2.2.1
theorem rE_71 {g0 g : qz_G} (hR : Rel g0) (hs : Same g0 g) : g.1 71 = g0.1 138 := (hs.1 71 (by decide)).trans hR.1.2.2.2.2.2.2.2.2.2.2.2.2.2.2.2.2.2.2.2.2.2.2.2.2.2.2.2.2.2.2.2.2.2.2.2.2.2.2.2.2.2.1
theorem rE_72 {g0 g : qz_G} (hR : Rel g0) (hs : Same g0 g) : g.1 72 = g0.1 139 := (hs.1 72 (by decide)).trans hR.1.2.2.2.2.2.2.2.2.2.2.2.2.2.2.2.2.2.2.2.2.2.2.2.2.2.2.2.2.2.2.2.2.2.2.2.2.2.2.2.2.2.2.1
theorem rE_73 {g0 g : qz_G} (hR : Rel g0) (hs : Same g0 g) : g.1 73 = g0.1 140 := (hs.1 73 (by decide)).trans hR.1.2.2.2.2.2.2.2.2.2.2.2.2.2.2.2.2.2.2.2.2.2.2.2.2.2.2.2.2.2.2.2.2.2.2.2.2.2.2.2.2.2.2.2.1
theorem rE_74 {g0 g : qz_G} (hR : Rel g0) (hs : Same g0 g) : g.1 74 = g0.1 141 := (hs.1 74 (by decide)).trans hR.1.2.2.2.2.2.2.2.2.2.2.2.2.2.2.2.2.2.2.2.2.2.2.2.2.2.2.2.2.2.2.2.2.2.2.2.2.2.2.2.2.2.2.2.2
theorem rS_0_10 {g0 g : qz_G} (hR : Rel g0) (hs : Same g0 g) : g.1 0 10 = g0.1 12 0 := (hs.2.1 (0, 10) (by decide)).trans hR.2.1.1
theorem rS_2_8 {g0 g : qz_G} (hR : Rel g0) (hs : Same g0 g) : g.1 2 8 = g0.1 12 1 := (hs.2.1 (2, 8) (by decide)).trans hR.2.1.2.1
theorem rS_3_12 {g0 g : qz_G} (hR : Rel g0) (hs : Same g0 g) : g.1 3 12 = g0.1 12 2 := (hs.2.1 (3, 12) (by decide)).trans hR.2.1.2.2.1
theorem rS_2_9 {g0 g : qz_G} (hR : Rel g0) (hs : Same g0 g) : g.1 2 9 = g0.1 12 3 := (hs.2.1 (2, 9) (by decide)).trans hR.2.1.2.2.2.1
theorem rS_1_1 {g0 g : qz_G} (hR : Rel g0) (hs : Same g0 g) : g.1 1 1 = g0.1 12 25 := (hs.2.1 (1, 1) (by decide)).trans hR.2.1.2.2.2.2.1
theorem rS_6_17 {g0 g : qz_G} (hR : Rel g0) (hs : Same g0 g) : g.1 6 17 = g0.1 12 41 := (hs.2.1 (6, 17) (by decide)).trans hR.2.1.2.2.2.2.2.1
theorem rS_4_13 {g0 g : qz_G} (hR : Rel g0) (hs : Same g0 g) : g.1 4 13 = g0.1 12 55 := (hs.2.1 (4, 13) (by decide)).trans hR.2.1.2.2.2.2.2.2.1
theorem rS_4_14 {g0 g : qz_G} (hR : Rel g0) (hs : Same g0 g) : g.1 4 14 = g0.1 12 56 := (hs.2.1 (4, 14) (by decide)).trans hR.2.1.2.2.2.2.2.2.2.1
theorem rS_4_15 {g0 g : qz_G} (hR : Rel g0) (hs : Same g0 g) : g.1 4 15 = g0.1 12 71 := (hs.2.1 (4, 15) (by decide)).trans hR.2.1.2.2.2.2.2.2.2.2.1
theorem rS_10_12 {g0 g : qz_G} (hR : Rel g0) (hs : Same g0 g) : g.1 10 12 = g0.1 12 72 := (hs.2.1 (10, 12) (by decide)).trans hR.2.1.2.2.2.2.2.2.2.2.2.1
theorem rS_10_13 {g0 g : qz_G} (hR : Rel g0) (hs : Same g0 g) : g.1 10 13 = g0.1 12 73 := (hs.2.1 (10, 13) (by decide)).trans hR.2.1.2.2.2.2.2.2.2.2.2.2
theorem rM_13 {g0 g : qz_G} (hs : Same g0 g) : g.1 13 = g0.1 13 := hs.1 13 (by decide)
theorem rM_32 {g0 g : qz_G} (hs : Same g0 g) : g.1 32 = g0.1 32 := hs.1 32 (by decide)
theorem rM_52 {g0 g : qz_G} (hs : Same g0 g) : g.1 52 = g0.1 52 := hs.1 52 (by decide)
theorem rM_53 {g0 g : qz_G} (hs : Same g0 g) : g.1 53 = g0.1 53 := hs.1 53 (by decide)
theorem rM_54 {g0 g : qz_G} (hs : Same g0 g) : g.1 54 = g0.1 54 := hs.1 54 (by decide)
theorem rM_55 {g0 g : qz_G} (hs : Same g0 g) : g.1 55 = g0.1 55 := hs.1 55 (by decide)
theorem rM_56 {g0 g : qz_G} (hs : Same g0 g) : g.1 56 = g0.1 56 := hs.1 56 (by decide)
theorem rM_59 {g0 g : qz_G} (hs : Same g0 g) : g.1 59 = g0.1 59 := hs.1 59 (by decide)
theorem rM_79 {g0 g : qz_G} (hs : Same g0 g) : g.1 79 = g0.1 79 := hs.1 79 (by decide)
theorem rM_81 {g0 g : qz_G} (hs : Same g0 g) : g.1 81 = g0.1 81 := hs.1 81 (by decide)
theorem rM_82 {g0 g : qz_G} (hs : Same g0 g) : g.1 82 = g0.1 82 := hs.1 82 (by decide)
theorem rM_83 {g0 g : qz_G} (hs : Same g0 g) : g.1 83 = g0.1 83 := hs.1 83 (by decide)
theorem rM_84 {g0 g : qz_G} (hs : Same g0 g) : g.1 84 = g0.1 84 := hs.1 84 (by decide)
theorem rM_85 {g0 g : qz_G} (hs : Same g0 g) : g.1 85 = g0.1 85 := hs.1 85 (by decide)
theorem rM_86 {g0 g : qz_G} (hs : Same g0 g) : g.1 86 = g0.1 86 := hs.1 86 (by decide)
theorem rM_87 {g0 g : qz_G} (hs : Same g0 g) : g.1 87 = g0.1 87 := hs.1 87 (by decide)
theorem rM_88 {g0 g : qz_G} (hs : Same g0 g) : g.1 88 = g0.1 88 := hs.1 88 (by decide)
theorem rM_89 {g0 g : qz_G} (hs : Same g0 g) : g.1 89 = g0.1 89 := hs.1 89 (by decide)
theorem rM_90 {g0 g : qz_G} (hs : Same g0 g) : g.1 90 = g0.1 90 := hs.1 90 (by decide)
theorem rM_91 {g0 g : qz_G} (hs : Same g0 g) : g.1 91 = g0.1 91 := hs.1 91 (by decide)
theorem rM_92 {g0 g : qz_G} (hs : Same g0 g) : g.1 92 = g0.1 92 := hs.1 92 (by decide)
theorem rM_93 {g0 g : qz_G} (hs : Same g0 g) : g.1 93 = g0.1 93 := hs.1 93 (by decide)
theorem rM_94 {g0 g : qz_G} (hs : Same g0 g) : g.1 94 = g0.1 94 := hs.1 94 (by decide)
theorem rM_95 {g0 g : qz_G} (hs : Same g0 g) : g.1 95 = g0.1 95 := hs.1 95 (by decide)
theorem rM_96 {g0 g : qz_G} (hs : Same g0 g) : g.1 96 = g0.1 96 := hs.1 96 (by decide)
theorem rM_97 {g0 g : qz_G} (hs : Same g0 g) : g.1 97 = g0.1 97 := hs.1 97 (by decide)
theorem rM_98 {g0 g : qz_G} (hs : Same g0 g) : g.1 98 = g0.1 98 := hs.1 98 (by decide)
theorem rM_99 {g0 g : qz_G} (hs : Same g0 g) : g.1 99 = g0.1 99 := hs.1 99 (by decide)
theorem rM_107 {g0 g : qz_G} (hs : Same g0 g) : g.1 107 = g0.1 107 := hs.1 107 (by decide)
theorem rM_108 {g0 g : qz_G} (hs : Same g0 g) : g.1 108 = g0.1 108 := hs.1 108 (by decide)
theorem rM_109 {g0 g : qz_G} (hs : Same g0 g) : g.1 109 = g0.1 109 := hs.1 109 (by decide)
theorem rM_110 {g0 g : qz_G} (hs : Same g0 g) : g.1 110 = g0.1 110 := hs.1 110 (by decide)
theorem rM_111 {g0 g : qz_G} (hs : Same g0 g) : g.1 111 = g0.1 111 := hs.1 111 (by decide)
theorem rM_112 {g0 g : qz_G} (hs : Same g0 g) : g.1 112 = g0.1 112 := hs.1 112 (by decide)
theorem rM_113 {g0 g : qz_G} (hs : Same g0 g) : g.1 113 = g0.1 113 := hs.1 113 (by decide)
theorem rM_114 {g0 g : qz_G} (hs : Same g0 g) : g.1 114 = g0.1 114 := hs.1 114 (by decide)
theorem rM_115 {g0 g : qz_G} (hs : Same g0 g) : g.1 115 = g0.1 115 := hs.1 115 (by decide)
theorem rM_116 {g0 g : qz_G} (hs : Same g0 g) : g.1 116 = g0.1 116 := hs.1 116 (by decide)
theorem rM_120 {g0 g : qz_G} (hs : Same g0 g) : g.1 120 = g0.1 120 := hs.1 120 (by decide)
theorem rM_121 {g0 g : qz_G} (hs : Same g0 g) : g.1 121 = g0.1 121 := hs.1 121 (by decide)
theorem rM_122 {g0 g : qz_G} (hs : Same g0 g) : g.1 122 = g0.1 122 := hs.1 122 (by decide)
theorem rM_123 {g0 g : qz_G} (hs : Same g0 g) : g.1 123 = g0.1 123 := hs.1 123 (by decide)
theorem rM_124 {g0 g : qz_G} (hs : Same g0 g) : g.1 124 = g0.1 124 := hs.1 124 (by decide)
theorem rM_125 {g0 g : qz_G} (hs : Same g0 g) : g.1 125 = g0.1 125 := hs.1 125 (by decide)
theorem rM_126 {g0 g : qz_G} (hs : Same g0 g) : g.1 126 = g0.1 126 := hs.1 126 (by decide)
theorem rM_127 {g0 g : qz_G} (hs : Same g0 g) : g.1 127 = g0.1 127 := hs.1 127 (by decide)
theorem rM_128 {g0 g : qz_G} (hs : Same g0 g) : g.1 128 = g0.1 128 := hs.1 128 (by decide)
theorem rM_129 {g0 g : qz_G} (hs : Same g0 g) : g.1 129 = g0.1 129 := hs.1 129 (by decide)
theorem rM_130 {g0 g : qz_G} (hs : Same g0 g) : g.1 130 = g0.1 130 := hs.1 130 (by decide)
theorem rM_131 {g0 g : qz_G} (hs : Same g0 g) : g.1 131 = g0.1 131 := hs.1 131 (by decide)
theorem rM_132 {g0 g : qz_G} (hs : Same g0 g) : g.1 132 = g0.1 132 := hs.1 132 (by decide)
theorem rM_133 {g0 g : qz_G} (hs : Same g0 g) : g.1 133 = g0.1 133 := hs.1 133 (by decide)
theorem rM_134 {g0 g : qz_G} (hs : Same g0 g) : g.1 134 = g0.1 134 := hs.1 134 (by decide)
theorem rM_135 {g0 g : qz_G} (hs : Same g0 g) : g.1 135 = g0.1 135 := hs.1 135 (by decide)
theorem rM_136 {g0 g : qz_G} (hs : Same g0 g) : g.1 136 = g0.1 136 := hs.1 136 (by decide)
theorem rM_137 {g0 g : qz_G} (hs : Same g0 g) : g.1 137 = g0.1 137 := hs.1 137 (by decide)
theorem rM_138 {g0 g : qz_G} (hs : Same g0 g) : g.1 138 = g0.1 138 := hs.1 138 (by decide)
theorem rM_139 {g0 g : qz_G} (hs : Same g0 g) : g.1 139 = g0.1 139 := hs.1 139 (by decide)
theorem rM_140 {g0 g : qz_G} (hs : Same g0 g) : g.1 140 = g0.1 140 := hs.1 140 (by decide)
theorem rM_141 {g0 g : qz_G} (hs : Same g0 g) : g.1 141 = g0.1 141 := hs.1 141 (by decide)
theorem rM_142 {g0 g : qz_G} (hs : Same g0 g) : g.1 142 = g0.1 142 := hs.1 142 (by decide)
theorem rM_146 {g0 g : qz_G} (hs : Same g0 g) : g.1 146 = g0.1 146 := hs.1 146 (by decide)
theorem rM_12_0 {g0 g : qz_G} (hs : Same g0 g) : g.1 12 0 = g0.1 12 0 := hs.2.1 (12, 0) (by decide)
theorem rM_12_1 {g0 g : qz_G} (hs : Same g0 g) : g.1 12 1 = g0.1 12 1 := hs.2.1 (12, 1) (by decide)
theorem rM_12_2 {g0 g : qz_G} (hs : Same g0 g) : g.1 12 2 = g0.1 12 2 := hs.2.1 (12, 2) (by decide)
theorem rM_12_3 {g0 g : qz_G} (hs : Same g0 g) : g.1 12 3 = g0.1 12 3 := hs.2.1 (12, 3) (by decide)
theorem rM_12_25 {g0 g : qz_G} (hs : Same g0 g) : g.1 12 25 = g0.1 12 25 := hs.2.1 (12, 25) (by decide)
theorem rM_12_41 {g0 g : qz_G} (hs : Same g0 g) : g.1 12 41 = g0.1 12 41 := hs.2.1 (12, 41) (by decide)
theorem rM_12_55 {g0 g : qz_G} (hs : Same g0 g) : g.1 12 55 = g0.1 12 55 := hs.2.1 (12, 55) (by decide)
theorem rM_12_56 {g0 g : qz_G} (hs : Same g0 g) : g.1 12 56 = g0.1 12 56 := hs.2.1 (12, 56) (by decide)
theorem rM_12_71 {g0 g : qz_G} (hs : Same g0 g) : g.1 12 71 = g0.1 12 71 := hs.2.1 (12, 71) (by decide)
theorem rM_12_72 {g0 g : qz_G} (hs : Same g0 g) : g.1 12 72 = g0.1 12 72 := hs.2.1 (12, 72) (by decide)
theorem rM_12_73 {g0 g : qz_G} (hs : Same g0 g) : g.1 12 73 = g0.1 12 73 := hs.2.1 (12, 73) (by decide)
theorem rM_6_16 {g0 g : qz_G} (hs : Same g0 g) : g.1 6 16 = g0.1 6 16 := hs.2.1 (6, 16) (by decide)
theorem rB_now {g : qz_G} (hR : Rel g) : qI (g.1 12 0) 0 99999 := hR.2.2.1.1
theorem rB_owners {g : qz_G} (hR : Rel g) : qI (g.1 12 1) 0 40 := hR.2.2.1.2.1
theorem rB_works {g : qz_G} (hR : Rel g) : qI (g.1 12 2) 0 80 := hR.2.2.1.2.2.1
theorem rB_deaths {g : qz_G} (hR : Rel g) : qI (g.1 12 3) 0 200 := hR.2.2.1.2.2.2.1
theorem rB_taped {g : qz_G} (hR : Rel g) : qI (g.1 12 25) 0 200 := hR.2.2.1.2.2.2.2.1
theorem rB_laws {g : qz_G} (hR : Rel g) : qI (g.1 12 41) 0 20 := hR.2.2.1.2.2.2.2.2.1
theorem rB_looks {g : qz_G} (hR : Rel g) : qI (g.1 12 55) 0 300 := hR.2.2.1.2.2.2.2.2.2.1
theorem rB_letters {g : qz_G} (hR : Rel g) : qI (g.1 12 56) 0 200 := hR.2.2.1.2.2.2.2.2.2.2.1
theorem rB_agreed {g : qz_G} (hR : Rel g) : qI (g.1 12 71) 0 200 := hR.2.2.1.2.2.2.2.2.2.2.2.1
theorem rB_leaves {g : qz_G} (hR : Rel g) : qI (g.1 12 72) 0 100 := hR.2.2.1.2.2.2.2.2.2.2.2.2.1
theorem rB_uses {g : qz_G} (hR : Rel g) : qI (g.1 12 73) 0 300 := hR.2.2.1.2.2.2.2.2.2.2.2.2.2
