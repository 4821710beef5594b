/-! ===== every block of every method is its method's code ===== -/
theorem z_val0 (f : Nat) (h : f < 249) : (z_bls f).all (fun q => z_seqB f q.1 q.2) = true := by
  rcases Nat.lt_or_ge f 124 with g124 | g124
  · rcases Nat.lt_or_ge f 62 with g62 | g62
    · rcases Nat.lt_or_ge f 31 with g31 | g31
      · rcases Nat.lt_or_ge f 15 with g15 | g15
        · rcases Nat.lt_or_ge f 7 with g7 | g7
          · rcases Nat.lt_or_ge f 3 with g3 | g3
            · rcases Nat.lt_or_ge f 1 with g1 | g1
              · obtain rfl : f = 0 := by omega
                exact zv_0
              · rcases Nat.lt_or_ge f 2 with g2 | g2
                · obtain rfl : f = 1 := by omega
                  exact zv_1
                · obtain rfl : f = 2 := by omega
                  exact zv_2
            · rcases Nat.lt_or_ge f 5 with g5 | g5
              · rcases Nat.lt_or_ge f 4 with g4 | g4
                · obtain rfl : f = 3 := by omega
                  exact zv_3
                · obtain rfl : f = 4 := by omega
                  exact zv_4
              · rcases Nat.lt_or_ge f 6 with g6 | g6
                · obtain rfl : f = 5 := by omega
                  exact zv_5
                · obtain rfl : f = 6 := by omega
                  exact zv_6
          · rcases Nat.lt_or_ge f 11 with g11 | g11
            · rcases Nat.lt_or_ge f 9 with g9 | g9
              · rcases Nat.lt_or_ge f 8 with g8 | g8
                · obtain rfl : f = 7 := by omega
                  exact zv_7
                · obtain rfl : f = 8 := by omega
                  exact zv_8
              · rcases Nat.lt_or_ge f 10 with g10 | g10
                · obtain rfl : f = 9 := by omega
                  exact zv_9
                · obtain rfl : f = 10 := by omega
                  exact zv_10
            · rcases Nat.lt_or_ge f 13 with g13 | g13
              · rcases Nat.lt_or_ge f 12 with g12 | g12
                · obtain rfl : f = 11 := by omega
                  exact zv_11
                · obtain rfl : f = 12 := by omega
                  exact zv_12
              · rcases Nat.lt_or_ge f 14 with g14 | g14
                · obtain rfl : f = 13 := by omega
                  exact zv_13
                · obtain rfl : f = 14 := by omega
                  exact zv_14
        · rcases Nat.lt_or_ge f 23 with g23 | g23
          · rcases Nat.lt_or_ge f 19 with g19 | g19
            · rcases Nat.lt_or_ge f 17 with g17 | g17
              · rcases Nat.lt_or_ge f 16 with g16 | g16
                · obtain rfl : f = 15 := by omega
                  exact zv_15
                · obtain rfl : f = 16 := by omega
                  exact zv_16
              · rcases Nat.lt_or_ge f 18 with g18 | g18
                · obtain rfl : f = 17 := by omega
                  exact zv_17
                · obtain rfl : f = 18 := by omega
                  exact zv_18
            · rcases Nat.lt_or_ge f 21 with g21 | g21
              · rcases Nat.lt_or_ge f 20 with g20 | g20
                · obtain rfl : f = 19 := by omega
                  exact zv_19
                · obtain rfl : f = 20 := by omega
                  exact zv_20
              · rcases Nat.lt_or_ge f 22 with g22 | g22
                · obtain rfl : f = 21 := by omega
                  exact zv_21
                · obtain rfl : f = 22 := by omega
                  exact zv_22
          · rcases Nat.lt_or_ge f 27 with g27 | g27
            · rcases Nat.lt_or_ge f 25 with g25 | g25
              · rcases Nat.lt_or_ge f 24 with g24 | g24
                · obtain rfl : f = 23 := by omega
                  exact zv_23
                · obtain rfl : f = 24 := by omega
                  exact zv_24
              · rcases Nat.lt_or_ge f 26 with g26 | g26
                · obtain rfl : f = 25 := by omega
                  exact zv_25
                · obtain rfl : f = 26 := by omega
                  exact zv_26
            · rcases Nat.lt_or_ge f 29 with g29 | g29
              · rcases Nat.lt_or_ge f 28 with g28 | g28
                · obtain rfl : f = 27 := by omega
                  exact zv_27
                · obtain rfl : f = 28 := by omega
                  exact zv_28
              · rcases Nat.lt_or_ge f 30 with g30 | g30
                · obtain rfl : f = 29 := by omega
                  exact zv_29
                · obtain rfl : f = 30 := by omega
                  exact zv_30
      · rcases Nat.lt_or_ge f 46 with g46 | g46
        · rcases Nat.lt_or_ge f 38 with g38 | g38
          · rcases Nat.lt_or_ge f 34 with g34 | g34
            · rcases Nat.lt_or_ge f 32 with g32 | g32
              · obtain rfl : f = 31 := by omega
                exact zv_31
              · rcases Nat.lt_or_ge f 33 with g33 | g33
                · obtain rfl : f = 32 := by omega
                  exact zv_32
                · obtain rfl : f = 33 := by omega
                  exact zv_33
            · rcases Nat.lt_or_ge f 36 with g36 | g36
              · rcases Nat.lt_or_ge f 35 with g35 | g35
                · obtain rfl : f = 34 := by omega
                  exact zv_34
                · obtain rfl : f = 35 := by omega
                  exact zv_35
              · rcases Nat.lt_or_ge f 37 with g37 | g37
                · obtain rfl : f = 36 := by omega
                  exact zv_36
                · obtain rfl : f = 37 := by omega
                  exact zv_37
          · rcases Nat.lt_or_ge f 42 with g42 | g42
            · rcases Nat.lt_or_ge f 40 with g40 | g40
              · rcases Nat.lt_or_ge f 39 with g39 | g39
                · obtain rfl : f = 38 := by omega
                  exact zv_38
                · obtain rfl : f = 39 := by omega
                  exact zv_39
              · rcases Nat.lt_or_ge f 41 with g41 | g41
                · obtain rfl : f = 40 := by omega
                  exact zv_40
                · obtain rfl : f = 41 := by omega
                  exact zv_41
            · rcases Nat.lt_or_ge f 44 with g44 | g44
              · rcases Nat.lt_or_ge f 43 with g43 | g43
                · obtain rfl : f = 42 := by omega
                  exact zv_42
                · obtain rfl : f = 43 := by omega
                  exact zv_43
              · rcases Nat.lt_or_ge f 45 with g45 | g45
                · obtain rfl : f = 44 := by omega
                  exact zv_44
                · obtain rfl : f = 45 := by omega
                  exact zv_45
        · rcases Nat.lt_or_ge f 54 with g54 | g54
          · rcases Nat.lt_or_ge f 50 with g50 | g50
            · rcases Nat.lt_or_ge f 48 with g48 | g48
              · rcases Nat.lt_or_ge f 47 with g47 | g47
                · obtain rfl : f = 46 := by omega
                  exact zv_46
                · obtain rfl : f = 47 := by omega
                  exact zv_47
              · rcases Nat.lt_or_ge f 49 with g49 | g49
                · obtain rfl : f = 48 := by omega
                  exact zv_48
                · obtain rfl : f = 49 := by omega
                  exact zv_49
            · rcases Nat.lt_or_ge f 52 with g52 | g52
              · rcases Nat.lt_or_ge f 51 with g51 | g51
                · obtain rfl : f = 50 := by omega
                  exact zv_50
                · obtain rfl : f = 51 := by omega
                  exact zv_51
              · rcases Nat.lt_or_ge f 53 with g53 | g53
                · obtain rfl : f = 52 := by omega
                  exact zv_52
                · obtain rfl : f = 53 := by omega
                  exact zv_53
          · rcases Nat.lt_or_ge f 58 with g58 | g58
            · rcases Nat.lt_or_ge f 56 with g56 | g56
              · rcases Nat.lt_or_ge f 55 with g55 | g55
                · obtain rfl : f = 54 := by omega
                  exact zv_54
                · obtain rfl : f = 55 := by omega
                  exact zv_55
              · rcases Nat.lt_or_ge f 57 with g57 | g57
                · obtain rfl : f = 56 := by omega
                  exact zv_56
                · obtain rfl : f = 57 := by omega
                  exact zv_57
            · rcases Nat.lt_or_ge f 60 with g60 | g60
              · rcases Nat.lt_or_ge f 59 with g59 | g59
                · obtain rfl : f = 58 := by omega
                  exact zv_58
                · obtain rfl : f = 59 := by omega
                  exact zv_59
              · rcases Nat.lt_or_ge f 61 with g61 | g61
                · obtain rfl : f = 60 := by omega
                  exact zv_60
                · obtain rfl : f = 61 := by omega
                  exact zv_61
    · rcases Nat.lt_or_ge f 93 with g93 | g93
      · rcases Nat.lt_or_ge f 77 with g77 | g77
        · rcases Nat.lt_or_ge f 69 with g69 | g69
          · rcases Nat.lt_or_ge f 65 with g65 | g65
            · rcases Nat.lt_or_ge f 63 with g63 | g63
              · obtain rfl : f = 62 := by omega
                exact zv_62
              · rcases Nat.lt_or_ge f 64 with g64 | g64
                · obtain rfl : f = 63 := by omega
                  exact zv_63
                · obtain rfl : f = 64 := by omega
                  exact zv_64
            · rcases Nat.lt_or_ge f 67 with g67 | g67
              · rcases Nat.lt_or_ge f 66 with g66 | g66
                · obtain rfl : f = 65 := by omega
                  exact zv_65
                · obtain rfl : f = 66 := by omega
                  exact zv_66
              · rcases Nat.lt_or_ge f 68 with g68 | g68
                · obtain rfl : f = 67 := by omega
                  exact zv_67
                · obtain rfl : f = 68 := by omega
                  exact zv_68
          · rcases Nat.lt_or_ge f 73 with g73 | g73
            · rcases Nat.lt_or_ge f 71 with g71 | g71
              · rcases Nat.lt_or_ge f 70 with g70 | g70
                · obtain rfl : f = 69 := by omega
                  exact zv_69
                · obtain rfl : f = 70 := by omega
                  exact zv_70
              · rcases Nat.lt_or_ge f 72 with g72 | g72
                · obtain rfl : f = 71 := by omega
                  exact zv_71
                · obtain rfl : f = 72 := by omega
                  exact zv_72
            · rcases Nat.lt_or_ge f 75 with g75 | g75
              · rcases Nat.lt_or_ge f 74 with g74 | g74
                · obtain rfl : f = 73 := by omega
                  exact zv_73
                · obtain rfl : f = 74 := by omega
                  exact zv_74
              · rcases Nat.lt_or_ge f 76 with g76 | g76
                · obtain rfl : f = 75 := by omega
                  exact zv_75
                · obtain rfl : f = 76 := by omega
                  exact zv_76
        · rcases Nat.lt_or_ge f 85 with g85 | g85
          · rcases Nat.lt_or_ge f 81 with g81 | g81
            · rcases Nat.lt_or_ge f 79 with g79 | g79
              · rcases Nat.lt_or_ge f 78 with g78 | g78
                · obtain rfl : f = 77 := by omega
                  exact zv_77
                · obtain rfl : f = 78 := by omega
                  exact zv_78
              · rcases Nat.lt_or_ge f 80 with g80 | g80
                · obtain rfl : f = 79 := by omega
                  exact zv_79
                · obtain rfl : f = 80 := by omega
                  exact zv_80
            · rcases Nat.lt_or_ge f 83 with g83 | g83
              · rcases Nat.lt_or_ge f 82 with g82 | g82
                · obtain rfl : f = 81 := by omega
                  exact zv_81
                · obtain rfl : f = 82 := by omega
                  exact zv_82
              · rcases Nat.lt_or_ge f 84 with g84 | g84
                · obtain rfl : f = 83 := by omega
                  exact zv_83
                · obtain rfl : f = 84 := by omega
                  exact zv_84
          · rcases Nat.lt_or_ge f 89 with g89 | g89
            · rcases Nat.lt_or_ge f 87 with g87 | g87
              · rcases Nat.lt_or_ge f 86 with g86 | g86
                · obtain rfl : f = 85 := by omega
                  exact zv_85
                · obtain rfl : f = 86 := by omega
                  exact zv_86
              · rcases Nat.lt_or_ge f 88 with g88 | g88
                · obtain rfl : f = 87 := by omega
                  exact zv_87
                · obtain rfl : f = 88 := by omega
                  exact zv_88
            · rcases Nat.lt_or_ge f 91 with g91 | g91
              · rcases Nat.lt_or_ge f 90 with g90 | g90
                · obtain rfl : f = 89 := by omega
                  exact zv_89
                · obtain rfl : f = 90 := by omega
                  exact zv_90
              · rcases Nat.lt_or_ge f 92 with g92 | g92
                · obtain rfl : f = 91 := by omega
                  exact zv_91
                · obtain rfl : f = 92 := by omega
                  exact zv_92
      · rcases Nat.lt_or_ge f 108 with g108 | g108
        · rcases Nat.lt_or_ge f 100 with g100 | g100
          · rcases Nat.lt_or_ge f 96 with g96 | g96
            · rcases Nat.lt_or_ge f 94 with g94 | g94
              · obtain rfl : f = 93 := by omega
                exact zv_93
              · rcases Nat.lt_or_ge f 95 with g95 | g95
                · obtain rfl : f = 94 := by omega
                  exact zv_94
                · obtain rfl : f = 95 := by omega
                  exact zv_95
            · rcases Nat.lt_or_ge f 98 with g98 | g98
              · rcases Nat.lt_or_ge f 97 with g97 | g97
                · obtain rfl : f = 96 := by omega
                  exact zv_96
                · obtain rfl : f = 97 := by omega
                  exact zv_97
              · rcases Nat.lt_or_ge f 99 with g99 | g99
                · obtain rfl : f = 98 := by omega
                  exact zv_98
                · obtain rfl : f = 99 := by omega
                  exact zv_99
          · rcases Nat.lt_or_ge f 104 with g104 | g104
            · rcases Nat.lt_or_ge f 102 with g102 | g102
              · rcases Nat.lt_or_ge f 101 with g101 | g101
                · obtain rfl : f = 100 := by omega
                  exact zv_100
                · obtain rfl : f = 101 := by omega
                  exact zv_101
              · rcases Nat.lt_or_ge f 103 with g103 | g103
                · obtain rfl : f = 102 := by omega
                  exact zv_102
                · obtain rfl : f = 103 := by omega
                  exact zv_103
            · rcases Nat.lt_or_ge f 106 with g106 | g106
              · rcases Nat.lt_or_ge f 105 with g105 | g105
                · obtain rfl : f = 104 := by omega
                  exact zv_104
                · obtain rfl : f = 105 := by omega
                  exact zv_105
              · rcases Nat.lt_or_ge f 107 with g107 | g107
                · obtain rfl : f = 106 := by omega
                  exact zv_106
                · obtain rfl : f = 107 := by omega
                  exact zv_107
        · rcases Nat.lt_or_ge f 116 with g116 | g116
          · rcases Nat.lt_or_ge f 112 with g112 | g112
            · rcases Nat.lt_or_ge f 110 with g110 | g110
              · rcases Nat.lt_or_ge f 109 with g109 | g109
                · obtain rfl : f = 108 := by omega
                  exact zv_108
                · obtain rfl : f = 109 := by omega
                  exact zv_109
              · rcases Nat.lt_or_ge f 111 with g111 | g111
                · obtain rfl : f = 110 := by omega
                  exact zv_110
                · obtain rfl : f = 111 := by omega
                  exact zv_111
            · rcases Nat.lt_or_ge f 114 with g114 | g114
              · rcases Nat.lt_or_ge f 113 with g113 | g113
                · obtain rfl : f = 112 := by omega
                  exact zv_112
                · obtain rfl : f = 113 := by omega
                  exact zv_113
              · rcases Nat.lt_or_ge f 115 with g115 | g115
                · obtain rfl : f = 114 := by omega
                  exact zv_114
                · obtain rfl : f = 115 := by omega
                  exact zv_115
          · rcases Nat.lt_or_ge f 120 with g120 | g120
            · rcases Nat.lt_or_ge f 118 with g118 | g118
              · rcases Nat.lt_or_ge f 117 with g117 | g117
                · obtain rfl : f = 116 := by omega
                  exact zv_116
                · obtain rfl : f = 117 := by omega
                  exact zv_117
              · rcases Nat.lt_or_ge f 119 with g119 | g119
                · obtain rfl : f = 118 := by omega
                  exact zv_118
                · obtain rfl : f = 119 := by omega
                  exact zv_119
            · rcases Nat.lt_or_ge f 122 with g122 | g122
              · rcases Nat.lt_or_ge f 121 with g121 | g121
                · obtain rfl : f = 120 := by omega
                  exact zv_120
                · obtain rfl : f = 121 := by omega
                  exact zv_121
              · rcases Nat.lt_or_ge f 123 with g123 | g123
                · obtain rfl : f = 122 := by omega
                  exact zv_122
                · obtain rfl : f = 123 := by omega
                  exact zv_123
  · rcases Nat.lt_or_ge f 186 with g186 | g186
    · rcases Nat.lt_or_ge f 155 with g155 | g155
      · rcases Nat.lt_or_ge f 139 with g139 | g139
        · rcases Nat.lt_or_ge f 131 with g131 | g131
          · rcases Nat.lt_or_ge f 127 with g127 | g127
            · rcases Nat.lt_or_ge f 125 with g125 | g125
              · obtain rfl : f = 124 := by omega
                exact zv_124
              · rcases Nat.lt_or_ge f 126 with g126 | g126
                · obtain rfl : f = 125 := by omega
                  exact zv_125
                · obtain rfl : f = 126 := by omega
                  exact zv_126
            · rcases Nat.lt_or_ge f 129 with g129 | g129
              · rcases Nat.lt_or_ge f 128 with g128 | g128
                · obtain rfl : f = 127 := by omega
                  exact zv_127
                · obtain rfl : f = 128 := by omega
                  exact zv_128
              · rcases Nat.lt_or_ge f 130 with g130 | g130
                · obtain rfl : f = 129 := by omega
                  exact zv_129
                · obtain rfl : f = 130 := by omega
                  exact zv_130
          · rcases Nat.lt_or_ge f 135 with g135 | g135
            · rcases Nat.lt_or_ge f 133 with g133 | g133
              · rcases Nat.lt_or_ge f 132 with g132 | g132
                · obtain rfl : f = 131 := by omega
                  exact zv_131
                · obtain rfl : f = 132 := by omega
                  exact zv_132
              · rcases Nat.lt_or_ge f 134 with g134 | g134
                · obtain rfl : f = 133 := by omega
                  exact zv_133
                · obtain rfl : f = 134 := by omega
                  exact zv_134
            · rcases Nat.lt_or_ge f 137 with g137 | g137
              · rcases Nat.lt_or_ge f 136 with g136 | g136
                · obtain rfl : f = 135 := by omega
                  exact zv_135
                · obtain rfl : f = 136 := by omega
                  exact zv_136
              · rcases Nat.lt_or_ge f 138 with g138 | g138
                · obtain rfl : f = 137 := by omega
                  exact zv_137
                · obtain rfl : f = 138 := by omega
                  exact zv_138
        · rcases Nat.lt_or_ge f 147 with g147 | g147
          · rcases Nat.lt_or_ge f 143 with g143 | g143
            · rcases Nat.lt_or_ge f 141 with g141 | g141
              · rcases Nat.lt_or_ge f 140 with g140 | g140
                · obtain rfl : f = 139 := by omega
                  exact zv_139
                · obtain rfl : f = 140 := by omega
                  exact zv_140
              · rcases Nat.lt_or_ge f 142 with g142 | g142
                · obtain rfl : f = 141 := by omega
                  exact zv_141
                · obtain rfl : f = 142 := by omega
                  exact zv_142
            · rcases Nat.lt_or_ge f 145 with g145 | g145
              · rcases Nat.lt_or_ge f 144 with g144 | g144
                · obtain rfl : f = 143 := by omega
                  exact zv_143
                · obtain rfl : f = 144 := by omega
                  exact zv_144
              · rcases Nat.lt_or_ge f 146 with g146 | g146
                · obtain rfl : f = 145 := by omega
                  exact zv_145
                · obtain rfl : f = 146 := by omega
                  exact zv_146
          · rcases Nat.lt_or_ge f 151 with g151 | g151
            · rcases Nat.lt_or_ge f 149 with g149 | g149
              · rcases Nat.lt_or_ge f 148 with g148 | g148
                · obtain rfl : f = 147 := by omega
                  exact zv_147
                · obtain rfl : f = 148 := by omega
                  exact zv_148
              · rcases Nat.lt_or_ge f 150 with g150 | g150
                · obtain rfl : f = 149 := by omega
                  exact zv_149
                · obtain rfl : f = 150 := by omega
                  exact zv_150
            · rcases Nat.lt_or_ge f 153 with g153 | g153
              · rcases Nat.lt_or_ge f 152 with g152 | g152
                · obtain rfl : f = 151 := by omega
                  exact zv_151
                · obtain rfl : f = 152 := by omega
                  exact zv_152
              · rcases Nat.lt_or_ge f 154 with g154 | g154
                · obtain rfl : f = 153 := by omega
                  exact zv_153
                · obtain rfl : f = 154 := by omega
                  exact zv_154
      · rcases Nat.lt_or_ge f 170 with g170 | g170
        · rcases Nat.lt_or_ge f 162 with g162 | g162
          · rcases Nat.lt_or_ge f 158 with g158 | g158
            · rcases Nat.lt_or_ge f 156 with g156 | g156
              · obtain rfl : f = 155 := by omega
                exact zv_155
              · rcases Nat.lt_or_ge f 157 with g157 | g157
                · obtain rfl : f = 156 := by omega
                  exact zv_156
                · obtain rfl : f = 157 := by omega
                  exact zv_157
            · rcases Nat.lt_or_ge f 160 with g160 | g160
              · rcases Nat.lt_or_ge f 159 with g159 | g159
                · obtain rfl : f = 158 := by omega
                  exact zv_158
                · obtain rfl : f = 159 := by omega
                  exact zv_159
              · rcases Nat.lt_or_ge f 161 with g161 | g161
                · obtain rfl : f = 160 := by omega
                  exact zv_160
                · obtain rfl : f = 161 := by omega
                  exact zv_161
          · rcases Nat.lt_or_ge f 166 with g166 | g166
            · rcases Nat.lt_or_ge f 164 with g164 | g164
              · rcases Nat.lt_or_ge f 163 with g163 | g163
                · obtain rfl : f = 162 := by omega
                  exact zv_162
                · obtain rfl : f = 163 := by omega
                  exact zv_163
              · rcases Nat.lt_or_ge f 165 with g165 | g165
                · obtain rfl : f = 164 := by omega
                  exact zv_164
                · obtain rfl : f = 165 := by omega
                  exact zv_165
            · rcases Nat.lt_or_ge f 168 with g168 | g168
              · rcases Nat.lt_or_ge f 167 with g167 | g167
                · obtain rfl : f = 166 := by omega
                  exact zv_166
                · obtain rfl : f = 167 := by omega
                  exact zv_167
              · rcases Nat.lt_or_ge f 169 with g169 | g169
                · obtain rfl : f = 168 := by omega
                  exact zv_168
                · obtain rfl : f = 169 := by omega
                  exact zv_169
        · rcases Nat.lt_or_ge f 178 with g178 | g178
          · rcases Nat.lt_or_ge f 174 with g174 | g174
            · rcases Nat.lt_or_ge f 172 with g172 | g172
              · rcases Nat.lt_or_ge f 171 with g171 | g171
                · obtain rfl : f = 170 := by omega
                  exact zv_170
                · obtain rfl : f = 171 := by omega
                  exact zv_171
              · rcases Nat.lt_or_ge f 173 with g173 | g173
                · obtain rfl : f = 172 := by omega
                  exact zv_172
                · obtain rfl : f = 173 := by omega
                  exact zv_173
            · rcases Nat.lt_or_ge f 176 with g176 | g176
              · rcases Nat.lt_or_ge f 175 with g175 | g175
                · obtain rfl : f = 174 := by omega
                  exact zv_174
                · obtain rfl : f = 175 := by omega
                  exact zv_175
              · rcases Nat.lt_or_ge f 177 with g177 | g177
                · obtain rfl : f = 176 := by omega
                  exact zv_176
                · obtain rfl : f = 177 := by omega
                  exact zv_177
          · rcases Nat.lt_or_ge f 182 with g182 | g182
            · rcases Nat.lt_or_ge f 180 with g180 | g180
              · rcases Nat.lt_or_ge f 179 with g179 | g179
                · obtain rfl : f = 178 := by omega
                  exact zv_178
                · obtain rfl : f = 179 := by omega
                  exact zv_179
              · rcases Nat.lt_or_ge f 181 with g181 | g181
                · obtain rfl : f = 180 := by omega
                  exact zv_180
                · obtain rfl : f = 181 := by omega
                  exact zv_181
            · rcases Nat.lt_or_ge f 184 with g184 | g184
              · rcases Nat.lt_or_ge f 183 with g183 | g183
                · obtain rfl : f = 182 := by omega
                  exact zv_182
                · obtain rfl : f = 183 := by omega
                  exact zv_183
              · rcases Nat.lt_or_ge f 185 with g185 | g185
                · obtain rfl : f = 184 := by omega
                  exact zv_184
                · obtain rfl : f = 185 := by omega
                  exact zv_185
    · rcases Nat.lt_or_ge f 217 with g217 | g217
      · rcases Nat.lt_or_ge f 201 with g201 | g201
        · rcases Nat.lt_or_ge f 193 with g193 | g193
          · rcases Nat.lt_or_ge f 189 with g189 | g189
            · rcases Nat.lt_or_ge f 187 with g187 | g187
              · obtain rfl : f = 186 := by omega
                exact zv_186
              · rcases Nat.lt_or_ge f 188 with g188 | g188
                · obtain rfl : f = 187 := by omega
                  exact zv_187
                · obtain rfl : f = 188 := by omega
                  exact zv_188
            · rcases Nat.lt_or_ge f 191 with g191 | g191
              · rcases Nat.lt_or_ge f 190 with g190 | g190
                · obtain rfl : f = 189 := by omega
                  exact zv_189
                · obtain rfl : f = 190 := by omega
                  exact zv_190
              · rcases Nat.lt_or_ge f 192 with g192 | g192
                · obtain rfl : f = 191 := by omega
                  exact zv_191
                · obtain rfl : f = 192 := by omega
                  exact zv_192
          · rcases Nat.lt_or_ge f 197 with g197 | g197
            · rcases Nat.lt_or_ge f 195 with g195 | g195
              · rcases Nat.lt_or_ge f 194 with g194 | g194
                · obtain rfl : f = 193 := by omega
                  exact zv_193
                · obtain rfl : f = 194 := by omega
                  exact zv_194
              · rcases Nat.lt_or_ge f 196 with g196 | g196
                · obtain rfl : f = 195 := by omega
                  exact zv_195
                · obtain rfl : f = 196 := by omega
                  exact zv_196
            · rcases Nat.lt_or_ge f 199 with g199 | g199
              · rcases Nat.lt_or_ge f 198 with g198 | g198
                · obtain rfl : f = 197 := by omega
                  exact zv_197
                · obtain rfl : f = 198 := by omega
                  exact zv_198
              · rcases Nat.lt_or_ge f 200 with g200 | g200
                · obtain rfl : f = 199 := by omega
                  exact zv_199
                · obtain rfl : f = 200 := by omega
                  exact zv_200
        · rcases Nat.lt_or_ge f 209 with g209 | g209
          · rcases Nat.lt_or_ge f 205 with g205 | g205
            · rcases Nat.lt_or_ge f 203 with g203 | g203
              · rcases Nat.lt_or_ge f 202 with g202 | g202
                · obtain rfl : f = 201 := by omega
                  exact zv_201
                · obtain rfl : f = 202 := by omega
                  exact zv_202
              · rcases Nat.lt_or_ge f 204 with g204 | g204
                · obtain rfl : f = 203 := by omega
                  exact zv_203
                · obtain rfl : f = 204 := by omega
                  exact zv_204
            · rcases Nat.lt_or_ge f 207 with g207 | g207
              · rcases Nat.lt_or_ge f 206 with g206 | g206
                · obtain rfl : f = 205 := by omega
                  exact zv_205
                · obtain rfl : f = 206 := by omega
                  exact zv_206
              · rcases Nat.lt_or_ge f 208 with g208 | g208
                · obtain rfl : f = 207 := by omega
                  exact zv_207
                · obtain rfl : f = 208 := by omega
                  exact zv_208
          · rcases Nat.lt_or_ge f 213 with g213 | g213
            · rcases Nat.lt_or_ge f 211 with g211 | g211
              · rcases Nat.lt_or_ge f 210 with g210 | g210
                · obtain rfl : f = 209 := by omega
                  exact zv_209
                · obtain rfl : f = 210 := by omega
                  exact zv_210
              · rcases Nat.lt_or_ge f 212 with g212 | g212
                · obtain rfl : f = 211 := by omega
                  exact zv_211
                · obtain rfl : f = 212 := by omega
                  exact zv_212
            · rcases Nat.lt_or_ge f 215 with g215 | g215
              · rcases Nat.lt_or_ge f 214 with g214 | g214
                · obtain rfl : f = 213 := by omega
                  exact zv_213
                · obtain rfl : f = 214 := by omega
                  exact zv_214
              · rcases Nat.lt_or_ge f 216 with g216 | g216
                · obtain rfl : f = 215 := by omega
                  exact zv_215
                · obtain rfl : f = 216 := by omega
                  exact zv_216
      · rcases Nat.lt_or_ge f 233 with g233 | g233
        · rcases Nat.lt_or_ge f 225 with g225 | g225
          · rcases Nat.lt_or_ge f 221 with g221 | g221
            · rcases Nat.lt_or_ge f 219 with g219 | g219
              · rcases Nat.lt_or_ge f 218 with g218 | g218
                · obtain rfl : f = 217 := by omega
                  exact zv_217
                · obtain rfl : f = 218 := by omega
                  exact zv_218
              · rcases Nat.lt_or_ge f 220 with g220 | g220
                · obtain rfl : f = 219 := by omega
                  exact zv_219
                · obtain rfl : f = 220 := by omega
                  exact zv_220
            · rcases Nat.lt_or_ge f 223 with g223 | g223
              · rcases Nat.lt_or_ge f 222 with g222 | g222
                · obtain rfl : f = 221 := by omega
                  exact zv_221
                · obtain rfl : f = 222 := by omega
                  exact zv_222
              · rcases Nat.lt_or_ge f 224 with g224 | g224
                · obtain rfl : f = 223 := by omega
                  exact zv_223
                · obtain rfl : f = 224 := by omega
                  exact zv_224
          · rcases Nat.lt_or_ge f 229 with g229 | g229
            · rcases Nat.lt_or_ge f 227 with g227 | g227
              · rcases Nat.lt_or_ge f 226 with g226 | g226
                · obtain rfl : f = 225 := by omega
                  exact zv_225
                · obtain rfl : f = 226 := by omega
                  exact zv_226
              · rcases Nat.lt_or_ge f 228 with g228 | g228
                · obtain rfl : f = 227 := by omega
                  exact zv_227
                · obtain rfl : f = 228 := by omega
                  exact zv_228
            · rcases Nat.lt_or_ge f 231 with g231 | g231
              · rcases Nat.lt_or_ge f 230 with g230 | g230
                · obtain rfl : f = 229 := by omega
                  exact zv_229
                · obtain rfl : f = 230 := by omega
                  exact zv_230
              · rcases Nat.lt_or_ge f 232 with g232 | g232
                · obtain rfl : f = 231 := by omega
                  exact zv_231
                · obtain rfl : f = 232 := by omega
                  exact zv_232
        · rcases Nat.lt_or_ge f 241 with g241 | g241
          · rcases Nat.lt_or_ge f 237 with g237 | g237
            · rcases Nat.lt_or_ge f 235 with g235 | g235
              · rcases Nat.lt_or_ge f 234 with g234 | g234
                · obtain rfl : f = 233 := by omega
                  exact zv_233
                · obtain rfl : f = 234 := by omega
                  exact zv_234
              · rcases Nat.lt_or_ge f 236 with g236 | g236
                · obtain rfl : f = 235 := by omega
                  exact zv_235
                · obtain rfl : f = 236 := by omega
                  exact zv_236
            · rcases Nat.lt_or_ge f 239 with g239 | g239
              · rcases Nat.lt_or_ge f 238 with g238 | g238
                · obtain rfl : f = 237 := by omega
                  exact zv_237
                · obtain rfl : f = 238 := by omega
                  exact zv_238
              · rcases Nat.lt_or_ge f 240 with g240 | g240
                · obtain rfl : f = 239 := by omega
                  exact zv_239
                · obtain rfl : f = 240 := by omega
                  exact zv_240
          · rcases Nat.lt_or_ge f 245 with g245 | g245
            · rcases Nat.lt_or_ge f 243 with g243 | g243
              · rcases Nat.lt_or_ge f 242 with g242 | g242
                · obtain rfl : f = 241 := by omega
                  exact zv_241
                · obtain rfl : f = 242 := by omega
                  exact zv_242
              · rcases Nat.lt_or_ge f 244 with g244 | g244
                · obtain rfl : f = 243 := by omega
                  exact zv_243
                · obtain rfl : f = 244 := by omega
                  exact zv_244
            · rcases Nat.lt_or_ge f 247 with g247 | g247
              · rcases Nat.lt_or_ge f 246 with g246 | g246
                · obtain rfl : f = 245 := by omega
                  exact zv_245
                · obtain rfl : f = 246 := by omega
                  exact zv_246
              · rcases Nat.lt_or_ge f 248 with g248 | g248
                · obtain rfl : f = 247 := by omega
                  exact zv_247
                · obtain rfl : f = 248 := by omega
                  exact zv_248
theorem z_val (f L : Nat) (h : f < 250) : z_seqB f L (z_blk f L) = true := by
  rcases Nat.lt_or_ge f 249 with g | g
  · exact z_look_ok _ _ (z_val0 f g)
  · obtain rfl : f = 249 := by omega
    exact z_look_ok _ _ zv_249
