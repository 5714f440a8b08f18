theorem ckm273 : rz_chM 273 = true := by
  refine List.all_eq_true.mpr (fun o ho => ?_)
  have h : o < 860 := List.mem_range.mp ho
  by_cases h0 : o < 95
  · exact List.all_eq_true.mp ckl0 o (List.mem_range'.mpr ⟨o - 0, by omega, by omega⟩)
  by_cases h95 : o < 190
  · exact List.all_eq_true.mp ckl95 o (List.mem_range'.mpr ⟨o - 95, by omega, by omega⟩)
  by_cases h190 : o < 285
  · exact List.all_eq_true.mp ckl190 o (List.mem_range'.mpr ⟨o - 190, by omega, by omega⟩)
  by_cases h285 : o < 380
  · exact List.all_eq_true.mp ckl285 o (List.mem_range'.mpr ⟨o - 285, by omega, by omega⟩)
  by_cases h380 : o < 475
  · exact List.all_eq_true.mp ckl380 o (List.mem_range'.mpr ⟨o - 380, by omega, by omega⟩)
  by_cases h475 : o < 570
  · exact List.all_eq_true.mp ckl475 o (List.mem_range'.mpr ⟨o - 475, by omega, by omega⟩)
  by_cases h570 : o < 665
  · exact List.all_eq_true.mp ckl570 o (List.mem_range'.mpr ⟨o - 570, by omega, by omega⟩)
  by_cases h665 : o < 760
  · exact List.all_eq_true.mp ckl665 o (List.mem_range'.mpr ⟨o - 665, by omega, by omega⟩)
  by_cases h760 : o < 855
  · exact List.all_eq_true.mp ckl760 o (List.mem_range'.mpr ⟨o - 760, by omega, by omega⟩)
  by_cases h855 : o < 860
  · exact List.all_eq_true.mp ckl855 o (List.mem_range'.mpr ⟨o - 855, by omega, by omega⟩)
  exact absurd h (by omega)
theorem ck_prog (M : Nat) (h : M < 279) : rz_chM M = true := by
  by_cases h139 : M < 139
  · by_cases h69 : M < 69
    · by_cases h34 : M < 34
      · by_cases h17 : M < 17
        · by_cases h8 : M < 8
          · by_cases h4 : M < 4
            · by_cases h2 : M < 2
              · by_cases h1 : M < 1
                · exact (show M = 0 by omega) ▸ ckm0
                · exact (show M = 1 by omega) ▸ ckm1
              · by_cases h3 : M < 3
                · exact (show M = 2 by omega) ▸ ckm2
                · exact (show M = 3 by omega) ▸ ckm3
            · by_cases h6 : M < 6
              · by_cases h5 : M < 5
                · exact (show M = 4 by omega) ▸ ckm4
                · exact (show M = 5 by omega) ▸ ckm5
              · by_cases h7 : M < 7
                · exact (show M = 6 by omega) ▸ ckm6
                · exact (show M = 7 by omega) ▸ ckm7
          · by_cases h12 : M < 12
            · by_cases h10 : M < 10
              · by_cases h9 : M < 9
                · exact (show M = 8 by omega) ▸ ckm8
                · exact (show M = 9 by omega) ▸ ckm9
              · by_cases h11 : M < 11
                · exact (show M = 10 by omega) ▸ ckm10
                · exact (show M = 11 by omega) ▸ ckm11
            · by_cases h14 : M < 14
              · by_cases h13 : M < 13
                · exact (show M = 12 by omega) ▸ ckm12
                · exact (show M = 13 by omega) ▸ ckm13
              · by_cases h15 : M < 15
                · exact (show M = 14 by omega) ▸ ckm14
                · by_cases h16 : M < 16
                  · exact (show M = 15 by omega) ▸ ckm15
                  · exact (show M = 16 by omega) ▸ ckm16
        · by_cases h25 : M < 25
          · by_cases h21 : M < 21
            · by_cases h19 : M < 19
              · by_cases h18 : M < 18
                · exact (show M = 17 by omega) ▸ ckm17
                · exact (show M = 18 by omega) ▸ ckm18
              · by_cases h20 : M < 20
                · exact (show M = 19 by omega) ▸ ckm19
                · exact (show M = 20 by omega) ▸ ckm20
            · by_cases h23 : M < 23
              · by_cases h22 : M < 22
                · exact (show M = 21 by omega) ▸ ckm21
                · exact (show M = 22 by omega) ▸ ckm22
              · by_cases h24 : M < 24
                · exact (show M = 23 by omega) ▸ ckm23
                · exact (show M = 24 by omega) ▸ ckm24
          · by_cases h29 : M < 29
            · by_cases h27 : M < 27
              · by_cases h26 : M < 26
                · exact (show M = 25 by omega) ▸ ckm25
                · exact (show M = 26 by omega) ▸ ckm26
              · by_cases h28 : M < 28
                · exact (show M = 27 by omega) ▸ ckm27
                · exact (show M = 28 by omega) ▸ ckm28
            · by_cases h31 : M < 31
              · by_cases h30 : M < 30
                · exact (show M = 29 by omega) ▸ ckm29
                · exact (show M = 30 by omega) ▸ ckm30
              · by_cases h32 : M < 32
                · exact (show M = 31 by omega) ▸ ckm31
                · by_cases h33 : M < 33
                  · exact (show M = 32 by omega) ▸ ckm32
                  · exact (show M = 33 by omega) ▸ ckm33
      · by_cases h51 : M < 51
        · by_cases h42 : M < 42
          · by_cases h38 : M < 38
            · by_cases h36 : M < 36
              · by_cases h35 : M < 35
                · exact (show M = 34 by omega) ▸ ckm34
                · exact (show M = 35 by omega) ▸ ckm35
              · by_cases h37 : M < 37
                · exact (show M = 36 by omega) ▸ ckm36
                · exact (show M = 37 by omega) ▸ ckm37
            · by_cases h40 : M < 40
              · by_cases h39 : M < 39
                · exact (show M = 38 by omega) ▸ ckm38
                · exact (show M = 39 by omega) ▸ ckm39
              · by_cases h41 : M < 41
                · exact (show M = 40 by omega) ▸ ckm40
                · exact (show M = 41 by omega) ▸ ckm41
          · by_cases h46 : M < 46
            · by_cases h44 : M < 44
              · by_cases h43 : M < 43
                · exact (show M = 42 by omega) ▸ ckm42
                · exact (show M = 43 by omega) ▸ ckm43
              · by_cases h45 : M < 45
                · exact (show M = 44 by omega) ▸ ckm44
                · exact (show M = 45 by omega) ▸ ckm45
            · by_cases h48 : M < 48
              · by_cases h47 : M < 47
                · exact (show M = 46 by omega) ▸ ckm46
                · exact (show M = 47 by omega) ▸ ckm47
              · by_cases h49 : M < 49
                · exact (show M = 48 by omega) ▸ ckm48
                · by_cases h50 : M < 50
                  · exact (show M = 49 by omega) ▸ ckm49
                  · exact (show M = 50 by omega) ▸ ckm50
        · by_cases h60 : M < 60
          · by_cases h55 : M < 55
            · by_cases h53 : M < 53
              · by_cases h52 : M < 52
                · exact (show M = 51 by omega) ▸ ckm51
                · exact (show M = 52 by omega) ▸ ckm52
              · by_cases h54 : M < 54
                · exact (show M = 53 by omega) ▸ ckm53
                · exact (show M = 54 by omega) ▸ ckm54
            · by_cases h57 : M < 57
              · by_cases h56 : M < 56
                · exact (show M = 55 by omega) ▸ ckm55
                · exact (show M = 56 by omega) ▸ ckm56
              · by_cases h58 : M < 58
                · exact (show M = 57 by omega) ▸ ckm57
                · by_cases h59 : M < 59
                  · exact (show M = 58 by omega) ▸ ckm58
                  · exact (show M = 59 by omega) ▸ ckm59
          · by_cases h64 : M < 64
            · by_cases h62 : M < 62
              · by_cases h61 : M < 61
                · exact (show M = 60 by omega) ▸ ckm60
                · exact (show M = 61 by omega) ▸ ckm61
              · by_cases h63 : M < 63
                · exact (show M = 62 by omega) ▸ ckm62
                · exact (show M = 63 by omega) ▸ ckm63
            · by_cases h66 : M < 66
              · by_cases h65 : M < 65
                · exact (show M = 64 by omega) ▸ ckm64
                · exact (show M = 65 by omega) ▸ ckm65
              · by_cases h67 : M < 67
                · exact (show M = 66 by omega) ▸ ckm66
                · by_cases h68 : M < 68
                  · exact (show M = 67 by omega) ▸ ckm67
                  · exact (show M = 68 by omega) ▸ ckm68
    · by_cases h104 : M < 104
      · by_cases h86 : M < 86
        · by_cases h77 : M < 77
          · by_cases h73 : M < 73
            · by_cases h71 : M < 71
              · by_cases h70 : M < 70
                · exact (show M = 69 by omega) ▸ ckm69
                · exact (show M = 70 by omega) ▸ ckm70
              · by_cases h72 : M < 72
                · exact (show M = 71 by omega) ▸ ckm71
                · exact (show M = 72 by omega) ▸ ckm72
            · by_cases h75 : M < 75
              · by_cases h74 : M < 74
                · exact (show M = 73 by omega) ▸ ckm73
                · exact (show M = 74 by omega) ▸ ckm74
              · by_cases h76 : M < 76
                · exact (show M = 75 by omega) ▸ ckm75
                · exact (show M = 76 by omega) ▸ ckm76
          · by_cases h81 : M < 81
            · by_cases h79 : M < 79
              · by_cases h78 : M < 78
                · exact (show M = 77 by omega) ▸ ckm77
                · exact (show M = 78 by omega) ▸ ckm78
              · by_cases h80 : M < 80
                · exact (show M = 79 by omega) ▸ ckm79
                · exact (show M = 80 by omega) ▸ ckm80
            · by_cases h83 : M < 83
              · by_cases h82 : M < 82
                · exact (show M = 81 by omega) ▸ ckm81
                · exact (show M = 82 by omega) ▸ ckm82
              · by_cases h84 : M < 84
                · exact (show M = 83 by omega) ▸ ckm83
                · by_cases h85 : M < 85
                  · exact (show M = 84 by omega) ▸ ckm84
                  · exact (show M = 85 by omega) ▸ ckm85
        · by_cases h95 : M < 95
          · by_cases h90 : M < 90
            · by_cases h88 : M < 88
              · by_cases h87 : M < 87
                · exact (show M = 86 by omega) ▸ ckm86
                · exact (show M = 87 by omega) ▸ ckm87
              · by_cases h89 : M < 89
                · exact (show M = 88 by omega) ▸ ckm88
                · exact (show M = 89 by omega) ▸ ckm89
            · by_cases h92 : M < 92
              · by_cases h91 : M < 91
                · exact (show M = 90 by omega) ▸ ckm90
                · exact (show M = 91 by omega) ▸ ckm91
              · by_cases h93 : M < 93
                · exact (show M = 92 by omega) ▸ ckm92
                · by_cases h94 : M < 94
                  · exact (show M = 93 by omega) ▸ ckm93
                  · exact (show M = 94 by omega) ▸ ckm94
          · by_cases h99 : M < 99
            · by_cases h97 : M < 97
              · by_cases h96 : M < 96
                · exact (show M = 95 by omega) ▸ ckm95
                · exact (show M = 96 by omega) ▸ ckm96
              · by_cases h98 : M < 98
                · exact (show M = 97 by omega) ▸ ckm97
                · exact (show M = 98 by omega) ▸ ckm98
            · by_cases h101 : M < 101
              · by_cases h100 : M < 100
                · exact (show M = 99 by omega) ▸ ckm99
                · exact (show M = 100 by omega) ▸ ckm100
              · by_cases h102 : M < 102
                · exact (show M = 101 by omega) ▸ ckm101
                · by_cases h103 : M < 103
                  · exact (show M = 102 by omega) ▸ ckm102
                  · exact (show M = 103 by omega) ▸ ckm103
      · by_cases h121 : M < 121
        · by_cases h112 : M < 112
          · by_cases h108 : M < 108
            · by_cases h106 : M < 106
              · by_cases h105 : M < 105
                · exact (show M = 104 by omega) ▸ ckm104
                · exact (show M = 105 by omega) ▸ ckm105
              · by_cases h107 : M < 107
                · exact (show M = 106 by omega) ▸ ckm106
                · exact (show M = 107 by omega) ▸ ckm107
            · by_cases h110 : M < 110
              · by_cases h109 : M < 109
                · exact (show M = 108 by omega) ▸ ckm108
                · exact (show M = 109 by omega) ▸ ckm109
              · by_cases h111 : M < 111
                · exact (show M = 110 by omega) ▸ ckm110
                · exact (show M = 111 by omega) ▸ ckm111
          · by_cases h116 : M < 116
            · by_cases h114 : M < 114
              · by_cases h113 : M < 113
                · exact (show M = 112 by omega) ▸ ckm112
                · exact (show M = 113 by omega) ▸ ckm113
              · by_cases h115 : M < 115
                · exact (show M = 114 by omega) ▸ ckm114
                · exact (show M = 115 by omega) ▸ ckm115
            · by_cases h118 : M < 118
              · by_cases h117 : M < 117
                · exact (show M = 116 by omega) ▸ ckm116
                · exact (show M = 117 by omega) ▸ ckm117
              · by_cases h119 : M < 119
                · exact (show M = 118 by omega) ▸ ckm118
                · by_cases h120 : M < 120
                  · exact (show M = 119 by omega) ▸ ckm119
                  · exact (show M = 120 by omega) ▸ ckm120
        · by_cases h130 : M < 130
          · by_cases h125 : M < 125
            · by_cases h123 : M < 123
              · by_cases h122 : M < 122
                · exact (show M = 121 by omega) ▸ ckm121
                · exact (show M = 122 by omega) ▸ ckm122
              · by_cases h124 : M < 124
                · exact (show M = 123 by omega) ▸ ckm123
                · exact (show M = 124 by omega) ▸ ckm124
            · by_cases h127 : M < 127
              · by_cases h126 : M < 126
                · exact (show M = 125 by omega) ▸ ckm125
                · exact (show M = 126 by omega) ▸ ckm126
              · by_cases h128 : M < 128
                · exact (show M = 127 by omega) ▸ ckm127
                · by_cases h129 : M < 129
                  · exact (show M = 128 by omega) ▸ ckm128
                  · exact (show M = 129 by omega) ▸ ckm129
          · by_cases h134 : M < 134
            · by_cases h132 : M < 132
              · by_cases h131 : M < 131
                · exact (show M = 130 by omega) ▸ ckm130
                · exact (show M = 131 by omega) ▸ ckm131
              · by_cases h133 : M < 133
                · exact (show M = 132 by omega) ▸ ckm132
                · exact (show M = 133 by omega) ▸ ckm133
            · by_cases h136 : M < 136
              · by_cases h135 : M < 135
                · exact (show M = 134 by omega) ▸ ckm134
                · exact (show M = 135 by omega) ▸ ckm135
              · by_cases h137 : M < 137
                · exact (show M = 136 by omega) ▸ ckm136
                · by_cases h138 : M < 138
                  · exact (show M = 137 by omega) ▸ ckm137
                  · exact (show M = 138 by omega) ▸ ckm138
  · by_cases h209 : M < 209
    · by_cases h174 : M < 174
      · by_cases h156 : M < 156
        · by_cases h147 : M < 147
          · by_cases h143 : M < 143
            · by_cases h141 : M < 141
              · by_cases h140 : M < 140
                · exact (show M = 139 by omega) ▸ ckm139
                · exact (show M = 140 by omega) ▸ ckm140
              · by_cases h142 : M < 142
                · exact (show M = 141 by omega) ▸ ckm141
                · exact (show M = 142 by omega) ▸ ckm142
            · by_cases h145 : M < 145
              · by_cases h144 : M < 144
                · exact (show M = 143 by omega) ▸ ckm143
                · exact (show M = 144 by omega) ▸ ckm144
              · by_cases h146 : M < 146
                · exact (show M = 145 by omega) ▸ ckm145
                · exact (show M = 146 by omega) ▸ ckm146
          · by_cases h151 : M < 151
            · by_cases h149 : M < 149
              · by_cases h148 : M < 148
                · exact (show M = 147 by omega) ▸ ckm147
                · exact (show M = 148 by omega) ▸ ckm148
              · by_cases h150 : M < 150
                · exact (show M = 149 by omega) ▸ ckm149
                · exact (show M = 150 by omega) ▸ ckm150
            · by_cases h153 : M < 153
              · by_cases h152 : M < 152
                · exact (show M = 151 by omega) ▸ ckm151
                · exact (show M = 152 by omega) ▸ ckm152
              · by_cases h154 : M < 154
                · exact (show M = 153 by omega) ▸ ckm153
                · by_cases h155 : M < 155
                  · exact (show M = 154 by omega) ▸ ckm154
                  · exact (show M = 155 by omega) ▸ ckm155
        · by_cases h165 : M < 165
          · by_cases h160 : M < 160
            · by_cases h158 : M < 158
              · by_cases h157 : M < 157
                · exact (show M = 156 by omega) ▸ ckm156
                · exact (show M = 157 by omega) ▸ ckm157
              · by_cases h159 : M < 159
                · exact (show M = 158 by omega) ▸ ckm158
                · exact (show M = 159 by omega) ▸ ckm159
            · by_cases h162 : M < 162
              · by_cases h161 : M < 161
                · exact (show M = 160 by omega) ▸ ckm160
                · exact (show M = 161 by omega) ▸ ckm161
              · by_cases h163 : M < 163
                · exact (show M = 162 by omega) ▸ ckm162
                · by_cases h164 : M < 164
                  · exact (show M = 163 by omega) ▸ ckm163
                  · exact (show M = 164 by omega) ▸ ckm164
          · by_cases h169 : M < 169
            · by_cases h167 : M < 167
              · by_cases h166 : M < 166
                · exact (show M = 165 by omega) ▸ ckm165
                · exact (show M = 166 by omega) ▸ ckm166
              · by_cases h168 : M < 168
                · exact (show M = 167 by omega) ▸ ckm167
                · exact (show M = 168 by omega) ▸ ckm168
            · by_cases h171 : M < 171
              · by_cases h170 : M < 170
                · exact (show M = 169 by omega) ▸ ckm169
                · exact (show M = 170 by omega) ▸ ckm170
              · by_cases h172 : M < 172
                · exact (show M = 171 by omega) ▸ ckm171
                · by_cases h173 : M < 173
                  · exact (show M = 172 by omega) ▸ ckm172
                  · exact (show M = 173 by omega) ▸ ckm173
      · by_cases h191 : M < 191
        · by_cases h182 : M < 182
          · by_cases h178 : M < 178
            · by_cases h176 : M < 176
              · by_cases h175 : M < 175
                · exact (show M = 174 by omega) ▸ ckm174
                · exact (show M = 175 by omega) ▸ ckm175
              · by_cases h177 : M < 177
                · exact (show M = 176 by omega) ▸ ckm176
                · exact (show M = 177 by omega) ▸ ckm177
            · by_cases h180 : M < 180
              · by_cases h179 : M < 179
                · exact (show M = 178 by omega) ▸ ckm178
                · exact (show M = 179 by omega) ▸ ckm179
              · by_cases h181 : M < 181
                · exact (show M = 180 by omega) ▸ ckm180
                · exact (show M = 181 by omega) ▸ ckm181
          · by_cases h186 : M < 186
            · by_cases h184 : M < 184
              · by_cases h183 : M < 183
                · exact (show M = 182 by omega) ▸ ckm182
                · exact (show M = 183 by omega) ▸ ckm183
              · by_cases h185 : M < 185
                · exact (show M = 184 by omega) ▸ ckm184
                · exact (show M = 185 by omega) ▸ ckm185
            · by_cases h188 : M < 188
              · by_cases h187 : M < 187
                · exact (show M = 186 by omega) ▸ ckm186
                · exact (show M = 187 by omega) ▸ ckm187
              · by_cases h189 : M < 189
                · exact (show M = 188 by omega) ▸ ckm188
                · by_cases h190 : M < 190
                  · exact (show M = 189 by omega) ▸ ckm189
                  · exact (show M = 190 by omega) ▸ ckm190
        · by_cases h200 : M < 200
          · by_cases h195 : M < 195
            · by_cases h193 : M < 193
              · by_cases h192 : M < 192
                · exact (show M = 191 by omega) ▸ ckm191
                · exact (show M = 192 by omega) ▸ ckm192
              · by_cases h194 : M < 194
                · exact (show M = 193 by omega) ▸ ckm193
                · exact (show M = 194 by omega) ▸ ckm194
            · by_cases h197 : M < 197
              · by_cases h196 : M < 196
                · exact (show M = 195 by omega) ▸ ckm195
                · exact (show M = 196 by omega) ▸ ckm196
              · by_cases h198 : M < 198
                · exact (show M = 197 by omega) ▸ ckm197
                · by_cases h199 : M < 199
                  · exact (show M = 198 by omega) ▸ ckm198
                  · exact (show M = 199 by omega) ▸ ckm199
          · by_cases h204 : M < 204
            · by_cases h202 : M < 202
              · by_cases h201 : M < 201
                · exact (show M = 200 by omega) ▸ ckm200
                · exact (show M = 201 by omega) ▸ ckm201
              · by_cases h203 : M < 203
                · exact (show M = 202 by omega) ▸ ckm202
                · exact (show M = 203 by omega) ▸ ckm203
            · by_cases h206 : M < 206
              · by_cases h205 : M < 205
                · exact (show M = 204 by omega) ▸ ckm204
                · exact (show M = 205 by omega) ▸ ckm205
              · by_cases h207 : M < 207
                · exact (show M = 206 by omega) ▸ ckm206
                · by_cases h208 : M < 208
                  · exact (show M = 207 by omega) ▸ ckm207
                  · exact (show M = 208 by omega) ▸ ckm208
    · by_cases h244 : M < 244
      · by_cases h226 : M < 226
        · by_cases h217 : M < 217
          · by_cases h213 : M < 213
            · by_cases h211 : M < 211
              · by_cases h210 : M < 210
                · exact (show M = 209 by omega) ▸ ckm209
                · exact (show M = 210 by omega) ▸ ckm210
              · by_cases h212 : M < 212
                · exact (show M = 211 by omega) ▸ ckm211
                · exact (show M = 212 by omega) ▸ ckm212
            · by_cases h215 : M < 215
              · by_cases h214 : M < 214
                · exact (show M = 213 by omega) ▸ ckm213
                · exact (show M = 214 by omega) ▸ ckm214
              · by_cases h216 : M < 216
                · exact (show M = 215 by omega) ▸ ckm215
                · exact (show M = 216 by omega) ▸ ckm216
          · by_cases h221 : M < 221
            · by_cases h219 : M < 219
              · by_cases h218 : M < 218
                · exact (show M = 217 by omega) ▸ ckm217
                · exact (show M = 218 by omega) ▸ ckm218
              · by_cases h220 : M < 220
                · exact (show M = 219 by omega) ▸ ckm219
                · exact (show M = 220 by omega) ▸ ckm220
            · by_cases h223 : M < 223
              · by_cases h222 : M < 222
                · exact (show M = 221 by omega) ▸ ckm221
                · exact (show M = 222 by omega) ▸ ckm222
              · by_cases h224 : M < 224
                · exact (show M = 223 by omega) ▸ ckm223
                · by_cases h225 : M < 225
                  · exact (show M = 224 by omega) ▸ ckm224
                  · exact (show M = 225 by omega) ▸ ckm225
        · by_cases h235 : M < 235
          · by_cases h230 : M < 230
            · by_cases h228 : M < 228
              · by_cases h227 : M < 227
                · exact (show M = 226 by omega) ▸ ckm226
                · exact (show M = 227 by omega) ▸ ckm227
              · by_cases h229 : M < 229
                · exact (show M = 228 by omega) ▸ ckm228
                · exact (show M = 229 by omega) ▸ ckm229
            · by_cases h232 : M < 232
              · by_cases h231 : M < 231
                · exact (show M = 230 by omega) ▸ ckm230
                · exact (show M = 231 by omega) ▸ ckm231
              · by_cases h233 : M < 233
                · exact (show M = 232 by omega) ▸ ckm232
                · by_cases h234 : M < 234
                  · exact (show M = 233 by omega) ▸ ckm233
                  · exact (show M = 234 by omega) ▸ ckm234
          · by_cases h239 : M < 239
            · by_cases h237 : M < 237
              · by_cases h236 : M < 236
                · exact (show M = 235 by omega) ▸ ckm235
                · exact (show M = 236 by omega) ▸ ckm236
              · by_cases h238 : M < 238
                · exact (show M = 237 by omega) ▸ ckm237
                · exact (show M = 238 by omega) ▸ ckm238
            · by_cases h241 : M < 241
              · by_cases h240 : M < 240
                · exact (show M = 239 by omega) ▸ ckm239
                · exact (show M = 240 by omega) ▸ ckm240
              · by_cases h242 : M < 242
                · exact (show M = 241 by omega) ▸ ckm241
                · by_cases h243 : M < 243
                  · exact (show M = 242 by omega) ▸ ckm242
                  · exact (show M = 243 by omega) ▸ ckm243
      · by_cases h261 : M < 261
        · by_cases h252 : M < 252
          · by_cases h248 : M < 248
            · by_cases h246 : M < 246
              · by_cases h245 : M < 245
                · exact (show M = 244 by omega) ▸ ckm244
                · exact (show M = 245 by omega) ▸ ckm245
              · by_cases h247 : M < 247
                · exact (show M = 246 by omega) ▸ ckm246
                · exact (show M = 247 by omega) ▸ ckm247
            · by_cases h250 : M < 250
              · by_cases h249 : M < 249
                · exact (show M = 248 by omega) ▸ ckm248
                · exact (show M = 249 by omega) ▸ ckm249
              · by_cases h251 : M < 251
                · exact (show M = 250 by omega) ▸ ckm250
                · exact (show M = 251 by omega) ▸ ckm251
          · by_cases h256 : M < 256
            · by_cases h254 : M < 254
              · by_cases h253 : M < 253
                · exact (show M = 252 by omega) ▸ ckm252
                · exact (show M = 253 by omega) ▸ ckm253
              · by_cases h255 : M < 255
                · exact (show M = 254 by omega) ▸ ckm254
                · exact (show M = 255 by omega) ▸ ckm255
            · by_cases h258 : M < 258
              · by_cases h257 : M < 257
                · exact (show M = 256 by omega) ▸ ckm256
                · exact (show M = 257 by omega) ▸ ckm257
              · by_cases h259 : M < 259
                · exact (show M = 258 by omega) ▸ ckm258
                · by_cases h260 : M < 260
                  · exact (show M = 259 by omega) ▸ ckm259
                  · exact (show M = 260 by omega) ▸ ckm260
        · by_cases h270 : M < 270
          · by_cases h265 : M < 265
            · by_cases h263 : M < 263
              · by_cases h262 : M < 262
                · exact (show M = 261 by omega) ▸ ckm261
                · exact (show M = 262 by omega) ▸ ckm262
              · by_cases h264 : M < 264
                · exact (show M = 263 by omega) ▸ ckm263
                · exact (show M = 264 by omega) ▸ ckm264
            · by_cases h267 : M < 267
              · by_cases h266 : M < 266
                · exact (show M = 265 by omega) ▸ ckm265
                · exact (show M = 266 by omega) ▸ ckm266
              · by_cases h268 : M < 268
                · exact (show M = 267 by omega) ▸ ckm267
                · by_cases h269 : M < 269
                  · exact (show M = 268 by omega) ▸ ckm268
                  · exact (show M = 269 by omega) ▸ ckm269
          · by_cases h274 : M < 274
            · by_cases h272 : M < 272
              · by_cases h271 : M < 271
                · exact (show M = 270 by omega) ▸ ckm270
                · exact (show M = 271 by omega) ▸ ckm271
              · by_cases h273 : M < 273
                · exact (show M = 272 by omega) ▸ ckm272
                · exact (show M = 273 by omega) ▸ ckm273
            · by_cases h276 : M < 276
              · by_cases h275 : M < 275
                · exact (show M = 274 by omega) ▸ ckm274
                · exact (show M = 275 by omega) ▸ ckm275
              · by_cases h277 : M < 277
                · exact (show M = 276 by omega) ▸ ckm276
                · by_cases h278 : M < 278
                  · exact (show M = 277 by omega) ▸ ckm277
                  · exact (show M = 278 by omega) ▸ ckm278
theorem ck_meR : (List.range 279).all (fun M => Nat.beq M 274 || ck_me M) = true := by decide +kernel
theorem ck_met (M : Nat) (h : M < 279) (h2 : M ≠ 274) : ck_me M = true := by
  have h1 := List.all_eq_true.mp ck_meR M (List.mem_range.mpr h)
  rw [Bool.or_eq_true] at h1
  rcases h1 with h1 | h1
  · exact absurd (Nat.eq_of_beq_eq_true h1) h2
  · exact h1
theorem rz_bl {n o : Nat} {A : Option rz_Row} (h : (bif Nat.blt o n then A else none) ≠ none) : o < n := by
  cases hb : Nat.blt o n with
  | false => rw [hb] at h; exact absurd rfl h
  | true => exact Nat.blt_eq.mp hb
theorem ck_z (M o : Nat) (h : M < 279) : mF M o ≠ none → o < mZ M := by
  by_cases h139 : M < 139
  · by_cases h69 : M < 69
    · by_cases h34 : M < 34
      · by_cases h17 : M < 17
        · by_cases h8 : M < 8
          · by_cases h4 : M < 4
            · by_cases h2 : M < 2
              · by_cases h1 : M < 1
                · exact (show M = 0 by omega) ▸ (show fz0 o ≠ none → o < 63 from rz_bl)
                · exact (show M = 1 by omega) ▸ (show fz1 o ≠ none → o < 33 from rz_bl)
              · by_cases h3 : M < 3
                · exact (show M = 2 by omega) ▸ (show fz2 o ≠ none → o < 34 from rz_bl)
                · exact (show M = 3 by omega) ▸ (show fz3 o ≠ none → o < 38 from rz_bl)
            · by_cases h6 : M < 6
              · by_cases h5 : M < 5
                · exact (show M = 4 by omega) ▸ (show fz4 o ≠ none → o < 32 from rz_bl)
                · exact (show M = 5 by omega) ▸ (show fz5 o ≠ none → o < 20 from rz_bl)
              · by_cases h7 : M < 7
                · exact (show M = 6 by omega) ▸ (show fz6 o ≠ none → o < 87 from rz_bl)
                · exact (show M = 7 by omega) ▸ (show fz7 o ≠ none → o < 41 from rz_bl)
          · by_cases h12 : M < 12
            · by_cases h10 : M < 10
              · by_cases h9 : M < 9
                · exact (show M = 8 by omega) ▸ (show fz8 o ≠ none → o < 30 from rz_bl)
                · exact (show M = 9 by omega) ▸ (show fz9 o ≠ none → o < 36 from rz_bl)
              · by_cases h11 : M < 11
                · exact (show M = 10 by omega) ▸ (show fz10 o ≠ none → o < 55 from rz_bl)
                · exact (show M = 11 by omega) ▸ (show fz11 o ≠ none → o < 60 from rz_bl)
            · by_cases h14 : M < 14
              · by_cases h13 : M < 13
                · exact (show M = 12 by omega) ▸ (show fz12 o ≠ none → o < 25 from rz_bl)
                · exact (show M = 13 by omega) ▸ (show fz13 o ≠ none → o < 37 from rz_bl)
              · by_cases h15 : M < 15
                · exact (show M = 14 by omega) ▸ (show fz14 o ≠ none → o < 28 from rz_bl)
                · by_cases h16 : M < 16
                  · exact (show M = 15 by omega) ▸ (show fz15 o ≠ none → o < 22 from rz_bl)
                  · exact (show M = 16 by omega) ▸ (show fz16 o ≠ none → o < 20 from rz_bl)
        · by_cases h25 : M < 25
          · by_cases h21 : M < 21
            · by_cases h19 : M < 19
              · by_cases h18 : M < 18
                · exact (show M = 17 by omega) ▸ (show fz17 o ≠ none → o < 42 from rz_bl)
                · exact (show M = 18 by omega) ▸ (show fz18 o ≠ none → o < 95 from rz_bl)
              · by_cases h20 : M < 20
                · exact (show M = 19 by omega) ▸ (show fz19 o ≠ none → o < 47 from rz_bl)
                · exact (show M = 20 by omega) ▸ (show fz20 o ≠ none → o < 20 from rz_bl)
            · by_cases h23 : M < 23
              · by_cases h22 : M < 22
                · exact (show M = 21 by omega) ▸ (show fz21 o ≠ none → o < 41 from rz_bl)
                · exact (show M = 22 by omega) ▸ (show fz22 o ≠ none → o < 19 from rz_bl)
              · by_cases h24 : M < 24
                · exact (show M = 23 by omega) ▸ (show fz23 o ≠ none → o < 12 from rz_bl)
                · exact (show M = 24 by omega) ▸ (show fz24 o ≠ none → o < 24 from rz_bl)
          · by_cases h29 : M < 29
            · by_cases h27 : M < 27
              · by_cases h26 : M < 26
                · exact (show M = 25 by omega) ▸ (show fz25 o ≠ none → o < 34 from rz_bl)
                · exact (show M = 26 by omega) ▸ (show fz26 o ≠ none → o < 33 from rz_bl)
              · by_cases h28 : M < 28
                · exact (show M = 27 by omega) ▸ (show fz27 o ≠ none → o < 13 from rz_bl)
                · exact (show M = 28 by omega) ▸ (show fz28 o ≠ none → o < 12 from rz_bl)
            · by_cases h31 : M < 31
              · by_cases h30 : M < 30
                · exact (show M = 29 by omega) ▸ (show fz29 o ≠ none → o < 12 from rz_bl)
                · exact (show M = 30 by omega) ▸ (show fz30 o ≠ none → o < 49 from rz_bl)
              · by_cases h32 : M < 32
                · exact (show M = 31 by omega) ▸ (show fz31 o ≠ none → o < 36 from rz_bl)
                · by_cases h33 : M < 33
                  · exact (show M = 32 by omega) ▸ (show fz32 o ≠ none → o < 100 from rz_bl)
                  · exact (show M = 33 by omega) ▸ (show fz33 o ≠ none → o < 10 from rz_bl)
      · by_cases h51 : M < 51
        · by_cases h42 : M < 42
          · by_cases h38 : M < 38
            · by_cases h36 : M < 36
              · by_cases h35 : M < 35
                · exact (show M = 34 by omega) ▸ (show fz34 o ≠ none → o < 7 from rz_bl)
                · exact (show M = 35 by omega) ▸ (show fz35 o ≠ none → o < 7 from rz_bl)
              · by_cases h37 : M < 37
                · exact (show M = 36 by omega) ▸ (show fz36 o ≠ none → o < 11 from rz_bl)
                · exact (show M = 37 by omega) ▸ (show fz37 o ≠ none → o < 19 from rz_bl)
            · by_cases h40 : M < 40
              · by_cases h39 : M < 39
                · exact (show M = 38 by omega) ▸ (show fz38 o ≠ none → o < 14 from rz_bl)
                · exact (show M = 39 by omega) ▸ (show fz39 o ≠ none → o < 16 from rz_bl)
              · by_cases h41 : M < 41
                · exact (show M = 40 by omega) ▸ (show fz40 o ≠ none → o < 12 from rz_bl)
                · exact (show M = 41 by omega) ▸ (show fz41 o ≠ none → o < 7 from rz_bl)
          · by_cases h46 : M < 46
            · by_cases h44 : M < 44
              · by_cases h43 : M < 43
                · exact (show M = 42 by omega) ▸ (show fz42 o ≠ none → o < 21 from rz_bl)
                · exact (show M = 43 by omega) ▸ (show fz43 o ≠ none → o < 25 from rz_bl)
              · by_cases h45 : M < 45
                · exact (show M = 44 by omega) ▸ (show fz44 o ≠ none → o < 23 from rz_bl)
                · exact (show M = 45 by omega) ▸ (show fz45 o ≠ none → o < 22 from rz_bl)
            · by_cases h48 : M < 48
              · by_cases h47 : M < 47
                · exact (show M = 46 by omega) ▸ (show fz46 o ≠ none → o < 24 from rz_bl)
                · exact (show M = 47 by omega) ▸ (show fz47 o ≠ none → o < 26 from rz_bl)
              · by_cases h49 : M < 49
                · exact (show M = 48 by omega) ▸ (show fz48 o ≠ none → o < 7 from rz_bl)
                · by_cases h50 : M < 50
                  · exact (show M = 49 by omega) ▸ (show fz49 o ≠ none → o < 15 from rz_bl)
                  · exact (show M = 50 by omega) ▸ (show fz50 o ≠ none → o < 12 from rz_bl)
        · by_cases h60 : M < 60
          · by_cases h55 : M < 55
            · by_cases h53 : M < 53
              · by_cases h52 : M < 52
                · exact (show M = 51 by omega) ▸ (show fz51 o ≠ none → o < 9 from rz_bl)
                · exact (show M = 52 by omega) ▸ (show fz52 o ≠ none → o < 18 from rz_bl)
              · by_cases h54 : M < 54
                · exact (show M = 53 by omega) ▸ (show fz53 o ≠ none → o < 41 from rz_bl)
                · exact (show M = 54 by omega) ▸ (show fz54 o ≠ none → o < 17 from rz_bl)
            · by_cases h57 : M < 57
              · by_cases h56 : M < 56
                · exact (show M = 55 by omega) ▸ (show fz55 o ≠ none → o < 38 from rz_bl)
                · exact (show M = 56 by omega) ▸ (show fz56 o ≠ none → o < 15 from rz_bl)
              · by_cases h58 : M < 58
                · exact (show M = 57 by omega) ▸ (show fz57 o ≠ none → o < 22 from rz_bl)
                · by_cases h59 : M < 59
                  · exact (show M = 58 by omega) ▸ (show fz58 o ≠ none → o < 27 from rz_bl)
                  · exact (show M = 59 by omega) ▸ (show fz59 o ≠ none → o < 31 from rz_bl)
          · by_cases h64 : M < 64
            · by_cases h62 : M < 62
              · by_cases h61 : M < 61
                · exact (show M = 60 by omega) ▸ (show fz60 o ≠ none → o < 50 from rz_bl)
                · exact (show M = 61 by omega) ▸ (show fz61 o ≠ none → o < 20 from rz_bl)
              · by_cases h63 : M < 63
                · exact (show M = 62 by omega) ▸ (show fz62 o ≠ none → o < 94 from rz_bl)
                · exact (show M = 63 by omega) ▸ (show fz63 o ≠ none → o < 22 from rz_bl)
            · by_cases h66 : M < 66
              · by_cases h65 : M < 65
                · exact (show M = 64 by omega) ▸ (show fz64 o ≠ none → o < 43 from rz_bl)
                · exact (show M = 65 by omega) ▸ (show fz65 o ≠ none → o < 28 from rz_bl)
              · by_cases h67 : M < 67
                · exact (show M = 66 by omega) ▸ (show fz66 o ≠ none → o < 53 from rz_bl)
                · by_cases h68 : M < 68
                  · exact (show M = 67 by omega) ▸ (show fz67 o ≠ none → o < 113 from rz_bl)
                  · exact (show M = 68 by omega) ▸ (show fz68 o ≠ none → o < 94 from rz_bl)
    · by_cases h104 : M < 104
      · by_cases h86 : M < 86
        · by_cases h77 : M < 77
          · by_cases h73 : M < 73
            · by_cases h71 : M < 71
              · by_cases h70 : M < 70
                · exact (show M = 69 by omega) ▸ (show fz69 o ≠ none → o < 13 from rz_bl)
                · exact (show M = 70 by omega) ▸ (show fz70 o ≠ none → o < 107 from rz_bl)
              · by_cases h72 : M < 72
                · exact (show M = 71 by omega) ▸ (show fz71 o ≠ none → o < 43 from rz_bl)
                · exact (show M = 72 by omega) ▸ (show fz72 o ≠ none → o < 141 from rz_bl)
            · by_cases h75 : M < 75
              · by_cases h74 : M < 74
                · exact (show M = 73 by omega) ▸ (show fz73 o ≠ none → o < 51 from rz_bl)
                · exact (show M = 74 by omega) ▸ (show fz74 o ≠ none → o < 30 from rz_bl)
              · by_cases h76 : M < 76
                · exact (show M = 75 by omega) ▸ (show fz75 o ≠ none → o < 27 from rz_bl)
                · exact (show M = 76 by omega) ▸ (show fz76 o ≠ none → o < 49 from rz_bl)
          · by_cases h81 : M < 81
            · by_cases h79 : M < 79
              · by_cases h78 : M < 78
                · exact (show M = 77 by omega) ▸ (show fz77 o ≠ none → o < 19 from rz_bl)
                · exact (show M = 78 by omega) ▸ (show fz78 o ≠ none → o < 151 from rz_bl)
              · by_cases h80 : M < 80
                · exact (show M = 79 by omega) ▸ (show fz79 o ≠ none → o < 116 from rz_bl)
                · exact (show M = 80 by omega) ▸ (show fz80 o ≠ none → o < 61 from rz_bl)
            · by_cases h83 : M < 83
              · by_cases h82 : M < 82
                · exact (show M = 81 by omega) ▸ (show fz81 o ≠ none → o < 58 from rz_bl)
                · exact (show M = 82 by omega) ▸ (show fz82 o ≠ none → o < 162 from rz_bl)
              · by_cases h84 : M < 84
                · exact (show M = 83 by omega) ▸ (show fz83 o ≠ none → o < 60 from rz_bl)
                · by_cases h85 : M < 85
                  · exact (show M = 84 by omega) ▸ (show fz84 o ≠ none → o < 84 from rz_bl)
                  · exact (show M = 85 by omega) ▸ (show fz85 o ≠ none → o < 170 from rz_bl)
        · by_cases h95 : M < 95
          · by_cases h90 : M < 90
            · by_cases h88 : M < 88
              · by_cases h87 : M < 87
                · exact (show M = 86 by omega) ▸ (show fz86 o ≠ none → o < 25 from rz_bl)
                · exact (show M = 87 by omega) ▸ (show fz87 o ≠ none → o < 19 from rz_bl)
              · by_cases h89 : M < 89
                · exact (show M = 88 by omega) ▸ (show fz88 o ≠ none → o < 21 from rz_bl)
                · exact (show M = 89 by omega) ▸ (show fz89 o ≠ none → o < 29 from rz_bl)
            · by_cases h92 : M < 92
              · by_cases h91 : M < 91
                · exact (show M = 90 by omega) ▸ (show fz90 o ≠ none → o < 14 from rz_bl)
                · exact (show M = 91 by omega) ▸ (show fz91 o ≠ none → o < 89 from rz_bl)
              · by_cases h93 : M < 93
                · exact (show M = 92 by omega) ▸ (show fz92 o ≠ none → o < 63 from rz_bl)
                · by_cases h94 : M < 94
                  · exact (show M = 93 by omega) ▸ (show fz93 o ≠ none → o < 35 from rz_bl)
                  · exact (show M = 94 by omega) ▸ (show fz94 o ≠ none → o < 36 from rz_bl)
          · by_cases h99 : M < 99
            · by_cases h97 : M < 97
              · by_cases h96 : M < 96
                · exact (show M = 95 by omega) ▸ (show fz95 o ≠ none → o < 57 from rz_bl)
                · exact (show M = 96 by omega) ▸ (show fz96 o ≠ none → o < 60 from rz_bl)
              · by_cases h98 : M < 98
                · exact (show M = 97 by omega) ▸ (show fz97 o ≠ none → o < 59 from rz_bl)
                · exact (show M = 98 by omega) ▸ (show fz98 o ≠ none → o < 41 from rz_bl)
            · by_cases h101 : M < 101
              · by_cases h100 : M < 100
                · exact (show M = 99 by omega) ▸ (show fz99 o ≠ none → o < 21 from rz_bl)
                · exact (show M = 100 by omega) ▸ (show fz100 o ≠ none → o < 20 from rz_bl)
              · by_cases h102 : M < 102
                · exact (show M = 101 by omega) ▸ (show fz101 o ≠ none → o < 75 from rz_bl)
                · by_cases h103 : M < 103
                  · exact (show M = 102 by omega) ▸ (show fz102 o ≠ none → o < 49 from rz_bl)
                  · exact (show M = 103 by omega) ▸ (show fz103 o ≠ none → o < 56 from rz_bl)
      · by_cases h121 : M < 121
        · by_cases h112 : M < 112
          · by_cases h108 : M < 108
            · by_cases h106 : M < 106
              · by_cases h105 : M < 105
                · exact (show M = 104 by omega) ▸ (show fz104 o ≠ none → o < 42 from rz_bl)
                · exact (show M = 105 by omega) ▸ (show fz105 o ≠ none → o < 28 from rz_bl)
              · by_cases h107 : M < 107
                · exact (show M = 106 by omega) ▸ (show fz106 o ≠ none → o < 41 from rz_bl)
                · exact (show M = 107 by omega) ▸ (show fz107 o ≠ none → o < 24 from rz_bl)
            · by_cases h110 : M < 110
              · by_cases h109 : M < 109
                · exact (show M = 108 by omega) ▸ (show fz108 o ≠ none → o < 91 from rz_bl)
                · exact (show M = 109 by omega) ▸ (show fz109 o ≠ none → o < 28 from rz_bl)
              · by_cases h111 : M < 111
                · exact (show M = 110 by omega) ▸ (show fz110 o ≠ none → o < 62 from rz_bl)
                · exact (show M = 111 by omega) ▸ (show fz111 o ≠ none → o < 72 from rz_bl)
          · by_cases h116 : M < 116
            · by_cases h114 : M < 114
              · by_cases h113 : M < 113
                · exact (show M = 112 by omega) ▸ (show fz112 o ≠ none → o < 85 from rz_bl)
                · exact (show M = 113 by omega) ▸ (show fz113 o ≠ none → o < 23 from rz_bl)
              · by_cases h115 : M < 115
                · exact (show M = 114 by omega) ▸ (show fz114 o ≠ none → o < 70 from rz_bl)
                · exact (show M = 115 by omega) ▸ (show fz115 o ≠ none → o < 24 from rz_bl)
            · by_cases h118 : M < 118
              · by_cases h117 : M < 117
                · exact (show M = 116 by omega) ▸ (show fz116 o ≠ none → o < 19 from rz_bl)
                · exact (show M = 117 by omega) ▸ (show fz117 o ≠ none → o < 47 from rz_bl)
              · by_cases h119 : M < 119
                · exact (show M = 118 by omega) ▸ (show fz118 o ≠ none → o < 17 from rz_bl)
                · by_cases h120 : M < 120
                  · exact (show M = 119 by omega) ▸ (show fz119 o ≠ none → o < 37 from rz_bl)
                  · exact (show M = 120 by omega) ▸ (show fz120 o ≠ none → o < 64 from rz_bl)
        · by_cases h130 : M < 130
          · by_cases h125 : M < 125
            · by_cases h123 : M < 123
              · by_cases h122 : M < 122
                · exact (show M = 121 by omega) ▸ (show fz121 o ≠ none → o < 50 from rz_bl)
                · exact (show M = 122 by omega) ▸ (show fz122 o ≠ none → o < 45 from rz_bl)
              · by_cases h124 : M < 124
                · exact (show M = 123 by omega) ▸ (show fz123 o ≠ none → o < 41 from rz_bl)
                · exact (show M = 124 by omega) ▸ (show fz124 o ≠ none → o < 17 from rz_bl)
            · by_cases h127 : M < 127
              · by_cases h126 : M < 126
                · exact (show M = 125 by omega) ▸ (show fz125 o ≠ none → o < 16 from rz_bl)
                · exact (show M = 126 by omega) ▸ (show fz126 o ≠ none → o < 71 from rz_bl)
              · by_cases h128 : M < 128
                · exact (show M = 127 by omega) ▸ (show fz127 o ≠ none → o < 120 from rz_bl)
                · by_cases h129 : M < 129
                  · exact (show M = 128 by omega) ▸ (show fz128 o ≠ none → o < 32 from rz_bl)
                  · exact (show M = 129 by omega) ▸ (show fz129 o ≠ none → o < 52 from rz_bl)
          · by_cases h134 : M < 134
            · by_cases h132 : M < 132
              · by_cases h131 : M < 131
                · exact (show M = 130 by omega) ▸ (show fz130 o ≠ none → o < 14 from rz_bl)
                · exact (show M = 131 by omega) ▸ (show fz131 o ≠ none → o < 13 from rz_bl)
              · by_cases h133 : M < 133
                · exact (show M = 132 by omega) ▸ (show fz132 o ≠ none → o < 12 from rz_bl)
                · exact (show M = 133 by omega) ▸ (show fz133 o ≠ none → o < 41 from rz_bl)
            · by_cases h136 : M < 136
              · by_cases h135 : M < 135
                · exact (show M = 134 by omega) ▸ (show fz134 o ≠ none → o < 69 from rz_bl)
                · exact (show M = 135 by omega) ▸ (show fz135 o ≠ none → o < 14 from rz_bl)
              · by_cases h137 : M < 137
                · exact (show M = 136 by omega) ▸ (show fz136 o ≠ none → o < 3 from rz_bl)
                · by_cases h138 : M < 138
                  · exact (show M = 137 by omega) ▸ (show fz137 o ≠ none → o < 3 from rz_bl)
                  · exact (show M = 138 by omega) ▸ (show fz138 o ≠ none → o < 3 from rz_bl)
  · by_cases h209 : M < 209
    · by_cases h174 : M < 174
      · by_cases h156 : M < 156
        · by_cases h147 : M < 147
          · by_cases h143 : M < 143
            · by_cases h141 : M < 141
              · by_cases h140 : M < 140
                · exact (show M = 139 by omega) ▸ (show fz139 o ≠ none → o < 3 from rz_bl)
                · exact (show M = 140 by omega) ▸ (show fz140 o ≠ none → o < 3 from rz_bl)
              · by_cases h142 : M < 142
                · exact (show M = 141 by omega) ▸ (show fz141 o ≠ none → o < 3 from rz_bl)
                · exact (show M = 142 by omega) ▸ (show fz142 o ≠ none → o < 7 from rz_bl)
            · by_cases h145 : M < 145
              · by_cases h144 : M < 144
                · exact (show M = 143 by omega) ▸ (show fz143 o ≠ none → o < 13 from rz_bl)
                · exact (show M = 144 by omega) ▸ (show fz144 o ≠ none → o < 22 from rz_bl)
              · by_cases h146 : M < 146
                · exact (show M = 145 by omega) ▸ (show fz145 o ≠ none → o < 18 from rz_bl)
                · exact (show M = 146 by omega) ▸ (show fz146 o ≠ none → o < 32 from rz_bl)
          · by_cases h151 : M < 151
            · by_cases h149 : M < 149
              · by_cases h148 : M < 148
                · exact (show M = 147 by omega) ▸ (show fz147 o ≠ none → o < 35 from rz_bl)
                · exact (show M = 148 by omega) ▸ (show fz148 o ≠ none → o < 58 from rz_bl)
              · by_cases h150 : M < 150
                · exact (show M = 149 by omega) ▸ (show fz149 o ≠ none → o < 11 from rz_bl)
                · exact (show M = 150 by omega) ▸ (show fz150 o ≠ none → o < 10 from rz_bl)
            · by_cases h153 : M < 153
              · by_cases h152 : M < 152
                · exact (show M = 151 by omega) ▸ (show fz151 o ≠ none → o < 4 from rz_bl)
                · exact (show M = 152 by omega) ▸ (show fz152 o ≠ none → o < 27 from rz_bl)
              · by_cases h154 : M < 154
                · exact (show M = 153 by omega) ▸ (show fz153 o ≠ none → o < 57 from rz_bl)
                · by_cases h155 : M < 155
                  · exact (show M = 154 by omega) ▸ (show fz154 o ≠ none → o < 24 from rz_bl)
                  · exact (show M = 155 by omega) ▸ (show fz155 o ≠ none → o < 59 from rz_bl)
        · by_cases h165 : M < 165
          · by_cases h160 : M < 160
            · by_cases h158 : M < 158
              · by_cases h157 : M < 157
                · exact (show M = 156 by omega) ▸ (show fz156 o ≠ none → o < 8 from rz_bl)
                · exact (show M = 157 by omega) ▸ (show fz157 o ≠ none → o < 3 from rz_bl)
              · by_cases h159 : M < 159
                · exact (show M = 158 by omega) ▸ (show fz158 o ≠ none → o < 14 from rz_bl)
                · exact (show M = 159 by omega) ▸ (show fz159 o ≠ none → o < 27 from rz_bl)
            · by_cases h162 : M < 162
              · by_cases h161 : M < 161
                · exact (show M = 160 by omega) ▸ (show fz160 o ≠ none → o < 35 from rz_bl)
                · exact (show M = 161 by omega) ▸ (show fz161 o ≠ none → o < 35 from rz_bl)
              · by_cases h163 : M < 163
                · exact (show M = 162 by omega) ▸ (show fz162 o ≠ none → o < 35 from rz_bl)
                · by_cases h164 : M < 164
                  · exact (show M = 163 by omega) ▸ (show fz163 o ≠ none → o < 48 from rz_bl)
                  · exact (show M = 164 by omega) ▸ (show fz164 o ≠ none → o < 13 from rz_bl)
          · by_cases h169 : M < 169
            · by_cases h167 : M < 167
              · by_cases h166 : M < 166
                · exact (show M = 165 by omega) ▸ (show fz165 o ≠ none → o < 8 from rz_bl)
                · exact (show M = 166 by omega) ▸ (show fz166 o ≠ none → o < 4 from rz_bl)
              · by_cases h168 : M < 168
                · exact (show M = 167 by omega) ▸ (show fz167 o ≠ none → o < 13 from rz_bl)
                · exact (show M = 168 by omega) ▸ (show fz168 o ≠ none → o < 35 from rz_bl)
            · by_cases h171 : M < 171
              · by_cases h170 : M < 170
                · exact (show M = 169 by omega) ▸ (show fz169 o ≠ none → o < 26 from rz_bl)
                · exact (show M = 170 by omega) ▸ (show fz170 o ≠ none → o < 42 from rz_bl)
              · by_cases h172 : M < 172
                · exact (show M = 171 by omega) ▸ (show fz171 o ≠ none → o < 55 from rz_bl)
                · by_cases h173 : M < 173
                  · exact (show M = 172 by omega) ▸ (show fz172 o ≠ none → o < 53 from rz_bl)
                  · exact (show M = 173 by omega) ▸ (show fz173 o ≠ none → o < 45 from rz_bl)
      · by_cases h191 : M < 191
        · by_cases h182 : M < 182
          · by_cases h178 : M < 178
            · by_cases h176 : M < 176
              · by_cases h175 : M < 175
                · exact (show M = 174 by omega) ▸ (show fz174 o ≠ none → o < 22 from rz_bl)
                · exact (show M = 175 by omega) ▸ (show fz175 o ≠ none → o < 23 from rz_bl)
              · by_cases h177 : M < 177
                · exact (show M = 176 by omega) ▸ (show fz176 o ≠ none → o < 19 from rz_bl)
                · exact (show M = 177 by omega) ▸ (show fz177 o ≠ none → o < 29 from rz_bl)
            · by_cases h180 : M < 180
              · by_cases h179 : M < 179
                · exact (show M = 178 by omega) ▸ (show fz178 o ≠ none → o < 3 from rz_bl)
                · exact (show M = 179 by omega) ▸ (show fz179 o ≠ none → o < 3 from rz_bl)
              · by_cases h181 : M < 181
                · exact (show M = 180 by omega) ▸ (show fz180 o ≠ none → o < 4 from rz_bl)
                · exact (show M = 181 by omega) ▸ (show fz181 o ≠ none → o < 20 from rz_bl)
          · by_cases h186 : M < 186
            · by_cases h184 : M < 184
              · by_cases h183 : M < 183
                · exact (show M = 182 by omega) ▸ (show fz182 o ≠ none → o < 15 from rz_bl)
                · exact (show M = 183 by omega) ▸ (show fz183 o ≠ none → o < 27 from rz_bl)
              · by_cases h185 : M < 185
                · exact (show M = 184 by omega) ▸ (show fz184 o ≠ none → o < 27 from rz_bl)
                · exact (show M = 185 by omega) ▸ (show fz185 o ≠ none → o < 33 from rz_bl)
            · by_cases h188 : M < 188
              · by_cases h187 : M < 187
                · exact (show M = 186 by omega) ▸ (show fz186 o ≠ none → o < 29 from rz_bl)
                · exact (show M = 187 by omega) ▸ (show fz187 o ≠ none → o < 47 from rz_bl)
              · by_cases h189 : M < 189
                · exact (show M = 188 by omega) ▸ (show fz188 o ≠ none → o < 52 from rz_bl)
                · by_cases h190 : M < 190
                  · exact (show M = 189 by omega) ▸ (show fz189 o ≠ none → o < 63 from rz_bl)
                  · exact (show M = 190 by omega) ▸ (show fz190 o ≠ none → o < 34 from rz_bl)
        · by_cases h200 : M < 200
          · by_cases h195 : M < 195
            · by_cases h193 : M < 193
              · by_cases h192 : M < 192
                · exact (show M = 191 by omega) ▸ (show fz191 o ≠ none → o < 32 from rz_bl)
                · exact (show M = 192 by omega) ▸ (show fz192 o ≠ none → o < 29 from rz_bl)
              · by_cases h194 : M < 194
                · exact (show M = 193 by omega) ▸ (show fz193 o ≠ none → o < 7 from rz_bl)
                · exact (show M = 194 by omega) ▸ (show fz194 o ≠ none → o < 3 from rz_bl)
            · by_cases h197 : M < 197
              · by_cases h196 : M < 196
                · exact (show M = 195 by omega) ▸ (show fz195 o ≠ none → o < 3 from rz_bl)
                · exact (show M = 196 by omega) ▸ (show fz196 o ≠ none → o < 46 from rz_bl)
              · by_cases h198 : M < 198
                · exact (show M = 197 by omega) ▸ (show fz197 o ≠ none → o < 33 from rz_bl)
                · by_cases h199 : M < 199
                  · exact (show M = 198 by omega) ▸ (show fz198 o ≠ none → o < 14 from rz_bl)
                  · exact (show M = 199 by omega) ▸ (show fz199 o ≠ none → o < 14 from rz_bl)
          · by_cases h204 : M < 204
            · by_cases h202 : M < 202
              · by_cases h201 : M < 201
                · exact (show M = 200 by omega) ▸ (show fz200 o ≠ none → o < 14 from rz_bl)
                · exact (show M = 201 by omega) ▸ (show fz201 o ≠ none → o < 14 from rz_bl)
              · by_cases h203 : M < 203
                · exact (show M = 202 by omega) ▸ (show fz202 o ≠ none → o < 18 from rz_bl)
                · exact (show M = 203 by omega) ▸ (show fz203 o ≠ none → o < 18 from rz_bl)
            · by_cases h206 : M < 206
              · by_cases h205 : M < 205
                · exact (show M = 204 by omega) ▸ (show fz204 o ≠ none → o < 7 from rz_bl)
                · exact (show M = 205 by omega) ▸ (show fz205 o ≠ none → o < 3 from rz_bl)
              · by_cases h207 : M < 207
                · exact (show M = 206 by omega) ▸ (show fz206 o ≠ none → o < 4 from rz_bl)
                · by_cases h208 : M < 208
                  · exact (show M = 207 by omega) ▸ (show fz207 o ≠ none → o < 30 from rz_bl)
                  · exact (show M = 208 by omega) ▸ (show fz208 o ≠ none → o < 78 from rz_bl)
    · by_cases h244 : M < 244
      · by_cases h226 : M < 226
        · by_cases h217 : M < 217
          · by_cases h213 : M < 213
            · by_cases h211 : M < 211
              · by_cases h210 : M < 210
                · exact (show M = 209 by omega) ▸ (show fz209 o ≠ none → o < 30 from rz_bl)
                · exact (show M = 210 by omega) ▸ (show fz210 o ≠ none → o < 30 from rz_bl)
              · by_cases h212 : M < 212
                · exact (show M = 211 by omega) ▸ (show fz211 o ≠ none → o < 53 from rz_bl)
                · exact (show M = 212 by omega) ▸ (show fz212 o ≠ none → o < 19 from rz_bl)
            · by_cases h215 : M < 215
              · by_cases h214 : M < 214
                · exact (show M = 213 by omega) ▸ (show fz213 o ≠ none → o < 33 from rz_bl)
                · exact (show M = 214 by omega) ▸ (show fz214 o ≠ none → o < 37 from rz_bl)
              · by_cases h216 : M < 216
                · exact (show M = 215 by omega) ▸ (show fz215 o ≠ none → o < 46 from rz_bl)
                · exact (show M = 216 by omega) ▸ (show fz216 o ≠ none → o < 14 from rz_bl)
          · by_cases h221 : M < 221
            · by_cases h219 : M < 219
              · by_cases h218 : M < 218
                · exact (show M = 217 by omega) ▸ (show fz217 o ≠ none → o < 31 from rz_bl)
                · exact (show M = 218 by omega) ▸ (show fz218 o ≠ none → o < 20 from rz_bl)
              · by_cases h220 : M < 220
                · exact (show M = 219 by omega) ▸ (show fz219 o ≠ none → o < 31 from rz_bl)
                · exact (show M = 220 by omega) ▸ (show fz220 o ≠ none → o < 70 from rz_bl)
            · by_cases h223 : M < 223
              · by_cases h222 : M < 222
                · exact (show M = 221 by omega) ▸ (show fz221 o ≠ none → o < 89 from rz_bl)
                · exact (show M = 222 by omega) ▸ (show fz222 o ≠ none → o < 28 from rz_bl)
              · by_cases h224 : M < 224
                · exact (show M = 223 by omega) ▸ (show fz223 o ≠ none → o < 35 from rz_bl)
                · by_cases h225 : M < 225
                  · exact (show M = 224 by omega) ▸ (show fz224 o ≠ none → o < 29 from rz_bl)
                  · exact (show M = 225 by omega) ▸ (show fz225 o ≠ none → o < 6 from rz_bl)
        · by_cases h235 : M < 235
          · by_cases h230 : M < 230
            · by_cases h228 : M < 228
              · by_cases h227 : M < 227
                · exact (show M = 226 by omega) ▸ (show fz226 o ≠ none → o < 13 from rz_bl)
                · exact (show M = 227 by omega) ▸ (show fz227 o ≠ none → o < 16 from rz_bl)
              · by_cases h229 : M < 229
                · exact (show M = 228 by omega) ▸ (show fz228 o ≠ none → o < 3 from rz_bl)
                · exact (show M = 229 by omega) ▸ (show fz229 o ≠ none → o < 7 from rz_bl)
            · by_cases h232 : M < 232
              · by_cases h231 : M < 231
                · exact (show M = 230 by omega) ▸ (show fz230 o ≠ none → o < 7 from rz_bl)
                · exact (show M = 231 by omega) ▸ (show fz231 o ≠ none → o < 10 from rz_bl)
              · by_cases h233 : M < 233
                · exact (show M = 232 by omega) ▸ (show fz232 o ≠ none → o < 6 from rz_bl)
                · by_cases h234 : M < 234
                  · exact (show M = 233 by omega) ▸ (show fz233 o ≠ none → o < 10 from rz_bl)
                  · exact (show M = 234 by omega) ▸ (show fz234 o ≠ none → o < 13 from rz_bl)
          · by_cases h239 : M < 239
            · by_cases h237 : M < 237
              · by_cases h236 : M < 236
                · exact (show M = 235 by omega) ▸ (show fz235 o ≠ none → o < 41 from rz_bl)
                · exact (show M = 236 by omega) ▸ (show fz236 o ≠ none → o < 10 from rz_bl)
              · by_cases h238 : M < 238
                · exact (show M = 237 by omega) ▸ (show fz237 o ≠ none → o < 17 from rz_bl)
                · exact (show M = 238 by omega) ▸ (show fz238 o ≠ none → o < 23 from rz_bl)
            · by_cases h241 : M < 241
              · by_cases h240 : M < 240
                · exact (show M = 239 by omega) ▸ (show fz239 o ≠ none → o < 79 from rz_bl)
                · exact (show M = 240 by omega) ▸ (show fz240 o ≠ none → o < 24 from rz_bl)
              · by_cases h242 : M < 242
                · exact (show M = 241 by omega) ▸ (show fz241 o ≠ none → o < 136 from rz_bl)
                · by_cases h243 : M < 243
                  · exact (show M = 242 by omega) ▸ (show fz242 o ≠ none → o < 45 from rz_bl)
                  · exact (show M = 243 by omega) ▸ (show fz243 o ≠ none → o < 47 from rz_bl)
      · by_cases h261 : M < 261
        · by_cases h252 : M < 252
          · by_cases h248 : M < 248
            · by_cases h246 : M < 246
              · by_cases h245 : M < 245
                · exact (show M = 244 by omega) ▸ (show fz244 o ≠ none → o < 65 from rz_bl)
                · exact (show M = 245 by omega) ▸ (show fz245 o ≠ none → o < 46 from rz_bl)
              · by_cases h247 : M < 247
                · exact (show M = 246 by omega) ▸ (show fz246 o ≠ none → o < 12 from rz_bl)
                · exact (show M = 247 by omega) ▸ (show fz247 o ≠ none → o < 51 from rz_bl)
            · by_cases h250 : M < 250
              · by_cases h249 : M < 249
                · exact (show M = 248 by omega) ▸ (show fz248 o ≠ none → o < 19 from rz_bl)
                · exact (show M = 249 by omega) ▸ (show fz249 o ≠ none → o < 21 from rz_bl)
              · by_cases h251 : M < 251
                · exact (show M = 250 by omega) ▸ (show fz250 o ≠ none → o < 16 from rz_bl)
                · exact (show M = 251 by omega) ▸ (show fz251 o ≠ none → o < 24 from rz_bl)
          · by_cases h256 : M < 256
            · by_cases h254 : M < 254
              · by_cases h253 : M < 253
                · exact (show M = 252 by omega) ▸ (show fz252 o ≠ none → o < 27 from rz_bl)
                · exact (show M = 253 by omega) ▸ (show fz253 o ≠ none → o < 27 from rz_bl)
              · by_cases h255 : M < 255
                · exact (show M = 254 by omega) ▸ (show fz254 o ≠ none → o < 20 from rz_bl)
                · exact (show M = 255 by omega) ▸ (show fz255 o ≠ none → o < 37 from rz_bl)
            · by_cases h258 : M < 258
              · by_cases h257 : M < 257
                · exact (show M = 256 by omega) ▸ (show fz256 o ≠ none → o < 22 from rz_bl)
                · exact (show M = 257 by omega) ▸ (show fz257 o ≠ none → o < 43 from rz_bl)
              · by_cases h259 : M < 259
                · exact (show M = 258 by omega) ▸ (show fz258 o ≠ none → o < 51 from rz_bl)
                · by_cases h260 : M < 260
                  · exact (show M = 259 by omega) ▸ (show fz259 o ≠ none → o < 40 from rz_bl)
                  · exact (show M = 260 by omega) ▸ (show fz260 o ≠ none → o < 27 from rz_bl)
        · by_cases h270 : M < 270
          · by_cases h265 : M < 265
            · by_cases h263 : M < 263
              · by_cases h262 : M < 262
                · exact (show M = 261 by omega) ▸ (show fz261 o ≠ none → o < 35 from rz_bl)
                · exact (show M = 262 by omega) ▸ (show fz262 o ≠ none → o < 52 from rz_bl)
              · by_cases h264 : M < 264
                · exact (show M = 263 by omega) ▸ (show fz263 o ≠ none → o < 18 from rz_bl)
                · exact (show M = 264 by omega) ▸ (show fz264 o ≠ none → o < 33 from rz_bl)
            · by_cases h267 : M < 267
              · by_cases h266 : M < 266
                · exact (show M = 265 by omega) ▸ (show fz265 o ≠ none → o < 35 from rz_bl)
                · exact (show M = 266 by omega) ▸ (show fz266 o ≠ none → o < 26 from rz_bl)
              · by_cases h268 : M < 268
                · exact (show M = 267 by omega) ▸ (show fz267 o ≠ none → o < 10 from rz_bl)
                · by_cases h269 : M < 269
                  · exact (show M = 268 by omega) ▸ (show fz268 o ≠ none → o < 3 from rz_bl)
                  · exact (show M = 269 by omega) ▸ (show fz269 o ≠ none → o < 18 from rz_bl)
          · by_cases h274 : M < 274
            · by_cases h272 : M < 272
              · by_cases h271 : M < 271
                · exact (show M = 270 by omega) ▸ (show fz270 o ≠ none → o < 32 from rz_bl)
                · exact (show M = 271 by omega) ▸ (show fz271 o ≠ none → o < 20 from rz_bl)
              · by_cases h273 : M < 273
                · exact (show M = 272 by omega) ▸ (show fz272 o ≠ none → o < 4 from rz_bl)
                · exact (show M = 273 by omega) ▸ (show fz273 o ≠ none → o < 860 from rz_bl)
            · by_cases h276 : M < 276
              · by_cases h275 : M < 275
                · exact (show M = 274 by omega) ▸ (show fz274 o ≠ none → o < 1 from rz_bl)
                · exact (show M = 275 by omega) ▸ (show fz275 o ≠ none → o < 42 from rz_bl)
              · by_cases h277 : M < 277
                · exact (show M = 276 by omega) ▸ (show fz276 o ≠ none → o < 16 from rz_bl)
                · by_cases h278 : M < 278
                  · exact (show M = 277 by omega) ▸ (show fz277 o ≠ none → o < 7 from rz_bl)
                  · exact (show M = 278 by omega) ▸ (show fz278 o ≠ none → o < 7 from rz_bl)
theorem ck_p0R : (List.range 279).all (fun M => Nat.beq (rpc M 0) 0) = true := by decide +kernel
theorem rz_tabs : rz_Tab := ⟨ck_prog, ck_met, fun M o h => ck_z M o h, fun M h => Nat.eq_of_beq_eq_true (List.all_eq_true.mp ck_p0R M (List.mem_range.mpr h))⟩
