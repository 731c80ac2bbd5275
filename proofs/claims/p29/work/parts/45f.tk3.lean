/-! the tables say what the code says -/
theorem sx_tj165 : sx_tk2 (am_co am_P 165) sx_tb165 0 = true := by decide +kernel
theorem sx_tj166 : sx_tk2 (am_co am_P 166) sx_tb166 0 = true := by decide +kernel
theorem sx_tj167 : sx_tk2 (am_co am_P 167) sx_tb167 0 = true := by decide +kernel
theorem sx_tj168 : sx_tk2 (am_co am_P 168) sx_tb168 0 = true := by decide +kernel
theorem sx_tj169 : sx_tk2 (am_co am_P 169) sx_tb169 0 = true := by decide +kernel
theorem sx_tj170 : sx_tk2 (am_co am_P 170) sx_tb170 0 = true := by decide +kernel
theorem sx_tj171 : sx_tk2 (am_co am_P 171) sx_tb171 0 = true := by decide +kernel
theorem sx_tj172 : sx_tk2 (am_co am_P 172) sx_tb172 0 = true := by decide +kernel
theorem sx_tj173 : sx_tk2 (am_co am_P 173) sx_tb173 0 = true := by decide +kernel
theorem sx_tj174 : sx_tk2 (am_co am_P 174) sx_tb174 0 = true := by decide +kernel
theorem sx_tj175 : sx_tk2 (am_co am_P 175) sx_tb175 0 = true := by decide +kernel
theorem sx_tj176 : sx_tk2 (am_co am_P 176) sx_tb176 0 = true := by decide +kernel
theorem sx_tj177 : sx_tk2 (am_co am_P 177) sx_tb177 0 = true := by decide +kernel
theorem sx_tj180 : sx_tk2 (am_co am_P 180) sx_tb180 0 = true := by decide +kernel
theorem sx_tj181 : sx_tk2 (am_co am_P 181) sx_tb181 0 = true := by decide +kernel
theorem sx_tj182 : sx_tk2 (am_co am_P 182) sx_tb182 0 = true := by decide +kernel
theorem sx_tj183 : sx_tk2 (am_co am_P 183) sx_tb183 0 = true := by decide +kernel
theorem sx_tj184 : sx_tk2 (am_co am_P 184) sx_tb184 0 = true := by decide +kernel
theorem sx_tj185 : sx_tk2 (am_co am_P 185) sx_tb185 0 = true := by decide +kernel
theorem sx_tj187 : sx_tk2 (am_co am_P 187) sx_tb187 0 = true := by decide +kernel
theorem sx_tj188 : sx_tk2 (am_co am_P 188) sx_tb188 0 = true := by decide +kernel
theorem sx_tj190 : sx_tk2 (am_co am_P 190) sx_tb190 0 = true := by decide +kernel
theorem sx_tj191 : sx_tk2 (am_co am_P 191) sx_tb191 0 = true := by decide +kernel
theorem sx_tj192 : sx_tk2 (am_co am_P 192) sx_tb192 0 = true := by decide +kernel
theorem sx_tj193 : sx_tk2 (am_co am_P 193) sx_tb193 0 = true := by decide +kernel
theorem sx_tj194 : sx_tk2 (am_co am_P 194) sx_tb194 0 = true := by decide +kernel
theorem sx_tjs : ∀ j, j < 208 → ∀ tb, sx_at2 sx_TTs j = some tb → sx_tk2 (am_co am_P j) tb 0 = true
  | 0, _, _, h => by cases h; exact rfl
  | 1, _, _, h => by cases h; exact rfl
  | 2, _, _, h => by cases h; exact sx_tj2
  | 3, _, _, h => by cases h; exact sx_tj3
  | 4, _, _, h => by cases h; exact sx_tj4
  | 5, _, _, h => by cases h; exact rfl
  | 6, _, _, h => by cases h; exact rfl
  | 7, _, _, h => by cases h; exact rfl
  | 8, _, _, h => by cases h; exact rfl
  | 9, _, _, h => by cases h; exact sx_tj9
  | 10, _, _, h => by cases h; exact sx_tj10
  | 11, _, _, h => by cases h; exact sx_tj11
  | 12, _, _, h => by cases h; exact sx_tj12
  | 13, _, _, h => by cases h; exact sx_tj13
  | 14, _, _, h => by cases h; exact sx_tj14
  | 15, _, _, h => by cases h; exact sx_tj15
  | 16, _, _, h => by cases h; exact sx_tj16
  | 17, _, _, h => by cases h; exact sx_tj17
  | 18, _, _, h => by cases h; exact sx_tj18
  | 19, _, _, h => by cases h; exact sx_tj19
  | 20, _, _, h => by cases h; exact sx_tj20
  | 21, _, _, h => by cases h; exact sx_tj21
  | 22, _, _, h => by cases h; exact sx_tj22
  | 23, _, _, h => by cases h; exact sx_tj23
  | 24, _, _, h => by cases h; exact sx_tj24
  | 25, _, _, h => by cases h; exact sx_tj25
  | 26, _, _, h => by cases h; exact sx_tj26
  | 27, _, _, h => by cases h; exact rfl
  | 28, _, _, h => by cases h; exact rfl
  | 29, _, _, h => by cases h; exact sx_tj29
  | 30, _, _, h => by cases h; exact sx_tj30
  | 31, _, _, h => by cases h; exact rfl
  | 32, _, _, h => by cases h; exact rfl
  | 33, _, _, h => by cases h; exact rfl
  | 34, _, _, h => by cases h; exact sx_tj34
  | 35, _, _, h => by cases h; exact sx_tj35
  | 36, _, _, h => by cases h; exact sx_tj36
  | 37, _, _, h => by cases h; exact sx_tj37
  | 38, _, _, h => by cases h; exact sx_tj38
  | 39, _, _, h => by cases h; exact sx_tj39
  | 40, _, _, h => by cases h; exact sx_tj40
  | 41, _, _, h => by cases h; exact sx_tj41
  | 42, _, _, h => by cases h; exact sx_tj42
  | 43, _, _, h => by cases h; exact sx_tj43
  | 44, _, _, h => by cases h; exact sx_tj44
  | 45, _, _, h => by cases h; exact rfl
  | 46, _, _, h => by cases h; exact sx_tj46
  | 47, _, _, h => by cases h; exact sx_tj47
  | 48, _, _, h => by cases h; exact rfl
  | 49, _, _, h => by cases h; exact sx_tj49
  | 50, _, _, h => by cases h; exact sx_tj50
  | 51, _, _, h => by cases h; exact rfl
  | 52, _, _, h => by cases h; exact sx_tj52
  | 53, _, _, h => by cases h; exact rfl
  | 54, _, _, h => by cases h; exact sx_tj54
  | 55, _, _, h => by cases h; exact rfl
  | 56, _, _, h => by cases h; exact rfl
  | 57, _, _, h => by cases h; exact rfl
  | 58, _, _, h => by cases h; exact rfl
  | 59, _, _, h => by cases h; exact sx_tj59
  | 60, _, _, h => by cases h; exact sx_tj60
  | 61, _, _, h => by cases h; exact sx_tj61
  | 62, _, _, h => by cases h; exact rfl
  | 63, _, _, h => by cases h; exact sx_tj63
  | 64, _, _, h => by cases h; exact rfl
  | 65, _, _, h => by cases h; exact rfl
  | 66, _, _, h => by cases h; exact sx_tj66
  | 67, _, _, h => by cases h; exact sx_tj67
  | 68, _, _, h => by cases h; exact sx_tj68
  | 69, _, _, h => by cases h; exact sx_tj69
  | 70, _, _, h => by cases h; exact sx_tj70
  | 71, _, _, h => by cases h; exact sx_tj71
  | 72, _, _, h => by cases h; exact sx_tj72
  | 73, _, _, h => by cases h; exact sx_tj73
  | 74, _, _, h => by cases h; exact rfl
  | 75, _, _, h => by cases h; exact sx_tj75
  | 76, _, _, h => by cases h; exact sx_tj76
  | 77, _, _, h => by cases h; exact sx_tj77
  | 78, _, _, h => by cases h; exact rfl
  | 79, _, _, h => by cases h; exact rfl
  | 80, _, _, h => by cases h; exact sx_tj80
  | 81, _, _, h => by cases h; exact rfl
  | 82, _, _, h => by cases h; exact sx_tj82
  | 83, _, _, h => by cases h; exact rfl
  | 84, _, _, h => by cases h; exact sx_tj84
  | 85, _, _, h => by cases h; exact sx_tj85
  | 86, _, _, h => by cases h; exact sx_tj86
  | 87, _, _, h => by cases h; exact rfl
  | 88, _, _, h => by cases h; exact sx_tj88
  | 89, _, _, h => by cases h; exact sx_tj89
  | 90, _, _, h => by cases h; exact sx_tj90
  | 91, _, _, h => by cases h; exact sx_tj91
  | 92, _, _, h => by cases h; exact sx_tj92
  | 93, _, _, h => by cases h; exact sx_tj93
  | 94, _, _, h => by cases h; exact sx_tj94
  | 95, _, _, h => by cases h; exact rfl
  | 96, _, _, h => by cases h; exact rfl
  | 97, _, _, h => by cases h; exact sx_tj97
  | 98, _, _, h => by cases h; exact rfl
  | 99, _, _, h => by cases h; exact rfl
  | 100, _, _, h => by cases h; exact sx_tj100
  | 101, _, _, h => by cases h; exact sx_tj101
  | 102, _, _, h => by cases h; exact rfl
  | 103, _, _, h => by cases h; exact sx_tj103
  | 104, _, _, h => by cases h; exact sx_tj104
  | 105, _, _, h => by cases h; exact sx_tj105
  | 106, _, _, h => by cases h; exact rfl
  | 107, _, _, h => by cases h; exact sx_tj107
  | 108, _, _, h => by cases h; exact sx_tj108
  | 109, _, _, h => by cases h; exact rfl
  | 110, _, _, h => by cases h; exact sx_tj110
  | 111, _, _, h => by cases h; exact sx_tj111
  | 112, _, _, h => by cases h; exact sx_tj112
  | 113, _, _, h => by cases h; exact sx_tj113
  | 114, _, _, h => by cases h; exact rfl
  | 115, _, _, h => by cases h; exact rfl
  | 116, _, _, h => by cases h; exact sx_tj116
  | 117, _, _, h => by cases h; exact sx_tj117
  | 118, _, _, h => by cases h; exact sx_tj118
  | 119, _, _, h => by cases h; exact sx_tj119
  | 120, _, _, h => by cases h; exact sx_tj120
  | 121, _, _, h => by cases h; exact sx_tj121
  | 122, _, _, h => by cases h; exact sx_tj122
  | 123, _, _, h => by cases h; exact sx_tj123
  | 124, _, _, h => by cases h; exact sx_tj124
  | 125, _, _, h => by cases h; exact sx_tj125
  | 126, _, _, h => by cases h; exact sx_tj126
  | 127, _, _, h => by cases h; exact sx_tj127
  | 128, _, _, h => by cases h; exact rfl
  | 129, _, _, h => by cases h; exact sx_tj129
  | 130, _, _, h => by cases h; exact sx_tj130
  | 131, _, _, h => by cases h; exact sx_tj131
  | 132, _, _, h => by cases h; exact rfl
  | 133, _, _, h => by cases h; exact sx_tj133
  | 134, _, _, h => by cases h; exact sx_tj134
  | 135, _, _, h => by cases h; exact sx_tj135
  | 136, _, _, h => by cases h; exact sx_tj136
  | 137, _, _, h => by cases h; exact sx_tj137
  | 138, _, _, h => by cases h; exact sx_tj138
  | 139, _, _, h => by cases h; exact sx_tj139
  | 140, _, _, h => by cases h; exact sx_tj140
  | 141, _, _, h => by cases h; exact rfl
  | 142, _, _, h => by cases h; exact sx_tj142
  | 143, _, _, h => by cases h; exact sx_tj143
  | 144, _, _, h => by cases h; exact rfl
  | 145, _, _, h => by cases h; exact sx_tj145
  | 146, _, _, h => by cases h; exact sx_tj146
  | 147, _, _, h => by cases h; exact sx_tj147
  | 148, _, _, h => by cases h; exact rfl
  | 149, _, _, h => by cases h; exact sx_tj149
  | 150, _, _, h => by cases h; exact sx_tj150
  | 151, _, _, h => by cases h; exact sx_tj151
  | 152, _, _, h => by cases h; exact rfl
  | 153, _, _, h => by cases h; exact sx_tj153
  | 154, _, _, h => by cases h; exact sx_tj154
  | 155, _, _, h => by cases h; exact sx_tj155
  | 156, _, _, h => by cases h; exact rfl
  | 157, _, _, h => by cases h; exact sx_tj157
  | 158, _, _, h => by cases h; exact rfl
  | 159, _, _, h => by cases h; exact sx_tj159
  | 160, _, _, h => by cases h; exact sx_tj160
  | 161, _, _, h => by cases h; exact sx_tj161
  | 162, _, _, h => by cases h; exact sx_tj162
  | 163, _, _, h => by cases h; exact sx_tj163
  | 164, _, _, h => by cases h; exact sx_tj164
  | 165, _, _, h => by cases h; exact sx_tj165
  | 166, _, _, h => by cases h; exact sx_tj166
  | 167, _, _, h => by cases h; exact sx_tj167
  | 168, _, _, h => by cases h; exact sx_tj168
  | 169, _, _, h => by cases h; exact sx_tj169
  | 170, _, _, h => by cases h; exact sx_tj170
  | 171, _, _, h => by cases h; exact sx_tj171
  | 172, _, _, h => by cases h; exact sx_tj172
  | 173, _, _, h => by cases h; exact sx_tj173
  | 174, _, _, h => by cases h; exact sx_tj174
  | 175, _, _, h => by cases h; exact sx_tj175
  | 176, _, _, h => by cases h; exact sx_tj176
  | 177, _, _, h => by cases h; exact sx_tj177
  | 178, _, _, h => by cases h; exact rfl
  | 179, _, _, h => by cases h; exact rfl
  | 180, _, _, h => by cases h; exact sx_tj180
  | 181, _, _, h => by cases h; exact sx_tj181
  | 182, _, _, h => by cases h; exact sx_tj182
  | 183, _, _, h => by cases h; exact sx_tj183
  | 184, _, _, h => by cases h; exact sx_tj184
  | 185, _, _, h => by cases h; exact sx_tj185
  | 186, _, _, h => by cases h; exact rfl
  | 187, _, _, h => by cases h; exact sx_tj187
  | 188, _, _, h => by cases h; exact sx_tj188
  | 189, _, _, h => by cases h; exact rfl
  | 190, _, _, h => by cases h; exact sx_tj190
  | 191, _, _, h => by cases h; exact sx_tj191
  | 192, _, _, h => by cases h; exact sx_tj192
  | 193, _, _, h => by cases h; exact sx_tj193
  | 194, _, _, h => by cases h; exact sx_tj194
  | 195, _, _, h => by cases h; exact rfl
  | 196, _, _, h => by cases h; exact rfl
  | 197, _, _, h => by cases h; exact rfl
  | 198, _, _, h => by cases h; exact rfl
  | 199, _, _, h => by cases h; exact rfl
  | 200, _, _, h => by cases h; exact rfl
  | 201, _, _, h => by cases h; exact rfl
  | 202, _, _, h => by cases h; exact rfl
  | 203, _, _, h => by cases h; exact rfl
  | 204, _, _, h => by cases h; exact rfl
  | 205, _, _, h => by cases h; exact rfl
  | 206, _, _, h => by cases h; exact rfl
  | 207, _, _, h => by cases h; exact rfl
  | _ + 208, q, _, _ => absurd q (by omega)
theorem sx_TTs_ge {j : Nat} {tb : List (List (Option sx_I))} (h : sx_at2 sx_TTs j = some tb) : j < 208 := by
  unfold sx_at2 at h
  split at h
  · rename_i r hr
    have h1 := sx_at_lt _ _ _ hr
    have h3 : j / 16 < 13 := h1
    omega
  · cases h
theorem sx_TTs_ok : sx_tok am_P sx_TTs := sx_tok_of (fun j tb h => sx_tjs j (sx_TTs_ge h) tb h)
