/-! the places of the words in lw_tbl, and what the tables say, decided by the kernel -/
noncomputable def qfp (o i : Nat) : Nat := bif Nat.ble 6 o then (bif Nat.ble 9 o then (bif Nat.ble 11 o then (bif Nat.ble 12 o then (bif Nat.beq o 12 then bif Nat.ble 134 i then (bif Nat.ble 349 i then (bif Nat.ble 412 i then (bif Nat.ble 466 i then (bif Nat.ble 482 i then (bif Nat.ble 492 i then (bif Nat.ble 495 i then (bif Nat.beq i 495 then 6222 else 0) else (bif Nat.beq i 492 then 6221 else 0)) else (bif Nat.beq i 482 then 6217 else 0)) else (bif Nat.ble 479 i then (bif Nat.beq i 479 then 6216 else 0) else (bif Nat.beq i 466 then 6202 else 0))) else (bif Nat.ble 427 i then (bif Nat.ble 457 i then (bif Nat.ble 463 i then (bif Nat.beq i 463 then 6201 else 0) else (bif Nat.beq i 457 then 6200 else 0)) else (bif Nat.beq i 427 then 6196 else 0)) else (bif Nat.ble 424 i then (bif Nat.beq i 424 then 6195 else 0) else (bif Nat.beq i 412 then 6191 else 0)))) else (bif Nat.ble 377 i then (bif Nat.ble 387 i then (bif Nat.ble 390 i then (bif Nat.ble 393 i then (bif Nat.beq i 393 then 6185 else 0) else (bif Nat.beq i 390 then 6184 else 0)) else (bif Nat.beq i 387 then 6183 else 0)) else (bif Nat.ble 384 i then (bif Nat.beq i 384 then 6182 else 0) else (bif Nat.beq i 377 then 6187 else 0))) else (bif Nat.ble 368 i then (bif Nat.ble 371 i then (bif Nat.ble 374 i then (bif Nat.beq i 374 then 6188 else 0) else (bif Nat.beq i 371 then 6186 else 0)) else (bif Nat.beq i 368 then 6167 else 0)) else (bif Nat.ble 352 i then (bif Nat.beq i 352 then 6177 else 0) else (bif Nat.beq i 349 then 6168 else 0))))) else (bif Nat.ble 211 i then (bif Nat.ble 294 i then (bif Nat.ble 303 i then (bif Nat.ble 312 i then (bif Nat.ble 315 i then (bif Nat.beq i 315 then 6178 else 0) else (bif Nat.beq i 312 then 6169 else 0)) else (bif Nat.beq i 303 then 6176 else 0)) else (bif Nat.ble 300 i then (bif Nat.beq i 300 then 6175 else 0) else (bif Nat.beq i 294 then 6174 else 0))) else (bif Nat.ble 217 i then (bif Nat.ble 246 i then (bif Nat.ble 282 i then (bif Nat.beq i 282 then 6172 else 0) else (bif Nat.beq i 246 then 6180 else 0)) else (bif Nat.beq i 217 then 6173 else 0)) else (bif Nat.ble 214 i then (bif Nat.beq i 214 then 6171 else 0) else (bif Nat.beq i 211 then 6170 else 0)))) else (bif Nat.ble 150 i then (bif Nat.ble 156 i then (bif Nat.ble 159 i then (bif Nat.ble 189 i then (bif Nat.beq i 189 then 6153 else 0) else (bif Nat.beq i 159 then 6224 else 0)) else (bif Nat.beq i 156 then 6223 else 0)) else (bif Nat.ble 153 i then (bif Nat.beq i 153 then 6220 else 0) else (bif Nat.beq i 150 then 6219 else 0))) else (bif Nat.ble 140 i then (bif Nat.ble 143 i then (bif Nat.ble 147 i then (bif Nat.beq i 147 then 6218 else 0) else (bif Nat.beq i 143 then 6215 else 0)) else (bif Nat.beq i 140 then 6214 else 0)) else (bif Nat.ble 137 i then (bif Nat.beq i 137 then 6213 else 0) else (bif Nat.beq i 134 then 6212 else 0)))))) else (bif Nat.ble 73 i then (bif Nat.ble 104 i then (bif Nat.ble 119 i then (bif Nat.ble 125 i then (bif Nat.ble 128 i then (bif Nat.ble 131 i then (bif Nat.beq i 131 then 6211 else 0) else (bif Nat.beq i 128 then 6210 else 0)) else (bif Nat.beq i 125 then 6209 else 0)) else (bif Nat.ble 122 i then (bif Nat.beq i 122 then 6208 else 0) else (bif Nat.beq i 119 then 6207 else 0))) else (bif Nat.ble 110 i then (bif Nat.ble 113 i then (bif Nat.ble 116 i then (bif Nat.beq i 116 then 6206 else 0) else (bif Nat.beq i 113 then 6205 else 0)) else (bif Nat.beq i 110 then 6204 else 0)) else (bif Nat.ble 107 i then (bif Nat.beq i 107 then 6203 else 0) else (bif Nat.beq i 104 then 6199 else 0)))) else (bif Nat.ble 89 i then (bif Nat.ble 95 i then (bif Nat.ble 98 i then (bif Nat.ble 101 i then (bif Nat.beq i 101 then 6198 else 0) else (bif Nat.beq i 98 then 6197 else 0)) else (bif Nat.beq i 95 then 6194 else 0)) else (bif Nat.ble 92 i then (bif Nat.beq i 92 then 6193 else 0) else (bif Nat.beq i 89 then 6192 else 0))) else (bif Nat.ble 79 i then (bif Nat.ble 82 i then (bif Nat.ble 85 i then (bif Nat.beq i 85 then 6190 else 0) else (bif Nat.beq i 82 then 6189 else 0)) else (bif Nat.beq i 79 then 6181 else 0)) else (bif Nat.ble 76 i then (bif Nat.beq i 76 then 6179 else 0) else (bif Nat.beq i 73 then 6166 else 0))))) else (bif Nat.ble 43 i then (bif Nat.ble 58 i then (bif Nat.ble 64 i then (bif Nat.ble 67 i then (bif Nat.ble 70 i then (bif Nat.beq i 70 then 6165 else 0) else (bif Nat.beq i 67 then 6164 else 0)) else (bif Nat.beq i 64 then 6163 else 0)) else (bif Nat.ble 61 i then (bif Nat.beq i 61 then 6162 else 0) else (bif Nat.beq i 58 then 6161 else 0))) else (bif Nat.ble 49 i then (bif Nat.ble 52 i then (bif Nat.ble 55 i then (bif Nat.beq i 55 then 6160 else 0) else (bif Nat.beq i 52 then 6159 else 0)) else (bif Nat.beq i 49 then 6158 else 0)) else (bif Nat.ble 46 i then (bif Nat.beq i 46 then 6157 else 0) else (bif Nat.beq i 43 then 6156 else 0)))) else (bif Nat.ble 26 i then (bif Nat.ble 33 i then (bif Nat.ble 36 i then (bif Nat.ble 40 i then (bif Nat.beq i 40 then 6155 else 0) else (bif Nat.beq i 36 then 6154 else 0)) else (bif Nat.beq i 33 then 6152 else 0)) else (bif Nat.ble 29 i then (bif Nat.beq i 29 then 6151 else 0) else (bif Nat.beq i 26 then 6150 else 0))) else (bif Nat.ble 16 i then (bif Nat.ble 19 i then (bif Nat.ble 22 i then (bif Nat.beq i 22 then 6149 else 0) else (bif Nat.beq i 19 then 6148 else 0)) else (bif Nat.beq i 16 then 6147 else 0)) else (bif Nat.ble 13 i then (bif Nat.beq i 13 then 6146 else 0) else (bif Nat.beq i 7 then 6145 else 0)))))) else 0) else (bif Nat.beq o 11 then bif Nat.ble 43 i then (bif Nat.ble 57 i then (bif Nat.ble 64 i then (bif Nat.ble 71 i then (bif Nat.beq i 71 then 2146 else 0) else (bif Nat.beq i 64 then 2145 else 0)) else (bif Nat.beq i 57 then 2144 else 0)) else (bif Nat.ble 50 i then (bif Nat.beq i 50 then 2143 else 0) else (bif Nat.beq i 43 then 2142 else 0))) else (bif Nat.ble 22 i then (bif Nat.ble 29 i then (bif Nat.ble 36 i then (bif Nat.beq i 36 then 2141 else 0) else (bif Nat.beq i 29 then 2140 else 0)) else (bif Nat.beq i 22 then 2139 else 0)) else (bif Nat.ble 17 i then (bif Nat.beq i 17 then 2138 else 0) else (bif Nat.beq i 11 then 2137 else 0))) else 0)) else (bif Nat.ble 10 o then (bif Nat.beq o 10 then bif Nat.ble 18 i then (bif Nat.ble 22 i then (bif Nat.beq i 22 then 2097 else 0) else (bif Nat.beq i 18 then 2096 else 0)) else (bif Nat.ble 15 i then (bif Nat.beq i 15 then 2095 else 0) else (bif Nat.beq i 11 then 2094 else 0)) else 0) else (bif Nat.beq o 9 then bif Nat.ble 26 i then (bif Nat.ble 32 i then (bif Nat.ble 35 i then (bif Nat.beq i 35 then 1085 else 0) else (bif Nat.beq i 32 then 1084 else 0)) else (bif Nat.ble 29 i then (bif Nat.beq i 29 then 1083 else 0) else (bif Nat.beq i 26 then 1082 else 0))) else (bif Nat.ble 19 i then (bif Nat.ble 23 i then (bif Nat.beq i 23 then 1081 else 0) else (bif Nat.beq i 19 then 1080 else 0)) else (bif Nat.ble 15 i then (bif Nat.beq i 15 then 1079 else 0) else (bif Nat.beq i 11 then 1078 else 0))) else 0))) else (bif Nat.ble 7 o then (bif Nat.ble 8 o then (bif Nat.beq o 8 then bif Nat.ble 13 i then (bif Nat.beq i 13 then 1117 else 0) else (bif Nat.beq i 9 then 1116 else 0) else 0) else (bif Nat.beq o 7 then bif Nat.ble 28 i then (bif Nat.ble 34 i then (bif Nat.ble 37 i then (bif Nat.ble 40 i then (bif Nat.beq i 40 then 1049 else 0) else (bif Nat.beq i 37 then 1048 else 0)) else (bif Nat.beq i 34 then 1047 else 0)) else (bif Nat.ble 31 i then (bif Nat.beq i 31 then 1046 else 0) else (bif Nat.beq i 28 then 1045 else 0))) else (bif Nat.ble 18 i then (bif Nat.ble 22 i then (bif Nat.ble 25 i then (bif Nat.beq i 25 then 1044 else 0) else (bif Nat.beq i 22 then 1043 else 0)) else (bif Nat.beq i 18 then 1042 else 0)) else (bif Nat.ble 15 i then (bif Nat.beq i 15 then 1041 else 0) else (bif Nat.beq i 11 then 1040 else 0))) else 0)) else (bif Nat.beq o 6 then bif Nat.ble 22 i then (bif Nat.ble 25 i then (bif Nat.ble 29 i then (bif Nat.beq i 29 then 1174 else 0) else (bif Nat.beq i 25 then 1173 else 0)) else (bif Nat.beq i 22 then 1172 else 0)) else (bif Nat.ble 15 i then (bif Nat.ble 19 i then (bif Nat.beq i 19 then 1171 else 0) else (bif Nat.beq i 15 then 1170 else 0)) else (bif Nat.beq i 9 then 1169 else 0)) else 0))) else (bif Nat.ble 3 o then (bif Nat.ble 4 o then (bif Nat.ble 5 o then (bif Nat.beq o 5 then bif Nat.ble 30 i then (bif Nat.ble 42 i then (bif Nat.ble 46 i then (bif Nat.ble 49 i then (bif Nat.beq i 49 then 1133 else 0) else (bif Nat.beq i 46 then 1132 else 0)) else (bif Nat.beq i 42 then 1131 else 0)) else (bif Nat.ble 33 i then (bif Nat.ble 36 i then (bif Nat.beq i 36 then 1130 else 0) else (bif Nat.beq i 33 then 1129 else 0)) else (bif Nat.beq i 30 then 1128 else 0))) else (bif Nat.ble 20 i then (bif Nat.ble 23 i then (bif Nat.ble 27 i then (bif Nat.beq i 27 then 1127 else 0) else (bif Nat.beq i 23 then 1126 else 0)) else (bif Nat.beq i 20 then 1125 else 0)) else (bif Nat.ble 17 i then (bif Nat.beq i 17 then 1124 else 0) else (bif Nat.beq i 11 then 1123 else 0))) else 0) else (bif Nat.beq o 4 then bif Nat.ble 34 i then (bif Nat.ble 43 i then (bif Nat.ble 49 i then (bif Nat.ble 52 i then (bif Nat.beq i 52 then 2036 else 0) else (bif Nat.beq i 49 then 2035 else 0)) else (bif Nat.ble 46 i then (bif Nat.beq i 46 then 2034 else 0) else (bif Nat.beq i 43 then 2033 else 0))) else (bif Nat.ble 37 i then (bif Nat.ble 40 i then (bif Nat.beq i 40 then 2032 else 0) else (bif Nat.beq i 37 then 2031 else 0)) else (bif Nat.beq i 34 then 2030 else 0))) else (bif Nat.ble 22 i then (bif Nat.ble 28 i then (bif Nat.ble 31 i then (bif Nat.beq i 31 then 2029 else 0) else (bif Nat.beq i 28 then 2028 else 0)) else (bif Nat.ble 25 i then (bif Nat.beq i 25 then 2027 else 0) else (bif Nat.beq i 22 then 2026 else 0))) else (bif Nat.ble 15 i then (bif Nat.ble 19 i then (bif Nat.beq i 19 then 2025 else 0) else (bif Nat.beq i 15 then 2024 else 0)) else (bif Nat.beq i 9 then 2023 else 0))) else 0)) else (bif Nat.beq o 3 then bif Nat.ble 43 i then (bif Nat.ble 58 i then (bif Nat.ble 64 i then (bif Nat.ble 67 i then (bif Nat.beq i 67 then 1206 else 0) else (bif Nat.beq i 64 then 1205 else 0)) else (bif Nat.ble 61 i then (bif Nat.beq i 61 then 1204 else 0) else (bif Nat.beq i 58 then 1203 else 0))) else (bif Nat.ble 50 i then (bif Nat.ble 55 i then (bif Nat.beq i 55 then 1202 else 0) else (bif Nat.beq i 50 then 1201 else 0)) else (bif Nat.ble 46 i then (bif Nat.beq i 46 then 1200 else 0) else (bif Nat.beq i 43 then 1199 else 0)))) else (bif Nat.ble 30 i then (bif Nat.ble 37 i then (bif Nat.ble 40 i then (bif Nat.beq i 40 then 1198 else 0) else (bif Nat.beq i 37 then 1197 else 0)) else (bif Nat.ble 34 i then (bif Nat.beq i 34 then 1196 else 0) else (bif Nat.beq i 30 then 1195 else 0))) else (bif Nat.ble 24 i then (bif Nat.ble 27 i then (bif Nat.beq i 27 then 1194 else 0) else (bif Nat.beq i 24 then 1193 else 0)) else (bif Nat.ble 20 i then (bif Nat.beq i 20 then 1192 else 0) else (bif Nat.beq i 14 then 1191 else 0)))) else 0)) else (bif Nat.ble 1 o then (bif Nat.ble 2 o then (bif Nat.beq o 2 then bif Nat.ble 22 i then (bif Nat.ble 25 i then (bif Nat.ble 28 i then (bif Nat.beq i 28 then 2123 else 0) else (bif Nat.beq i 25 then 2122 else 0)) else (bif Nat.beq i 22 then 2121 else 0)) else (bif Nat.ble 15 i then (bif Nat.ble 18 i then (bif Nat.beq i 18 then 2120 else 0) else (bif Nat.beq i 15 then 2119 else 0)) else (bif Nat.beq i 9 then 2118 else 0)) else 0) else (bif Nat.beq o 1 then bif Nat.ble 15 i then (bif Nat.ble 18 i then (bif Nat.beq i 18 then 2008 else 0) else (bif Nat.beq i 15 then 2007 else 0)) else (bif Nat.beq i 11 then 2006 else 0) else 0)) else (bif Nat.beq o 0 then bif Nat.ble 18 i then (bif Nat.ble 22 i then (bif Nat.ble 25 i then (bif Nat.beq i 25 then 2076 else 0) else (bif Nat.beq i 22 then 2075 else 0)) else (bif Nat.beq i 18 then 2074 else 0)) else (bif Nat.ble 15 i then (bif Nat.beq i 15 then 2073 else 0) else (bif Nat.beq i 11 then 2072 else 0)) else 0)))
noncomputable def qmp (o i : Nat) : Nat := bif Nat.ble 7 o then (bif Nat.ble 11 o then (bif Nat.ble 14 o then (bif Nat.ble 15 o then (bif Nat.beq o 15 then bif Nat.ble 89 i then (bif Nat.ble 125 i then (bif Nat.ble 144 i then (bif Nat.ble 152 i then (bif Nat.ble 156 i then (bif Nat.ble 157 i then (bif Nat.ble 160 i then (bif Nat.beq i 160 then 9043 else 0) else (bif Nat.beq i 157 then 6120 else 0)) else (bif Nat.beq i 156 then 9035 else 0)) else (bif Nat.ble 153 i then (bif Nat.beq i 153 then 6104 else 0) else (bif Nat.beq i 152 then 9031 else 0))) else (bif Nat.ble 148 i then (bif Nat.ble 149 i then (bif Nat.beq i 149 then 6096 else 0) else (bif Nat.beq i 148 then 9023 else 0)) else (bif Nat.ble 145 i then (bif Nat.beq i 145 then 6087 else 0) else (bif Nat.beq i 144 then 9015 else 0)))) else (bif Nat.ble 133 i then (bif Nat.ble 137 i then (bif Nat.ble 140 i then (bif Nat.ble 141 i then (bif Nat.beq i 141 then 6066 else 0) else (bif Nat.beq i 140 then 9011 else 0)) else (bif Nat.beq i 137 then 6058 else 0)) else (bif Nat.ble 136 i then (bif Nat.beq i 136 then 9007 else 0) else (bif Nat.beq i 133 then 6046 else 0))) else (bif Nat.ble 129 i then (bif Nat.ble 132 i then (bif Nat.beq i 132 then 9001 else 0) else (bif Nat.beq i 129 then 6030 else 0)) else (bif Nat.ble 128 i then (bif Nat.beq i 128 then 8229 else 0) else (bif Nat.beq i 125 then 5231 else 0))))) else (bif Nat.ble 108 i then (bif Nat.ble 116 i then (bif Nat.ble 120 i then (bif Nat.ble 121 i then (bif Nat.ble 124 i then (bif Nat.beq i 124 then 8225 else 0) else (bif Nat.beq i 121 then 5223 else 0)) else (bif Nat.beq i 120 then 8221 else 0)) else (bif Nat.ble 117 i then (bif Nat.beq i 117 then 5212 else 0) else (bif Nat.beq i 116 then 8213 else 0))) else (bif Nat.ble 112 i then (bif Nat.ble 113 i then (bif Nat.beq i 113 then 5197 else 0) else (bif Nat.beq i 112 then 8209 else 0)) else (bif Nat.ble 109 i then (bif Nat.beq i 109 then 5183 else 0) else (bif Nat.beq i 108 then 8205 else 0)))) else (bif Nat.ble 99 i then (bif Nat.ble 104 i then (bif Nat.ble 105 i then (bif Nat.beq i 105 then 5167 else 0) else (bif Nat.beq i 104 then 8201 else 0)) else (bif Nat.ble 100 i then (bif Nat.beq i 100 then 5156 else 0) else (bif Nat.beq i 99 then 8197 else 0))) else (bif Nat.ble 94 i then (bif Nat.ble 95 i then (bif Nat.beq i 95 then 5148 else 0) else (bif Nat.beq i 94 then 8190 else 0)) else (bif Nat.ble 90 i then (bif Nat.beq i 90 then 5137 else 0) else (bif Nat.beq i 89 then 8186 else 0)))))) else (bif Nat.ble 51 i then (bif Nat.ble 70 i then (bif Nat.ble 78 i then (bif Nat.ble 82 i then (bif Nat.ble 85 i then (bif Nat.ble 86 i then (bif Nat.beq i 86 then 5122 else 0) else (bif Nat.beq i 85 then 8182 else 0)) else (bif Nat.beq i 82 then 5114 else 0)) else (bif Nat.ble 81 i then (bif Nat.beq i 81 then 8155 else 0) else (bif Nat.beq i 78 then 5019 else 0))) else (bif Nat.ble 74 i then (bif Nat.ble 77 i then (bif Nat.beq i 77 then 8151 else 0) else (bif Nat.beq i 74 then 5006 else 0)) else (bif Nat.ble 73 i then (bif Nat.beq i 73 then 8143 else 0) else (bif Nat.beq i 70 then 4210 else 0)))) else (bif Nat.ble 60 i then (bif Nat.ble 65 i then (bif Nat.ble 66 i then (bif Nat.ble 69 i then (bif Nat.beq i 69 then 8131 else 0) else (bif Nat.beq i 66 then 4177 else 0)) else (bif Nat.beq i 65 then 8123 else 0)) else (bif Nat.ble 61 i then (bif Nat.beq i 61 then 4125 else 0) else (bif Nat.beq i 60 then 8119 else 0))) else (bif Nat.ble 56 i then (bif Nat.ble 57 i then (bif Nat.beq i 57 then 4113 else 0) else (bif Nat.beq i 56 then 8092 else 0)) else (bif Nat.ble 52 i then (bif Nat.beq i 52 then 4075 else 0) else (bif Nat.beq i 51 then 7178 else 0))))) else (bif Nat.ble 28 i then (bif Nat.ble 38 i then (bif Nat.ble 43 i then (bif Nat.ble 46 i then (bif Nat.ble 47 i then (bif Nat.beq i 47 then 4009 else 0) else (bif Nat.beq i 46 then 8088 else 0)) else (bif Nat.beq i 43 then 4001 else 0)) else (bif Nat.ble 42 i then (bif Nat.beq i 42 then 7213 else 0) else (bif Nat.beq i 38 then 2219 else 0))) else (bif Nat.ble 33 i then (bif Nat.ble 37 i then (bif Nat.beq i 37 then 7209 else 0) else (bif Nat.beq i 33 then 2211 else 0)) else (bif Nat.ble 32 i then (bif Nat.beq i 32 then 7205 else 0) else (bif Nat.beq i 28 then 2199 else 0)))) else (bif Nat.ble 18 i then (bif Nat.ble 23 i then (bif Nat.ble 27 i then (bif Nat.beq i 27 then 7169 else 0) else (bif Nat.beq i 23 then 2190 else 0)) else (bif Nat.ble 22 i then (bif Nat.beq i 22 then 7159 else 0) else (bif Nat.beq i 18 then 2182 else 0))) else (bif Nat.ble 13 i then (bif Nat.ble 17 i then (bif Nat.beq i 17 then 7146 else 0) else (bif Nat.beq i 13 then 2168 else 0)) else (bif Nat.ble 12 i then (bif Nat.beq i 12 then 6139 else 0) else (bif Nat.beq i 9 then 1025 else 0)))))) else 0) else (bif Nat.beq o 14 then bif Nat.beq i 311 then 4166 else 0 else 0)) else (bif Nat.ble 12 o then (bif Nat.beq o 12 then bif Nat.ble 340 i then (bif Nat.ble 430 i then (bif Nat.ble 460 i then (bif Nat.ble 489 i then (bif Nat.ble 501 i then (bif Nat.ble 504 i then (bif Nat.beq i 504 then 9050 else 0) else (bif Nat.beq i 501 then 9047 else 0)) else (bif Nat.ble 498 i then (bif Nat.beq i 498 then 9039 else 0) else (bif Nat.beq i 489 then 9027 else 0))) else (bif Nat.ble 472 i then (bif Nat.ble 485 i then (bif Nat.beq i 485 then 9019 else 0) else (bif Nat.beq i 472 then 8233 else 0)) else (bif Nat.ble 469 i then (bif Nat.beq i 469 then 8237 else 0) else (bif Nat.beq i 460 then 8217 else 0)))) else (bif Nat.ble 444 i then (bif Nat.ble 450 i then (bif Nat.ble 454 i then (bif Nat.beq i 454 then 8194 else 0) else (bif Nat.beq i 450 then 8163 else 0)) else (bif Nat.ble 447 i then (bif Nat.beq i 447 then 8159 else 0) else (bif Nat.beq i 444 then 8167 else 0))) else (bif Nat.ble 437 i then (bif Nat.ble 440 i then (bif Nat.beq i 440 then 8179 else 0) else (bif Nat.beq i 437 then 8171 else 0)) else (bif Nat.ble 434 i then (bif Nat.beq i 434 then 8175 else 0) else (bif Nat.beq i 430 then 8147 else 0))))) else (bif Nat.ble 396 i then (bif Nat.ble 409 i then (bif Nat.ble 418 i then (bif Nat.ble 421 i then (bif Nat.beq i 421 then 8135 else 0) else (bif Nat.beq i 418 then 8139 else 0)) else (bif Nat.ble 415 i then (bif Nat.beq i 415 then 8127 else 0) else (bif Nat.beq i 409 then 8099 else 0))) else (bif Nat.ble 402 i then (bif Nat.ble 406 i then (bif Nat.beq i 406 then 8096 else 0) else (bif Nat.beq i 402 then 8107 else 0)) else (bif Nat.ble 399 i then (bif Nat.beq i 399 then 8103 else 0) else (bif Nat.beq i 396 then 8111 else 0)))) else (bif Nat.ble 358 i then (bif Nat.ble 365 i then (bif Nat.ble 380 i then (bif Nat.beq i 380 then 8115 else 0) else (bif Nat.beq i 365 then 8084 else 0)) else (bif Nat.ble 361 i then (bif Nat.beq i 361 then 8080 else 0) else (bif Nat.beq i 358 then 8044 else 0))) else (bif Nat.ble 346 i then (bif Nat.ble 355 i then (bif Nat.beq i 355 then 8028 else 0) else (bif Nat.beq i 346 then 8068 else 0)) else (bif Nat.ble 343 i then (bif Nat.beq i 343 then 8040 else 0) else (bif Nat.beq i 340 then 8048 else 0)))))) else (bif Nat.ble 232 i then (bif Nat.ble 309 i then (bif Nat.ble 328 i then (bif Nat.ble 334 i then (bif Nat.ble 337 i then (bif Nat.beq i 337 then 8060 else 0) else (bif Nat.beq i 334 then 8056 else 0)) else (bif Nat.ble 331 i then (bif Nat.beq i 331 then 8052 else 0) else (bif Nat.beq i 328 then 8036 else 0))) else (bif Nat.ble 322 i then (bif Nat.ble 325 i then (bif Nat.beq i 325 then 8076 else 0) else (bif Nat.beq i 322 then 8064 else 0)) else (bif Nat.ble 318 i then (bif Nat.beq i 318 then 8072 else 0) else (bif Nat.beq i 309 then 7217 else 0)))) else (bif Nat.ble 288 i then (bif Nat.ble 297 i then (bif Nat.ble 306 i then (bif Nat.beq i 306 then 8032 else 0) else (bif Nat.beq i 297 then 8024 else 0)) else (bif Nat.ble 291 i then (bif Nat.beq i 291 then 8021 else 0) else (bif Nat.beq i 288 then 7228 else 0))) else (bif Nat.ble 279 i then (bif Nat.ble 285 i then (bif Nat.beq i 285 then 7225 else 0) else (bif Nat.beq i 279 then 7221 else 0)) else (bif Nat.ble 250 i then (bif Nat.beq i 250 then 7232 else 0) else (bif Nat.beq i 232 then 7237 else 0))))) else (bif Nat.ble 186 i then (bif Nat.ble 204 i then (bif Nat.ble 220 i then (bif Nat.ble 226 i then (bif Nat.beq i 226 then 8002 else 0) else (bif Nat.beq i 220 then 8001 else 0)) else (bif Nat.ble 207 i then (bif Nat.beq i 207 then 7185 else 0) else (bif Nat.beq i 204 then 7182 else 0))) else (bif Nat.ble 197 i then (bif Nat.ble 200 i then (bif Nat.beq i 200 then 7201 else 0) else (bif Nat.beq i 197 then 7193 else 0)) else (bif Nat.ble 193 i then (bif Nat.beq i 193 then 7190 else 0) else (bif Nat.beq i 186 then 7197 else 0)))) else (bif Nat.ble 170 i then (bif Nat.ble 177 i then (bif Nat.ble 182 i then (bif Nat.beq i 182 then 7173 else 0) else (bif Nat.beq i 177 then 7163 else 0)) else (bif Nat.ble 174 i then (bif Nat.beq i 174 then 7156 else 0) else (bif Nat.beq i 170 then 7150 else 0))) else (bif Nat.ble 162 i then (bif Nat.ble 166 i then (bif Nat.beq i 166 then 7166 else 0) else (bif Nat.beq i 162 then 7153 else 0)) else (bif Nat.beq i 1 then 6142 else 0))))) else 0) else (bif Nat.beq o 11 then bif Nat.ble 146 i then (bif Nat.ble 200 i then (bif Nat.ble 226 i then (bif Nat.ble 236 i then (bif Nat.ble 240 i then (bif Nat.ble 243 i then (bif Nat.beq i 243 then 5027 else 0) else (bif Nat.beq i 240 then 3187 else 0)) else (bif Nat.ble 237 i then (bif Nat.beq i 237 then 2234 else 0) else (bif Nat.beq i 236 then 6124 else 0))) else (bif Nat.ble 230 i then (bif Nat.ble 233 i then (bif Nat.beq i 233 then 6108 else 0) else (bif Nat.beq i 230 then 6100 else 0)) else (bif Nat.ble 227 i then (bif Nat.beq i 227 then 6091 else 0) else (bif Nat.beq i 226 then 6070 else 0)))) else (bif Nat.ble 214 i then (bif Nat.ble 220 i then (bif Nat.ble 224 i then (bif Nat.beq i 224 then 6062 else 0) else (bif Nat.beq i 220 then 6050 else 0)) else (bif Nat.ble 217 i then (bif Nat.beq i 217 then 6034 else 0) else (bif Nat.beq i 214 then 5235 else 0))) else (bif Nat.ble 207 i then (bif Nat.ble 210 i then (bif Nat.beq i 210 then 5227 else 0) else (bif Nat.beq i 207 then 5216 else 0)) else (bif Nat.ble 204 i then (bif Nat.beq i 204 then 5201 else 0) else (bif Nat.beq i 200 then 5187 else 0))))) else (bif Nat.ble 172 i then (bif Nat.ble 187 i then (bif Nat.ble 194 i then (bif Nat.ble 198 i then (bif Nat.beq i 198 then 5171 else 0) else (bif Nat.beq i 194 then 5160 else 0)) else (bif Nat.ble 191 i then (bif Nat.beq i 191 then 5152 else 0) else (bif Nat.beq i 187 then 5141 else 0))) else (bif Nat.ble 180 i then (bif Nat.ble 183 i then (bif Nat.beq i 183 then 5127 else 0) else (bif Nat.beq i 180 then 5126 else 0)) else (bif Nat.ble 176 i then (bif Nat.beq i 176 then 5118 else 0) else (bif Nat.beq i 172 then 5048 else 0)))) else (bif Nat.ble 158 i then (bif Nat.ble 165 i then (bif Nat.ble 168 i then (bif Nat.beq i 168 then 5044 else 0) else (bif Nat.beq i 165 then 5023 else 0)) else (bif Nat.ble 161 i then (bif Nat.beq i 161 then 5010 else 0) else (bif Nat.beq i 158 then 5002 else 0))) else (bif Nat.ble 149 i then (bif Nat.ble 154 i then (bif Nat.beq i 154 then 4218 else 0) else (bif Nat.beq i 149 then 4217 else 0)) else (bif Nat.beq i 146 then 4214 else 0))))) else (bif Nat.ble 95 i then (bif Nat.ble 118 i then (bif Nat.ble 132 i then (bif Nat.ble 139 i then (bif Nat.ble 142 i then (bif Nat.beq i 142 then 4181 else 0) else (bif Nat.beq i 139 then 4173 else 0)) else (bif Nat.ble 135 i then (bif Nat.beq i 135 then 4129 else 0) else (bif Nat.beq i 132 then 4117 else 0))) else (bif Nat.ble 125 i then (bif Nat.ble 129 i then (bif Nat.beq i 129 then 4101 else 0) else (bif Nat.beq i 125 then 4079 else 0)) else (bif Nat.ble 121 i then (bif Nat.beq i 121 then 4016 else 0) else (bif Nat.beq i 118 then 4013 else 0)))) else (bif Nat.ble 105 i then (bif Nat.ble 111 i then (bif Nat.ble 115 i then (bif Nat.beq i 115 then 4005 else 0) else (bif Nat.beq i 111 then 3191 else 0)) else (bif Nat.ble 108 i then (bif Nat.beq i 108 then 2230 else 0) else (bif Nat.beq i 105 then 2227 else 0))) else (bif Nat.ble 99 i then (bif Nat.ble 102 i then (bif Nat.beq i 102 then 2223 else 0) else (bif Nat.beq i 99 then 2215 else 0)) else (bif Nat.beq i 95 then 2207 else 0)))) else (bif Nat.ble 63 i then (bif Nat.ble 80 i then (bif Nat.ble 88 i then (bif Nat.ble 92 i then (bif Nat.beq i 92 then 2203 else 0) else (bif Nat.beq i 88 then 2194 else 0)) else (bif Nat.ble 84 i then (bif Nat.beq i 84 then 2186 else 0) else (bif Nat.beq i 80 then 2175 else 0))) else (bif Nat.ble 75 i then (bif Nat.ble 76 i then (bif Nat.beq i 76 then 2172 else 0) else (bif Nat.beq i 75 then 2108 else 0)) else (bif Nat.ble 70 i then (bif Nat.beq i 70 then 2090 else 0) else (bif Nat.beq i 63 then 2068 else 0)))) else (bif Nat.ble 35 i then (bif Nat.ble 49 i then (bif Nat.ble 56 i then (bif Nat.beq i 56 then 2019 else 0) else (bif Nat.beq i 49 then 2002 else 0)) else (bif Nat.ble 42 i then (bif Nat.beq i 42 then 1159 else 0) else (bif Nat.beq i 35 then 1106 else 0))) else (bif Nat.ble 21 i then (bif Nat.ble 28 i then (bif Nat.beq i 28 then 1074 else 0) else (bif Nat.beq i 21 then 1036 else 0)) else (bif Nat.beq i 1 then 1028 else 0))))) else 0))) else (bif Nat.ble 9 o then (bif Nat.ble 10 o then (bif Nat.beq o 10 then bif Nat.ble 34 i then (bif Nat.ble 40 i then (bif Nat.ble 43 i then (bif Nat.beq i 43 then 6133 else 0) else (bif Nat.beq i 40 then 6129 else 0)) else (bif Nat.beq i 34 then 6128 else 0)) else (bif Nat.ble 26 i then (bif Nat.ble 30 i then (bif Nat.beq i 30 then 6116 else 0) else (bif Nat.beq i 26 then 6112 else 0)) else (bif Nat.beq i 5 then 2093 else 0)) else 0) else (bif Nat.beq o 9 then bif Nat.ble 71 i then (bif Nat.ble 92 i then (bif Nat.ble 101 i then (bif Nat.ble 104 i then (bif Nat.ble 107 i then (bif Nat.beq i 107 then 3174 else 0) else (bif Nat.beq i 104 then 3183 else 0)) else (bif Nat.beq i 101 then 3175 else 0)) else (bif Nat.ble 98 i then (bif Nat.beq i 98 then 3161 else 0) else (bif Nat.beq i 92 then 3208 else 0))) else (bif Nat.ble 79 i then (bif Nat.ble 83 i then (bif Nat.ble 87 i then (bif Nat.beq i 87 then 3207 else 0) else (bif Nat.beq i 83 then 3071 else 0)) else (bif Nat.beq i 79 then 3033 else 0)) else (bif Nat.ble 76 i then (bif Nat.beq i 76 then 3023 else 0) else (bif Nat.beq i 71 then 3090 else 0)))) else (bif Nat.ble 54 i then (bif Nat.ble 61 i then (bif Nat.ble 64 i then (bif Nat.ble 67 i then (bif Nat.beq i 67 then 3086 else 0) else (bif Nat.beq i 64 then 3082 else 0)) else (bif Nat.beq i 61 then 3079 else 0)) else (bif Nat.ble 57 i then (bif Nat.beq i 57 then 3019 else 0) else (bif Nat.beq i 54 then 3015 else 0))) else (bif Nat.ble 42 i then (bif Nat.ble 46 i then (bif Nat.ble 50 i then (bif Nat.beq i 50 then 3012 else 0) else (bif Nat.beq i 46 then 3008 else 0)) else (bif Nat.beq i 42 then 3075 else 0)) else (bif Nat.ble 38 i then (bif Nat.beq i 38 then 3004 else 0) else (bif Nat.beq i 5 then 1077 else 0)))) else 0)) else (bif Nat.ble 8 o then (bif Nat.beq o 8 then bif Nat.ble 24 i then (bif Nat.ble 30 i then (bif Nat.ble 33 i then (bif Nat.beq i 33 then 5106 else 0) else (bif Nat.beq i 30 then 5105 else 0)) else (bif Nat.beq i 24 then 5096 else 0)) else (bif Nat.ble 17 i then (bif Nat.ble 21 i then (bif Nat.beq i 21 then 5092 else 0) else (bif Nat.beq i 17 then 5076 else 0)) else (bif Nat.beq i 1 then 1115 else 0)) else 0) else (bif Nat.beq o 7 then bif Nat.ble 78 i then (bif Nat.ble 101 i then (bif Nat.ble 110 i then (bif Nat.ble 113 i then (bif Nat.ble 116 i then (bif Nat.beq i 116 then 4121 else 0) else (bif Nat.beq i 113 then 4109 else 0)) else (bif Nat.beq i 110 then 4105 else 0)) else (bif Nat.ble 106 i then (bif Nat.beq i 106 then 4097 else 0) else (bif Nat.beq i 101 then 4093 else 0))) else (bif Nat.ble 85 i then (bif Nat.ble 91 i then (bif Nat.ble 97 i then (bif Nat.beq i 97 then 4089 else 0) else (bif Nat.beq i 91 then 4088 else 0)) else (bif Nat.beq i 85 then 4087 else 0)) else (bif Nat.ble 81 i then (bif Nat.beq i 81 then 4083 else 0) else (bif Nat.beq i 78 then 3179 else 0)))) else (bif Nat.ble 61 i then (bif Nat.ble 68 i then (bif Nat.ble 71 i then (bif Nat.ble 75 i then (bif Nat.beq i 75 then 3176 else 0) else (bif Nat.beq i 71 then 3170 else 0)) else (bif Nat.beq i 68 then 3166 else 0)) else (bif Nat.ble 64 i then (bif Nat.beq i 64 then 3162 else 0) else (bif Nat.beq i 61 then 3157 else 0))) else (bif Nat.ble 53 i then (bif Nat.ble 57 i then (bif Nat.beq i 57 then 3153 else 0) else (bif Nat.beq i 53 then 3149 else 0)) else (bif Nat.ble 47 i then (bif Nat.beq i 47 then 3000 else 0) else (bif Nat.beq i 3 then 1039 else 0)))) else 0)))) else (bif Nat.ble 3 o then (bif Nat.ble 5 o then (bif Nat.ble 6 o then (bif Nat.beq o 6 then bif Nat.ble 58 i then (bif Nat.ble 69 i then (bif Nat.ble 76 i then (bif Nat.ble 81 i then (bif Nat.beq i 81 then 4137 else 0) else (bif Nat.beq i 76 then 4163 else 0)) else (bif Nat.ble 73 i then (bif Nat.beq i 73 then 4065 else 0) else (bif Nat.beq i 69 then 4062 else 0))) else (bif Nat.ble 63 i then (bif Nat.ble 66 i then (bif Nat.beq i 66 then 4061 else 0) else (bif Nat.beq i 63 then 4053 else 0)) else (bif Nat.beq i 58 then 4052 else 0))) else (bif Nat.ble 43 i then (bif Nat.ble 50 i then (bif Nat.ble 54 i then (bif Nat.beq i 54 then 4049 else 0) else (bif Nat.beq i 50 then 4038 else 0)) else (bif Nat.ble 46 i then (bif Nat.beq i 46 then 4032 else 0) else (bif Nat.beq i 43 then 4057 else 0))) else (bif Nat.ble 33 i then (bif Nat.ble 39 i then (bif Nat.beq i 39 then 4028 else 0) else (bif Nat.beq i 33 then 4024 else 0)) else (bif Nat.beq i 3 then 1168 else 0))) else 0) else (bif Nat.beq o 5 then bif Nat.ble 114 i then (bif Nat.ble 147 i then (bif Nat.ble 163 i then (bif Nat.ble 170 i then (bif Nat.ble 173 i then (bif Nat.ble 176 i then (bif Nat.beq i 176 then 5101 else 0) else (bif Nat.beq i 173 then 5097 else 0)) else (bif Nat.beq i 170 then 5088 else 0)) else (bif Nat.ble 167 i then (bif Nat.beq i 167 then 5084 else 0) else (bif Nat.beq i 163 then 5110 else 0))) else (bif Nat.ble 151 i then (bif Nat.ble 155 i then (bif Nat.ble 159 i then (bif Nat.beq i 159 then 5080 else 0) else (bif Nat.beq i 155 then 5072 else 0)) else (bif Nat.beq i 151 then 5068 else 0)) else (bif Nat.ble 150 i then (bif Nat.beq i 150 then 5064 else 0) else (bif Nat.beq i 147 then 5060 else 0)))) else (bif Nat.ble 132 i then (bif Nat.ble 138 i then (bif Nat.ble 143 i then (bif Nat.ble 144 i then (bif Nat.beq i 144 then 5056 else 0) else (bif Nat.beq i 143 then 5052 else 0)) else (bif Nat.beq i 138 then 5043 else 0)) else (bif Nat.ble 135 i then (bif Nat.beq i 135 then 5042 else 0) else (bif Nat.beq i 132 then 5036 else 0))) else (bif Nat.ble 121 i then (bif Nat.ble 127 i then (bif Nat.beq i 127 then 5032 else 0) else (bif Nat.beq i 121 then 5031 else 0)) else (bif Nat.ble 118 i then (bif Nat.beq i 118 then 3237 else 0) else (bif Nat.beq i 114 then 3236 else 0))))) else (bif Nat.ble 86 i then (bif Nat.ble 98 i then (bif Nat.ble 104 i then (bif Nat.ble 108 i then (bif Nat.ble 111 i then (bif Nat.beq i 111 then 3232 else 0) else (bif Nat.beq i 108 then 3238 else 0)) else (bif Nat.beq i 104 then 3229 else 0)) else (bif Nat.ble 101 i then (bif Nat.beq i 101 then 3235 else 0) else (bif Nat.beq i 98 then 3226 else 0))) else (bif Nat.ble 92 i then (bif Nat.ble 95 i then (bif Nat.beq i 95 then 3223 else 0) else (bif Nat.beq i 92 then 3222 else 0)) else (bif Nat.ble 89 i then (bif Nat.beq i 89 then 3221 else 0) else (bif Nat.beq i 86 then 3217 else 0)))) else (bif Nat.ble 64 i then (bif Nat.ble 72 i then (bif Nat.ble 76 i then (bif Nat.ble 82 i then (bif Nat.beq i 82 then 3216 else 0) else (bif Nat.beq i 76 then 3211 else 0)) else (bif Nat.beq i 72 then 3203 else 0)) else (bif Nat.ble 68 i then (bif Nat.beq i 68 then 3212 else 0) else (bif Nat.beq i 64 then 3199 else 0))) else (bif Nat.ble 56 i then (bif Nat.ble 60 i then (bif Nat.beq i 60 then 3198 else 0) else (bif Nat.beq i 56 then 3197 else 0)) else (bif Nat.ble 41 i then (bif Nat.beq i 41 then 1112 else 0) else (bif Nat.beq i 5 then 1109 else 0))))) else 0)) else (bif Nat.ble 4 o then (bif Nat.beq o 4 then bif Nat.ble 82 i then (bif Nat.ble 103 i then (bif Nat.ble 110 i then (bif Nat.ble 113 i then (bif Nat.ble 115 i then (bif Nat.beq i 115 then 6016 else 0) else (bif Nat.beq i 113 then 6015 else 0)) else (bif Nat.beq i 110 then 6014 else 0)) else (bif Nat.ble 107 i then (bif Nat.beq i 107 then 6011 else 0) else (bif Nat.beq i 103 then 6007 else 0))) else (bif Nat.ble 90 i then (bif Nat.ble 93 i then (bif Nat.beq i 93 then 6042 else 0) else (bif Nat.beq i 90 then 6038 else 0)) else (bif Nat.ble 86 i then (bif Nat.beq i 86 then 6025 else 0) else (bif Nat.beq i 82 then 6021 else 0)))) else (bif Nat.ble 66 i then (bif Nat.ble 72 i then (bif Nat.ble 75 i then (bif Nat.ble 79 i then (bif Nat.beq i 79 then 6017 else 0) else (bif Nat.beq i 75 then 6003 else 0)) else (bif Nat.beq i 72 then 5239 else 0)) else (bif Nat.ble 69 i then (bif Nat.beq i 69 then 5220 else 0) else (bif Nat.beq i 66 then 5209 else 0))) else (bif Nat.ble 60 i then (bif Nat.ble 63 i then (bif Nat.beq i 63 then 5205 else 0) else (bif Nat.beq i 60 then 5194 else 0)) else (bif Nat.ble 56 i then (bif Nat.beq i 56 then 5191 else 0) else (bif Nat.beq i 3 then 2022 else 0)))) else 0) else (bif Nat.beq o 3 then bif Nat.ble 121 i then (bif Nat.ble 149 i then (bif Nat.ble 166 i then (bif Nat.ble 175 i then (bif Nat.ble 179 i then (bif Nat.ble 184 i then (bif Nat.beq i 184 then 4197 else 0) else (bif Nat.beq i 179 then 4146 else 0)) else (bif Nat.beq i 175 then 5015 else 0)) else (bif Nat.ble 172 i then (bif Nat.beq i 172 then 5014 else 0) else (bif Nat.beq i 166 then 4233 else 0))) else (bif Nat.ble 158 i then (bif Nat.ble 162 i then (bif Nat.beq i 162 then 4238 else 0) else (bif Nat.beq i 158 then 4234 else 0)) else (bif Nat.ble 154 i then (bif Nat.beq i 154 then 4228 else 0) else (bif Nat.beq i 149 then 4232 else 0)))) else (bif Nat.ble 133 i then (bif Nat.ble 141 i then (bif Nat.ble 145 i then (bif Nat.beq i 145 then 4224 else 0) else (bif Nat.beq i 141 then 4223 else 0)) else (bif Nat.ble 136 i then (bif Nat.beq i 136 then 4222 else 0) else (bif Nat.beq i 133 then 4190 else 0))) else (bif Nat.ble 127 i then (bif Nat.ble 130 i then (bif Nat.beq i 130 then 4206 else 0) else (bif Nat.beq i 127 then 4202 else 0)) else (bif Nat.ble 124 i then (bif Nat.beq i 124 then 4198 else 0) else (bif Nat.beq i 121 then 4194 else 0))))) else (bif Nat.ble 93 i then (bif Nat.ble 106 i then (bif Nat.ble 114 i then (bif Nat.ble 117 i then (bif Nat.beq i 117 then 4186 else 0) else (bif Nat.beq i 114 then 4185 else 0)) else (bif Nat.ble 110 i then (bif Nat.beq i 110 then 4170 else 0) else (bif Nat.beq i 106 then 4167 else 0))) else (bif Nat.ble 99 i then (bif Nat.ble 102 i then (bif Nat.beq i 102 then 4159 else 0) else (bif Nat.beq i 99 then 4143 else 0)) else (bif Nat.ble 96 i then (bif Nat.beq i 96 then 4155 else 0) else (bif Nat.beq i 93 then 4154 else 0)))) else (bif Nat.ble 78 i then (bif Nat.ble 86 i then (bif Nat.ble 89 i then (bif Nat.beq i 89 then 4153 else 0) else (bif Nat.beq i 86 then 4152 else 0)) else (bif Nat.ble 82 i then (bif Nat.beq i 82 then 4140 else 0) else (bif Nat.beq i 78 then 4133 else 0))) else (bif Nat.ble 70 i then (bif Nat.ble 74 i then (bif Nat.beq i 74 then 4071 else 0) else (bif Nat.beq i 70 then 4020 else 0)) else (bif Nat.ble 13 i then (bif Nat.beq i 13 then 1165 else 0) else (bif Nat.beq i 7 then 1162 else 0))))) else 0))) else (bif Nat.ble 1 o then (bif Nat.ble 2 o then (bif Nat.beq o 2 then bif Nat.ble 53 i then (bif Nat.ble 63 i then (bif Nat.ble 66 i then (bif Nat.ble 69 i then (bif Nat.beq i 69 then 5136 else 0) else (bif Nat.beq i 66 then 5132 else 0)) else (bif Nat.beq i 63 then 5131 else 0)) else (bif Nat.ble 56 i then (bif Nat.ble 60 i then (bif Nat.beq i 60 then 5041 else 0) else (bif Nat.beq i 56 then 5040 else 0)) else (bif Nat.beq i 53 then 4045 else 0))) else (bif Nat.ble 36 i then (bif Nat.ble 42 i then (bif Nat.ble 48 i then (bif Nat.beq i 48 then 4042 else 0) else (bif Nat.beq i 42 then 2179 else 0)) else (bif Nat.beq i 36 then 2115 else 0)) else (bif Nat.ble 32 i then (bif Nat.beq i 32 then 2112 else 0) else (bif Nat.beq i 3 then 2111 else 0))) else 0) else (bif Nat.beq o 1 then bif Nat.ble 26 i then (bif Nat.ble 30 i then (bif Nat.ble 34 i then (bif Nat.beq i 34 then 5179 else 0) else (bif Nat.beq i 30 then 5175 else 0)) else (bif Nat.beq i 26 then 5164 else 0)) else (bif Nat.ble 22 i then (bif Nat.beq i 22 then 5145 else 0) else (bif Nat.beq i 3 then 2005 else 0)) else 0)) else (bif Nat.beq o 0 then bif Nat.ble 38 i then (bif Nat.ble 45 i then (bif Nat.ble 49 i then (bif Nat.beq i 49 then 6082 else 0) else (bif Nat.beq i 45 then 6078 else 0)) else (bif Nat.ble 42 i then (bif Nat.beq i 42 then 6083 else 0) else (bif Nat.beq i 38 then 6074 else 0))) else (bif Nat.ble 30 i then (bif Nat.ble 34 i then (bif Nat.beq i 34 then 6055 else 0) else (bif Nat.beq i 30 then 6054 else 0)) else (bif Nat.beq i 3 then 2071 else 0)) else 0)))
noncomputable def qcp (o i : Nat) : Nat := bif Nat.ble 11 o then (bif Nat.ble 15 o then (bif Nat.beq o 15 then bif Nat.ble 10 i then (bif Nat.beq i 10 then 6137 else 0) else (bif Nat.beq i 7 then 1023 else 0) else 0) else (bif Nat.beq o 11 then bif Nat.ble 40 i then (bif Nat.ble 54 i then (bif Nat.ble 61 i then (bif Nat.ble 68 i then (bif Nat.beq i 68 then 2088 else 0) else (bif Nat.beq i 61 then 2066 else 0)) else (bif Nat.beq i 54 then 2017 else 0)) else (bif Nat.ble 47 i then (bif Nat.beq i 47 then 2000 else 0) else (bif Nat.beq i 40 then 1157 else 0))) else (bif Nat.ble 26 i then (bif Nat.ble 33 i then (bif Nat.beq i 33 then 1104 else 0) else (bif Nat.beq i 26 then 1072 else 0)) else (bif Nat.ble 15 i then (bif Nat.beq i 15 then 1033 else 0) else (bif Nat.beq i 9 then 1031 else 0))) else 0)) else (bif Nat.ble 5 o then (bif Nat.beq o 5 then bif Nat.beq i 39 then 1110 else 0 else 0) else (bif Nat.beq o 3 then bif Nat.ble 53 i then (bif Nat.beq i 53 then 1189 else 0) else (bif Nat.beq i 1 then 1163 else 0) else 0))
noncomputable def qkp (o i : Nat) : Nat := bif Nat.ble 7 o then (bif Nat.ble 12 o then (bif Nat.ble 13 o then (bif Nat.ble 14 o then (bif Nat.beq o 14 then bif Nat.ble 316 i then (bif Nat.ble 318 i then (bif Nat.beq i 318 then 4151 else 0) else (bif Nat.beq i 316 then 4150 else 0)) else (bif Nat.beq i 314 then 4149 else 0) else 0) else (bif Nat.beq o 13 then bif Nat.ble 266 i then (bif Nat.ble 267 i then (bif Nat.beq i 267 then 4070 else 0) else (bif Nat.beq i 266 then 4069 else 0)) else (bif Nat.ble 265 i then (bif Nat.beq i 265 then 4068 else 0) else (bif Nat.beq i 264 then 4056 else 0)) else 0)) else (bif Nat.beq o 12 then bif Nat.ble 257 i then (bif Nat.ble 271 i then (bif Nat.ble 277 i then (bif Nat.ble 477 i then (bif Nat.ble 488 i then (bif Nat.beq i 488 then 9030 else 0) else (bif Nat.beq i 477 then 9006 else 0)) else (bif Nat.ble 475 i then (bif Nat.beq i 475 then 9005 else 0) else (bif Nat.beq i 277 then 8020 else 0))) else (bif Nat.ble 273 i then (bif Nat.ble 275 i then (bif Nat.beq i 275 then 8019 else 0) else (bif Nat.beq i 273 then 8018 else 0)) else (bif Nat.beq i 271 then 8017 else 0))) else (bif Nat.ble 263 i then (bif Nat.ble 267 i then (bif Nat.ble 269 i then (bif Nat.beq i 269 then 8016 else 0) else (bif Nat.beq i 267 then 8015 else 0)) else (bif Nat.ble 265 i then (bif Nat.beq i 265 then 8014 else 0) else (bif Nat.beq i 263 then 8013 else 0))) else (bif Nat.ble 259 i then (bif Nat.ble 261 i then (bif Nat.beq i 261 then 8012 else 0) else (bif Nat.beq i 259 then 8011 else 0)) else (bif Nat.beq i 257 then 8010 else 0)))) else (bif Nat.ble 236 i then (bif Nat.ble 242 i then (bif Nat.ble 253 i then (bif Nat.ble 255 i then (bif Nat.beq i 255 then 8009 else 0) else (bif Nat.beq i 253 then 8008 else 0)) else (bif Nat.ble 244 i then (bif Nat.beq i 244 then 8007 else 0) else (bif Nat.beq i 242 then 8006 else 0))) else (bif Nat.ble 238 i then (bif Nat.ble 240 i then (bif Nat.beq i 240 then 8005 else 0) else (bif Nat.beq i 238 then 8004 else 0)) else (bif Nat.beq i 236 then 8003 else 0))) else (bif Nat.ble 185 i then (bif Nat.ble 192 i then (bif Nat.ble 230 i then (bif Nat.beq i 230 then 7236 else 0) else (bif Nat.beq i 192 then 7189 else 0)) else (bif Nat.beq i 185 then 7177 else 0)) else (bif Nat.ble 88 i then (bif Nat.ble 181 i then (bif Nat.beq i 181 then 7176 else 0) else (bif Nat.beq i 88 then 6144 else 0)) else (bif Nat.beq i 32 then 6143 else 0)))) else 0)) else (bif Nat.ble 10 o then (bif Nat.beq o 10 then bif Nat.beq i 25 then 6095 else 0 else 0) else (bif Nat.beq o 7 then bif Nat.ble 45 i then (bif Nat.beq i 45 then 2239 else 0) else (bif Nat.beq i 43 then 2238 else 0) else 0))) else (bif Nat.ble 5 o then (bif Nat.ble 6 o then (bif Nat.beq o 6 then bif Nat.beq i 49 then 4037 else 0 else 0) else (bif Nat.beq o 5 then bif Nat.ble 54 i then (bif Nat.beq i 54 then 3196 else 0) else (bif Nat.beq i 52 then 3195 else 0) else 0)) else (bif Nat.ble 4 o then (bif Nat.beq o 4 then bif Nat.ble 101 i then (bif Nat.beq i 101 then 6029 else 0) else (bif Nat.beq i 99 then 6045 else 0) else 0) else (bif Nat.beq o 2 then bif Nat.ble 47 i then (bif Nat.beq i 47 then 4036 else 0) else (bif Nat.beq i 46 then 2198 else 0) else 0)))
noncomputable def qpC (t : Nat) : Nat := bif Nat.ble 152 t then (bif Nat.ble 228 t then (bif Nat.ble 266 t then (bif Nat.ble 285 t then (bif Nat.ble 295 t then (bif Nat.ble 300 t then (bif Nat.ble 302 t then (bif Nat.ble 303 t then (bif Nat.ble 304 t then (4148) else (4165)) else (4067)) else (bif Nat.ble 301 t then (4055) else (4044))) else (bif Nat.ble 297 t then (bif Nat.ble 298 t then (bif Nat.ble 299 t then (9046) else (9053)) else (9038)) else (bif Nat.ble 296 t then (9042) else (9034)))) else (bif Nat.ble 290 t then (bif Nat.ble 292 t then (bif Nat.ble 293 t then (bif Nat.ble 294 t then (9026) else (9049)) else (9029)) else (bif Nat.ble 291 t then (9018) else (9022))) else (bif Nat.ble 287 t then (bif Nat.ble 288 t then (bif Nat.ble 289 t then (9014) else (9010)) else (9004)) else (bif Nat.ble 286 t then (8232) else (8236))))) else (bif Nat.ble 275 t then (bif Nat.ble 280 t then (bif Nat.ble 282 t then (bif Nat.ble 283 t then (bif Nat.ble 284 t then (9000) else (8228)) else (8224)) else (bif Nat.ble 281 t then (8216) else (8212))) else (bif Nat.ble 277 t then (bif Nat.ble 278 t then (bif Nat.ble 279 t then (8220) else (8208)) else (8204)) else (bif Nat.ble 276 t then (8200) else (8193)))) else (bif Nat.ble 270 t then (bif Nat.ble 272 t then (bif Nat.ble 273 t then (bif Nat.ble 274 t then (8196) else (8189)) else (8178)) else (bif Nat.ble 271 t then (8185) else (8158))) else (bif Nat.ble 268 t then (bif Nat.ble 269 t then (8166) else (8162)) else (bif Nat.ble 267 t then (8170) else (8181)))))) else (bif Nat.ble 247 t then (bif Nat.ble 256 t then (bif Nat.ble 261 t then (bif Nat.ble 263 t then (bif Nat.ble 264 t then (bif Nat.ble 265 t then (8174) else (8154)) else (8146)) else (bif Nat.ble 262 t then (8150) else (8134))) else (bif Nat.ble 258 t then (bif Nat.ble 259 t then (bif Nat.ble 260 t then (8138) else (8142)) else (8126)) else (bif Nat.ble 257 t then (8130) else (7204)))) else (bif Nat.ble 251 t then (bif Nat.ble 253 t then (bif Nat.ble 254 t then (bif Nat.ble 255 t then (8122) else (8095)) else (8102)) else (bif Nat.ble 252 t then (8110) else (8106))) else (bif Nat.ble 249 t then (bif Nat.ble 250 t then (8118) else (8114)) else (bif Nat.ble 248 t then (8091) else (8087))))) else (bif Nat.ble 237 t then (bif Nat.ble 242 t then (bif Nat.ble 244 t then (bif Nat.ble 245 t then (bif Nat.ble 246 t then (8083) else (7216)) else (8047)) else (bif Nat.ble 243 t then (8031) else (8059))) else (bif Nat.ble 239 t then (bif Nat.ble 240 t then (bif Nat.ble 241 t then (8055) else (8051)) else (8079)) else (bif Nat.ble 238 t then (8075) else (8071)))) else (bif Nat.ble 232 t then (bif Nat.ble 234 t then (bif Nat.ble 235 t then (bif Nat.ble 236 t then (8063) else (8067)) else (8039)) else (bif Nat.ble 233 t then (8043) else (8035))) else (bif Nat.ble 230 t then (bif Nat.ble 231 t then (7220) else (8027)) else (bif Nat.ble 229 t then (7231) else (7235))))))) else (bif Nat.ble 190 t then (bif Nat.ble 209 t then (bif Nat.ble 218 t then (bif Nat.ble 223 t then (bif Nat.ble 225 t then (bif Nat.ble 226 t then (bif Nat.ble 227 t then (8000) else (8023)) else (7227)) else (bif Nat.ble 224 t then (7224) else (7212))) else (bif Nat.ble 220 t then (bif Nat.ble 221 t then (bif Nat.ble 222 t then (7208) else (7181)) else (7188)) else (bif Nat.ble 219 t then (7196) else (7200)))) else (bif Nat.ble 213 t then (bif Nat.ble 215 t then (bif Nat.ble 216 t then (bif Nat.ble 217 t then (7172) else (7175)) else (7162)) else (bif Nat.ble 214 t then (7149) else (7165))) else (bif Nat.ble 211 t then (bif Nat.ble 212 t then (7168) else (7192)) else (bif Nat.ble 210 t then (7184) else (8098))))) else (bif Nat.ble 199 t then (bif Nat.ble 204 t then (bif Nat.ble 206 t then (bif Nat.ble 207 t then (bif Nat.ble 208 t then (7158) else (7152)) else (7155)) else (bif Nat.ble 205 t then (6141) else (5026))) else (bif Nat.ble 201 t then (bif Nat.ble 202 t then (bif Nat.ble 203 t then (5047) else (2233)) else (4216)) else (bif Nat.ble 200 t then (4015) else (2229)))) else (bif Nat.ble 194 t then (bif Nat.ble 196 t then (bif Nat.ble 197 t then (bif Nat.ble 198 t then (2174) else (6123)) else (6107)) else (bif Nat.ble 195 t then (6099) else (6090))) else (bif Nat.ble 192 t then (bif Nat.ble 193 t then (6069) else (6061)) else (bif Nat.ble 191 t then (6049) else (6033)))))) else (bif Nat.ble 171 t then (bif Nat.ble 180 t then (bif Nat.ble 185 t then (bif Nat.ble 187 t then (bif Nat.ble 188 t then (bif Nat.ble 189 t then (5234) else (5226)) else (5215)) else (bif Nat.ble 186 t then (5200) else (5186))) else (bif Nat.ble 182 t then (bif Nat.ble 183 t then (bif Nat.ble 184 t then (5170) else (5159)) else (5151)) else (bif Nat.ble 181 t then (5140) else (5125)))) else (bif Nat.ble 175 t then (bif Nat.ble 177 t then (bif Nat.ble 178 t then (bif Nat.ble 179 t then (5117) else (5022)) else (5009)) else (bif Nat.ble 176 t then (4213) else (4180))) else (bif Nat.ble 173 t then (bif Nat.ble 174 t then (4128) else (4116)) else (bif Nat.ble 172 t then (4078) else (4012))))) else (bif Nat.ble 161 t then (bif Nat.ble 166 t then (bif Nat.ble 168 t then (bif Nat.ble 169 t then (bif Nat.ble 170 t then (4004) else (2222)) else (2214)) else (bif Nat.ble 167 t then (2202) else (2193))) else (bif Nat.ble 163 t then (bif Nat.ble 164 t then (bif Nat.ble 165 t then (2185) else (2171)) else (1027)) else (bif Nat.ble 162 t then (6136) else (6132)))) else (bif Nat.ble 156 t then (bif Nat.ble 158 t then (bif Nat.ble 159 t then (bif Nat.ble 160 t then (6115) else (6119)) else (6127)) else (bif Nat.ble 157 t then (6111) else (6103))) else (bif Nat.ble 154 t then (bif Nat.ble 155 t then (6094) else (2092)) else (bif Nat.ble 153 t then (3165) else (3173)))))))) else (bif Nat.ble 76 t then (bif Nat.ble 114 t then (bif Nat.ble 133 t then (bif Nat.ble 142 t then (bif Nat.ble 147 t then (bif Nat.ble 149 t then (bif Nat.ble 150 t then (bif Nat.ble 151 t then (3182) else (3186)) else (3169)) else (bif Nat.ble 148 t then (3160) else (3206))) else (bif Nat.ble 144 t then (bif Nat.ble 145 t then (bif Nat.ble 146 t then (3220) else (3152)) else (3078)) else (bif Nat.ble 143 t then (3074) else (3022)))) else (bif Nat.ble 137 t then (bif Nat.ble 139 t then (bif Nat.ble 140 t then (bif Nat.ble 141 t then (3089) else (3085)) else (3018)) else (bif Nat.ble 138 t then (3081) else (3014))) else (bif Nat.ble 135 t then (bif Nat.ble 136 t then (3011) else (3007)) else (bif Nat.ble 134 t then (3003) else (4008))))) else (bif Nat.ble 123 t then (bif Nat.ble 128 t then (bif Nat.ble 130 t then (bif Nat.ble 131 t then (bif Nat.ble 132 t then (2226) else (2218)) else (2210)) else (bif Nat.ble 129 t then (2206) else (1076))) else (bif Nat.ble 125 t then (bif Nat.ble 126 t then (bif Nat.ble 127 t then (5113) else (5109)) else (5104)) else (bif Nat.ble 124 t then (5095) else (5100)))) else (bif Nat.ble 118 t then (bif Nat.ble 120 t then (bif Nat.ble 121 t then (bif Nat.ble 122 t then (5091) else (5079)) else (5075)) else (bif Nat.ble 119 t then (1114) else (4120))) else (bif Nat.ble 116 t then (bif Nat.ble 117 t then (4104) else (4124)) else (bif Nat.ble 115 t then (4112) else (4108)))))) else (bif Nat.ble 95 t then (bif Nat.ble 104 t then (bif Nat.ble 109 t then (bif Nat.ble 111 t then (bif Nat.ble 112 t then (bif Nat.ble 113 t then (4092) else (4086)) else (4082)) else (bif Nat.ble 110 t then (3190) else (3178))) else (bif Nat.ble 106 t then (bif Nat.ble 107 t then (bif Nat.ble 108 t then (3156) else (2237)) else (1038)) else (bif Nat.ble 105 t then (4139) else (5018)))) else (bif Nat.ble 99 t then (bif Nat.ble 101 t then (bif Nat.ble 102 t then (bif Nat.ble 103 t then (4136) else (4201)) else (4162)) else (bif Nat.ble 100 t then (4209) else (4074))) else (bif Nat.ble 97 t then (bif Nat.ble 98 t then (4064) else (4060)) else (bif Nat.ble 96 t then (4051) else (4031))))) else (bif Nat.ble 85 t then (bif Nat.ble 90 t then (bif Nat.ble 92 t then (bif Nat.ble 93 t then (bif Nat.ble 94 t then (4023) else (1167)) else (5087)) else (bif Nat.ble 91 t then (5083) else (5071))) else (bif Nat.ble 87 t then (bif Nat.ble 88 t then (bif Nat.ble 89 t then (5063) else (5059)) else (5067)) else (bif Nat.ble 86 t then (5055) else (5051)))) else (bif Nat.ble 80 t then (bif Nat.ble 82 t then (bif Nat.ble 83 t then (bif Nat.ble 84 t then (5121) else (5030)) else (3234)) else (bif Nat.ble 81 t then (3231) else (4000))) else (bif Nat.ble 78 t then (bif Nat.ble 79 t then (3228) else (3225)) else (bif Nat.ble 77 t then (3215) else (3202))))))) else (bif Nat.ble 38 t then (bif Nat.ble 57 t then (bif Nat.ble 66 t then (bif Nat.ble 71 t then (bif Nat.ble 73 t then (bif Nat.ble 74 t then (bif Nat.ble 75 t then (3194) else (1108)) else (6013)) else (bif Nat.ble 72 t then (6010) else (6006))) else (bif Nat.ble 68 t then (bif Nat.ble 69 t then (bif Nat.ble 70 t then (6028) else (6041)) else (6024)) else (bif Nat.ble 67 t then (6020) else (6037)))) else (bif Nat.ble 61 t then (bif Nat.ble 63 t then (bif Nat.ble 64 t then (bif Nat.ble 65 t then (5238) else (5230)) else (5219)) else (bif Nat.ble 62 t then (5204) else (5190))) else (bif Nat.ble 59 t then (bif Nat.ble 60 t then (6002) else (5208)) else (bif Nat.ble 58 t then (5222) else (5193))))) else (bif Nat.ble 47 t then (bif Nat.ble 52 t then (bif Nat.ble 54 t then (bif Nat.ble 55 t then (bif Nat.ble 56 t then (5211) else (5196)) else (2021)) else (bif Nat.ble 53 t then (4196) else (4145))) else (bif Nat.ble 49 t then (bif Nat.ble 50 t then (bif Nat.ble 51 t then (4142) else (4172)) else (4169)) else (bif Nat.ble 48 t then (5013) else (5001)))) else (bif Nat.ble 42 t then (bif Nat.ble 44 t then (bif Nat.ble 45 t then (bif Nat.ble 46 t then (4231) else (4237)) else (4227)) else (bif Nat.ble 43 t then (5005) else (4221))) else (bif Nat.ble 40 t then (bif Nat.ble 41 t then (4205) else (4193)) else (bif Nat.ble 39 t then (4189) else (4184)))))) else (bif Nat.ble 19 t then (bif Nat.ble 28 t then (bif Nat.ble 33 t then (bif Nat.ble 35 t then (bif Nat.ble 36 t then (bif Nat.ble 37 t then (4176) else (4158)) else (4132)) else (bif Nat.ble 34 t then (4019) else (1161))) else (bif Nat.ble 30 t then (bif Nat.ble 31 t then (bif Nat.ble 32 t then (5135) else (5130)) else (5039)) else (bif Nat.ble 29 t then (4041) else (4048)))) else (bif Nat.ble 23 t then (bif Nat.ble 25 t then (bif Nat.ble 26 t then (bif Nat.ble 27 t then (4100) else (4096)) else (4035)) else (bif Nat.ble 24 t then (5035) else (4027))) else (bif Nat.ble 21 t then (bif Nat.ble 22 t then (2197) else (2189)) else (bif Nat.ble 20 t then (2178) else (2181))))) else (bif Nat.ble 9 t then (bif Nat.ble 14 t then (bif Nat.ble 16 t then (bif Nat.ble 17 t then (bif Nat.ble 18 t then (2114) else (2110)) else (5182)) else (bif Nat.ble 15 t then (5178) else (5174))) else (bif Nat.ble 11 t then (bif Nat.ble 12 t then (bif Nat.ble 13 t then (5163) else (5155)) else (5144)) else (bif Nat.ble 10 t then (5166) else (5147)))) else (bif Nat.ble 4 t then (bif Nat.ble 6 t then (bif Nat.ble 7 t then (bif Nat.ble 8 t then (2004) else (6081)) else (6077)) else (bif Nat.ble 5 t then (6086) else (6073))) else (bif Nat.ble 2 t then (bif Nat.ble 3 t then (6065) else (6053)) else (bif Nat.ble 1 t then (6057) else (2070))))))))
noncomputable def qpS (t : Nat) : Nat := bif Nat.ble 152 t then (bif Nat.ble 228 t then (bif Nat.ble 266 t then (bif Nat.ble 285 t then (bif Nat.ble 295 t then (bif Nat.ble 300 t then (bif Nat.ble 302 t then (bif Nat.ble 303 t then (bif Nat.ble 304 t then (4147) else (4164)) else (4066)) else (bif Nat.ble 301 t then (4054) else (4043))) else (bif Nat.ble 297 t then (bif Nat.ble 298 t then (bif Nat.ble 299 t then (9044) else (9052)) else (9036)) else (bif Nat.ble 296 t then (9041) else (9032)))) else (bif Nat.ble 290 t then (bif Nat.ble 292 t then (bif Nat.ble 293 t then (bif Nat.ble 294 t then (9024) else (9048)) else (9028)) else (bif Nat.ble 291 t then (9016) else (9021))) else (bif Nat.ble 287 t then (bif Nat.ble 288 t then (bif Nat.ble 289 t then (9012) else (9008)) else (9002)) else (bif Nat.ble 286 t then (8230) else (8235))))) else (bif Nat.ble 275 t then (bif Nat.ble 280 t then (bif Nat.ble 282 t then (bif Nat.ble 283 t then (bif Nat.ble 284 t then (8239) else (8226)) else (8222)) else (bif Nat.ble 281 t then (8214) else (8210))) else (bif Nat.ble 277 t then (bif Nat.ble 278 t then (bif Nat.ble 279 t then (8219) else (8206)) else (8202)) else (bif Nat.ble 276 t then (8198) else (8191)))) else (bif Nat.ble 270 t then (bif Nat.ble 272 t then (bif Nat.ble 273 t then (bif Nat.ble 274 t then (8195) else (8187)) else (8177)) else (bif Nat.ble 271 t then (8183) else (8156))) else (bif Nat.ble 268 t then (bif Nat.ble 269 t then (8165) else (8161)) else (bif Nat.ble 267 t then (8169) else (8180)))))) else (bif Nat.ble 247 t then (bif Nat.ble 256 t then (bif Nat.ble 261 t then (bif Nat.ble 263 t then (bif Nat.ble 264 t then (bif Nat.ble 265 t then (8173) else (8152)) else (8144)) else (bif Nat.ble 262 t then (8149) else (8132))) else (bif Nat.ble 258 t then (bif Nat.ble 259 t then (bif Nat.ble 260 t then (8137) else (8141)) else (8124)) else (bif Nat.ble 257 t then (8129) else (7203)))) else (bif Nat.ble 251 t then (bif Nat.ble 253 t then (bif Nat.ble 254 t then (bif Nat.ble 255 t then (8120) else (8093)) else (8101)) else (bif Nat.ble 252 t then (8109) else (8105))) else (bif Nat.ble 249 t then (bif Nat.ble 250 t then (8117) else (8113)) else (bif Nat.ble 248 t then (8089) else (8086))))) else (bif Nat.ble 237 t then (bif Nat.ble 242 t then (bif Nat.ble 244 t then (bif Nat.ble 245 t then (bif Nat.ble 246 t then (8082) else (7214)) else (8046)) else (bif Nat.ble 243 t then (8030) else (8058))) else (bif Nat.ble 239 t then (bif Nat.ble 240 t then (bif Nat.ble 241 t then (8054) else (8050)) else (8078)) else (bif Nat.ble 238 t then (8074) else (8070)))) else (bif Nat.ble 232 t then (bif Nat.ble 234 t then (bif Nat.ble 235 t then (bif Nat.ble 236 t then (8062) else (8066)) else (8038)) else (bif Nat.ble 233 t then (8042) else (8034))) else (bif Nat.ble 230 t then (bif Nat.ble 231 t then (7219) else (8026)) else (bif Nat.ble 229 t then (7230) else (7234))))))) else (bif Nat.ble 190 t then (bif Nat.ble 209 t then (bif Nat.ble 218 t then (bif Nat.ble 223 t then (bif Nat.ble 225 t then (bif Nat.ble 226 t then (bif Nat.ble 227 t then (7239) else (8022)) else (7226)) else (bif Nat.ble 224 t then (7223) else (7210))) else (bif Nat.ble 220 t then (bif Nat.ble 221 t then (bif Nat.ble 222 t then (7206) else (7179)) else (7187)) else (bif Nat.ble 219 t then (7195) else (7199)))) else (bif Nat.ble 213 t then (bif Nat.ble 215 t then (bif Nat.ble 216 t then (bif Nat.ble 217 t then (7170) else (7174)) else (7160)) else (bif Nat.ble 214 t then (7147) else (7164))) else (bif Nat.ble 211 t then (bif Nat.ble 212 t then (7167) else (7191)) else (bif Nat.ble 210 t then (7183) else (8097))))) else (bif Nat.ble 199 t then (bif Nat.ble 204 t then (bif Nat.ble 206 t then (bif Nat.ble 207 t then (bif Nat.ble 208 t then (7157) else (7151)) else (7154)) else (bif Nat.ble 205 t then (6140) else (5025))) else (bif Nat.ble 201 t then (bif Nat.ble 202 t then (bif Nat.ble 203 t then (5046) else (2232)) else (4215)) else (bif Nat.ble 200 t then (4014) else (2228)))) else (bif Nat.ble 194 t then (bif Nat.ble 196 t then (bif Nat.ble 197 t then (bif Nat.ble 198 t then (2173) else (6121)) else (6105)) else (bif Nat.ble 195 t then (6097) else (6088))) else (bif Nat.ble 192 t then (bif Nat.ble 193 t then (6067) else (6059)) else (bif Nat.ble 191 t then (6047) else (6031)))))) else (bif Nat.ble 171 t then (bif Nat.ble 180 t then (bif Nat.ble 185 t then (bif Nat.ble 187 t then (bif Nat.ble 188 t then (bif Nat.ble 189 t then (5232) else (5224)) else (5213)) else (bif Nat.ble 186 t then (5198) else (5184))) else (bif Nat.ble 182 t then (bif Nat.ble 183 t then (bif Nat.ble 184 t then (5168) else (5157)) else (5149)) else (bif Nat.ble 181 t then (5138) else (5123)))) else (bif Nat.ble 175 t then (bif Nat.ble 177 t then (bif Nat.ble 178 t then (bif Nat.ble 179 t then (5115) else (5020)) else (5007)) else (bif Nat.ble 176 t then (4211) else (4178))) else (bif Nat.ble 173 t then (bif Nat.ble 174 t then (4126) else (4114)) else (bif Nat.ble 172 t then (4076) else (4010))))) else (bif Nat.ble 161 t then (bif Nat.ble 166 t then (bif Nat.ble 168 t then (bif Nat.ble 169 t then (bif Nat.ble 170 t then (4002) else (2220)) else (2212)) else (bif Nat.ble 167 t then (2200) else (2191))) else (bif Nat.ble 163 t then (bif Nat.ble 164 t then (bif Nat.ble 165 t then (2183) else (2169)) else (1026)) else (bif Nat.ble 162 t then (6135) else (6131)))) else (bif Nat.ble 156 t then (bif Nat.ble 158 t then (bif Nat.ble 159 t then (bif Nat.ble 160 t then (6114) else (6118)) else (6125)) else (bif Nat.ble 157 t then (6109) else (6101))) else (bif Nat.ble 154 t then (bif Nat.ble 155 t then (6092) else (2091)) else (bif Nat.ble 153 t then (3163) else (3171)))))))) else (bif Nat.ble 76 t then (bif Nat.ble 114 t then (bif Nat.ble 133 t then (bif Nat.ble 142 t then (bif Nat.ble 147 t then (bif Nat.ble 149 t then (bif Nat.ble 150 t then (bif Nat.ble 151 t then (3180) else (3184)) else (3167)) else (bif Nat.ble 148 t then (3158) else (3204))) else (bif Nat.ble 144 t then (bif Nat.ble 145 t then (bif Nat.ble 146 t then (3218) else (3150)) else (3077)) else (bif Nat.ble 143 t then (3073) else (3021)))) else (bif Nat.ble 137 t then (bif Nat.ble 139 t then (bif Nat.ble 140 t then (bif Nat.ble 141 t then (3088) else (3084)) else (3017)) else (bif Nat.ble 138 t then (3080) else (3013))) else (bif Nat.ble 135 t then (bif Nat.ble 136 t then (3010) else (3006)) else (bif Nat.ble 134 t then (3001) else (4006))))) else (bif Nat.ble 123 t then (bif Nat.ble 128 t then (bif Nat.ble 130 t then (bif Nat.ble 131 t then (bif Nat.ble 132 t then (2224) else (2216)) else (2208)) else (bif Nat.ble 129 t then (2204) else (1075))) else (bif Nat.ble 125 t then (bif Nat.ble 126 t then (bif Nat.ble 127 t then (5111) else (5108)) else (5102)) else (bif Nat.ble 124 t then (5094) else (5098)))) else (bif Nat.ble 118 t then (bif Nat.ble 120 t then (bif Nat.ble 121 t then (bif Nat.ble 122 t then (5089) else (5078)) else (5073)) else (bif Nat.ble 119 t then (1113) else (4118))) else (bif Nat.ble 116 t then (bif Nat.ble 117 t then (4102) else (4122)) else (bif Nat.ble 115 t then (4110) else (4106)))))) else (bif Nat.ble 95 t then (bif Nat.ble 104 t then (bif Nat.ble 109 t then (bif Nat.ble 111 t then (bif Nat.ble 112 t then (bif Nat.ble 113 t then (4091) else (4085)) else (4080)) else (bif Nat.ble 110 t then (3188) else (3177))) else (bif Nat.ble 106 t then (bif Nat.ble 107 t then (bif Nat.ble 108 t then (3155) else (2235)) else (1037)) else (bif Nat.ble 105 t then (4138) else (5016)))) else (bif Nat.ble 99 t then (bif Nat.ble 101 t then (bif Nat.ble 102 t then (bif Nat.ble 103 t then (4134) else (4199)) else (4160)) else (bif Nat.ble 100 t then (4207) else (4072))) else (bif Nat.ble 97 t then (bif Nat.ble 98 t then (4063) else (4059)) else (bif Nat.ble 96 t then (4050) else (4030))))) else (bif Nat.ble 85 t then (bif Nat.ble 90 t then (bif Nat.ble 92 t then (bif Nat.ble 93 t then (bif Nat.ble 94 t then (4021) else (1166)) else (5086)) else (bif Nat.ble 91 t then (5082) else (5070))) else (bif Nat.ble 87 t then (bif Nat.ble 88 t then (bif Nat.ble 89 t then (5062) else (5058)) else (5066)) else (bif Nat.ble 86 t then (5054) else (5049)))) else (bif Nat.ble 80 t then (bif Nat.ble 82 t then (bif Nat.ble 83 t then (bif Nat.ble 84 t then (5119) else (5028)) else (3233)) else (bif Nat.ble 81 t then (3230) else (3239))) else (bif Nat.ble 78 t then (bif Nat.ble 79 t then (3227) else (3224)) else (bif Nat.ble 77 t then (3214) else (3201))))))) else (bif Nat.ble 38 t then (bif Nat.ble 57 t then (bif Nat.ble 66 t then (bif Nat.ble 71 t then (bif Nat.ble 73 t then (bif Nat.ble 74 t then (bif Nat.ble 75 t then (3192) else (1107)) else (6012)) else (bif Nat.ble 72 t then (6009) else (6005))) else (bif Nat.ble 68 t then (bif Nat.ble 69 t then (bif Nat.ble 70 t then (6027) else (6040)) else (6023)) else (bif Nat.ble 67 t then (6019) else (6035)))) else (bif Nat.ble 61 t then (bif Nat.ble 63 t then (bif Nat.ble 64 t then (bif Nat.ble 65 t then (5236) else (5228)) else (5217)) else (bif Nat.ble 62 t then (5202) else (5188))) else (bif Nat.ble 59 t then (bif Nat.ble 60 t then (6001) else (5207)) else (bif Nat.ble 58 t then (5221) else (5192))))) else (bif Nat.ble 47 t then (bif Nat.ble 52 t then (bif Nat.ble 54 t then (bif Nat.ble 55 t then (bif Nat.ble 56 t then (5210) else (5195)) else (2020)) else (bif Nat.ble 53 t then (4195) else (4144))) else (bif Nat.ble 49 t then (bif Nat.ble 50 t then (bif Nat.ble 51 t then (4141) else (4171)) else (4168)) else (bif Nat.ble 48 t then (5011) else (5000)))) else (bif Nat.ble 42 t then (bif Nat.ble 44 t then (bif Nat.ble 45 t then (bif Nat.ble 46 t then (4230) else (4236)) else (4226)) else (bif Nat.ble 43 t then (5003) else (4219))) else (bif Nat.ble 40 t then (bif Nat.ble 41 t then (4204) else (4192)) else (bif Nat.ble 39 t then (4188) else (4182)))))) else (bif Nat.ble 19 t then (bif Nat.ble 28 t then (bif Nat.ble 33 t then (bif Nat.ble 35 t then (bif Nat.ble 36 t then (bif Nat.ble 37 t then (4174) else (4157)) else (4130)) else (bif Nat.ble 34 t then (4017) else (1160))) else (bif Nat.ble 30 t then (bif Nat.ble 31 t then (bif Nat.ble 32 t then (5134) else (5128)) else (5037)) else (bif Nat.ble 29 t then (4039) else (4046)))) else (bif Nat.ble 23 t then (bif Nat.ble 25 t then (bif Nat.ble 26 t then (bif Nat.ble 27 t then (4098) else (4094)) else (4033)) else (bif Nat.ble 24 t then (5033) else (4025))) else (bif Nat.ble 21 t then (bif Nat.ble 22 t then (2195) else (2187)) else (bif Nat.ble 20 t then (2176) else (2180))))) else (bif Nat.ble 9 t then (bif Nat.ble 14 t then (bif Nat.ble 16 t then (bif Nat.ble 17 t then (bif Nat.ble 18 t then (2113) else (2109)) else (5181)) else (bif Nat.ble 15 t then (5177) else (5172))) else (bif Nat.ble 11 t then (bif Nat.ble 12 t then (bif Nat.ble 13 t then (5161) else (5153)) else (5142)) else (bif Nat.ble 10 t then (5165) else (5146)))) else (bif Nat.ble 4 t then (bif Nat.ble 6 t then (bif Nat.ble 7 t then (bif Nat.ble 8 t then (2003) else (6080)) else (6076)) else (bif Nat.ble 5 t then (6085) else (6071))) else (bif Nat.ble 2 t then (bif Nat.ble 3 t then (6063) else (6051)) else (bif Nat.ble 1 t then (6056) else (2069))))))))
noncomputable def qpV (t : Nat) : Nat := bif Nat.ble 152 t then (bif Nat.ble 228 t then (bif Nat.ble 266 t then (bif Nat.ble 285 t then (bif Nat.ble 295 t then (bif Nat.ble 300 t then (bif Nat.ble 302 t then (bif Nat.ble 303 t then (bif Nat.ble 304 t then (99999) else (99999)) else (99999)) else (bif Nat.ble 301 t then (99999) else (99999))) else (bif Nat.ble 297 t then (bif Nat.ble 298 t then (bif Nat.ble 299 t then (9045) else (98)) else (9037)) else (bif Nat.ble 296 t then (97) else (9033)))) else (bif Nat.ble 290 t then (bif Nat.ble 292 t then (bif Nat.ble 293 t then (bif Nat.ble 294 t then (9025) else (99999)) else (99999)) else (bif Nat.ble 291 t then (9017) else (96))) else (bif Nat.ble 287 t then (bif Nat.ble 288 t then (bif Nat.ble 289 t then (9013) else (9009)) else (9003)) else (bif Nat.ble 286 t then (8231) else (94))))) else (bif Nat.ble 275 t then (bif Nat.ble 280 t then (bif Nat.ble 282 t then (bif Nat.ble 283 t then (bif Nat.ble 284 t then (95) else (8227)) else (8223)) else (bif Nat.ble 281 t then (8215) else (8211))) else (bif Nat.ble 277 t then (bif Nat.ble 278 t then (bif Nat.ble 279 t then (93) else (8207)) else (8203)) else (bif Nat.ble 276 t then (8199) else (8192)))) else (bif Nat.ble 270 t then (bif Nat.ble 272 t then (bif Nat.ble 273 t then (bif Nat.ble 274 t then (99999) else (8188)) else (92)) else (bif Nat.ble 271 t then (8184) else (8157))) else (bif Nat.ble 268 t then (bif Nat.ble 269 t then (89) else (88)) else (bif Nat.ble 267 t then (90) else (99999)))))) else (bif Nat.ble 247 t then (bif Nat.ble 256 t then (bif Nat.ble 261 t then (bif Nat.ble 263 t then (bif Nat.ble 264 t then (bif Nat.ble 265 t then (91) else (8153)) else (8145)) else (bif Nat.ble 262 t then (87) else (8133))) else (bif Nat.ble 258 t then (bif Nat.ble 259 t then (bif Nat.ble 260 t then (85) else (86)) else (8125)) else (bif Nat.ble 257 t then (84) else (57)))) else (bif Nat.ble 251 t then (bif Nat.ble 253 t then (bif Nat.ble 254 t then (bif Nat.ble 255 t then (8121) else (8094)) else (79)) else (bif Nat.ble 252 t then (81) else (80))) else (bif Nat.ble 249 t then (bif Nat.ble 250 t then (83) else (82)) else (bif Nat.ble 248 t then (8090) else (78))))) else (bif Nat.ble 237 t then (bif Nat.ble 242 t then (bif Nat.ble 244 t then (bif Nat.ble 245 t then (bif Nat.ble 246 t then (77) else (7215)) else (68)) else (bif Nat.ble 243 t then (64) else (71))) else (bif Nat.ble 239 t then (bif Nat.ble 240 t then (bif Nat.ble 241 t then (70) else (69)) else (76)) else (bif Nat.ble 238 t then (75) else (74)))) else (bif Nat.ble 232 t then (bif Nat.ble 234 t then (bif Nat.ble 235 t then (bif Nat.ble 236 t then (72) else (73)) else (66)) else (bif Nat.ble 233 t then (67) else (65))) else (bif Nat.ble 230 t then (bif Nat.ble 231 t then (58) else (63)) else (bif Nat.ble 229 t then (60) else (61))))))) else (bif Nat.ble 190 t then (bif Nat.ble 209 t then (bif Nat.ble 218 t then (bif Nat.ble 223 t then (bif Nat.ble 225 t then (bif Nat.ble 226 t then (bif Nat.ble 227 t then (62) else (99999)) else (99999)) else (bif Nat.ble 224 t then (59) else (7211))) else (bif Nat.ble 220 t then (bif Nat.ble 221 t then (bif Nat.ble 222 t then (7207) else (7180)) else (54)) else (bif Nat.ble 219 t then (55) else (56)))) else (bif Nat.ble 213 t then (bif Nat.ble 215 t then (bif Nat.ble 216 t then (bif Nat.ble 217 t then (7171) else (99999)) else (7161)) else (bif Nat.ble 214 t then (7148) else (99999))) else (bif Nat.ble 211 t then (bif Nat.ble 212 t then (99999) else (99999)) else (bif Nat.ble 210 t then (99999) else (99999))))) else (bif Nat.ble 199 t then (bif Nat.ble 204 t then (bif Nat.ble 206 t then (bif Nat.ble 207 t then (bif Nat.ble 208 t then (99999) else (99999)) else (99999)) else (bif Nat.ble 205 t then (99999) else (24))) else (bif Nat.ble 201 t then (bif Nat.ble 202 t then (bif Nat.ble 203 t then (25) else (0)) else (99999)) else (bif Nat.ble 200 t then (99999) else (99999)))) else (bif Nat.ble 194 t then (bif Nat.ble 196 t then (bif Nat.ble 197 t then (bif Nat.ble 198 t then (99999) else (6122)) else (6106)) else (bif Nat.ble 195 t then (6098) else (6089))) else (bif Nat.ble 192 t then (bif Nat.ble 193 t then (6068) else (6060)) else (bif Nat.ble 191 t then (6048) else (6032)))))) else (bif Nat.ble 171 t then (bif Nat.ble 180 t then (bif Nat.ble 185 t then (bif Nat.ble 187 t then (bif Nat.ble 188 t then (bif Nat.ble 189 t then (5233) else (5225)) else (5214)) else (bif Nat.ble 186 t then (5199) else (5185))) else (bif Nat.ble 182 t then (bif Nat.ble 183 t then (bif Nat.ble 184 t then (5169) else (5158)) else (5150)) else (bif Nat.ble 181 t then (5139) else (5124)))) else (bif Nat.ble 175 t then (bif Nat.ble 177 t then (bif Nat.ble 178 t then (bif Nat.ble 179 t then (5116) else (5021)) else (5008)) else (bif Nat.ble 176 t then (4212) else (4179))) else (bif Nat.ble 173 t then (bif Nat.ble 174 t then (4127) else (4115)) else (bif Nat.ble 172 t then (4077) else (4011))))) else (bif Nat.ble 161 t then (bif Nat.ble 166 t then (bif Nat.ble 168 t then (bif Nat.ble 169 t then (bif Nat.ble 170 t then (4003) else (2221)) else (2213)) else (bif Nat.ble 167 t then (2201) else (2192))) else (bif Nat.ble 163 t then (bif Nat.ble 164 t then (bif Nat.ble 165 t then (2184) else (2170)) else (99999)) else (bif Nat.ble 162 t then (53) else (52)))) else (bif Nat.ble 156 t then (bif Nat.ble 158 t then (bif Nat.ble 159 t then (bif Nat.ble 160 t then (50) else (51)) else (6126)) else (bif Nat.ble 157 t then (6110) else (6102))) else (bif Nat.ble 154 t then (bif Nat.ble 155 t then (6093) else (99999)) else (bif Nat.ble 153 t then (3164) else (3172)))))))) else (bif Nat.ble 76 t then (bif Nat.ble 114 t then (bif Nat.ble 133 t then (bif Nat.ble 142 t then (bif Nat.ble 147 t then (bif Nat.ble 149 t then (bif Nat.ble 150 t then (bif Nat.ble 151 t then (3181) else (3185)) else (3168)) else (bif Nat.ble 148 t then (3159) else (3205))) else (bif Nat.ble 144 t then (bif Nat.ble 145 t then (bif Nat.ble 146 t then (3219) else (3151)) else (6)) else (bif Nat.ble 143 t then (5) else (4)))) else (bif Nat.ble 137 t then (bif Nat.ble 139 t then (bif Nat.ble 140 t then (bif Nat.ble 141 t then (8) else (7)) else (3)) else (bif Nat.ble 138 t then (99999) else (99999))) else (bif Nat.ble 135 t then (bif Nat.ble 136 t then (2) else (1)) else (bif Nat.ble 134 t then (3002) else (4007))))) else (bif Nat.ble 123 t then (bif Nat.ble 128 t then (bif Nat.ble 130 t then (bif Nat.ble 131 t then (bif Nat.ble 132 t then (2225) else (2217)) else (2209)) else (bif Nat.ble 129 t then (2205) else (99999))) else (bif Nat.ble 125 t then (bif Nat.ble 126 t then (bif Nat.ble 127 t then (5112) else (35)) else (5103)) else (bif Nat.ble 124 t then (34) else (5099)))) else (bif Nat.ble 118 t then (bif Nat.ble 120 t then (bif Nat.ble 121 t then (bif Nat.ble 122 t then (5090) else (31)) else (5074)) else (bif Nat.ble 119 t then (99999) else (4119))) else (bif Nat.ble 116 t then (bif Nat.ble 117 t then (4103) else (4123)) else (bif Nat.ble 115 t then (4111) else (4107)))))) else (bif Nat.ble 95 t then (bif Nat.ble 104 t then (bif Nat.ble 109 t then (bif Nat.ble 111 t then (bif Nat.ble 112 t then (bif Nat.ble 113 t then (15) else (14)) else (4081)) else (bif Nat.ble 110 t then (3189) else (99999))) else (bif Nat.ble 106 t then (bif Nat.ble 107 t then (bif Nat.ble 108 t then (9) else (2236)) else (99999)) else (bif Nat.ble 105 t then (99999) else (5017)))) else (bif Nat.ble 99 t then (bif Nat.ble 101 t then (bif Nat.ble 102 t then (bif Nat.ble 103 t then (4135) else (4200)) else (4161)) else (bif Nat.ble 100 t then (4208) else (4073))) else (bif Nat.ble 97 t then (bif Nat.ble 98 t then (99999) else (13)) else (bif Nat.ble 96 t then (99999) else (12))))) else (bif Nat.ble 85 t then (bif Nat.ble 90 t then (bif Nat.ble 92 t then (bif Nat.ble 93 t then (bif Nat.ble 94 t then (4022) else (99999)) else (33)) else (bif Nat.ble 91 t then (32) else (30))) else (bif Nat.ble 87 t then (bif Nat.ble 88 t then (bif Nat.ble 89 t then (28) else (27)) else (29)) else (bif Nat.ble 86 t then (26) else (5050)))) else (bif Nat.ble 80 t then (bif Nat.ble 82 t then (bif Nat.ble 83 t then (bif Nat.ble 84 t then (5120) else (5029)) else (99999)) else (bif Nat.ble 81 t then (99999) else (99999))) else (bif Nat.ble 78 t then (bif Nat.ble 79 t then (99999) else (99999)) else (bif Nat.ble 77 t then (11) else (10))))))) else (bif Nat.ble 38 t then (bif Nat.ble 57 t then (bif Nat.ble 66 t then (bif Nat.ble 71 t then (bif Nat.ble 73 t then (bif Nat.ble 74 t then (bif Nat.ble 75 t then (3193) else (99999)) else (99999)) else (bif Nat.ble 72 t then (42) else (41))) else (bif Nat.ble 68 t then (bif Nat.ble 69 t then (bif Nat.ble 70 t then (45) else (46)) else (44)) else (bif Nat.ble 67 t then (43) else (6036)))) else (bif Nat.ble 61 t then (bif Nat.ble 63 t then (bif Nat.ble 64 t then (bif Nat.ble 65 t then (5237) else (5229)) else (5218)) else (bif Nat.ble 62 t then (5203) else (5189))) else (bif Nat.ble 59 t then (bif Nat.ble 60 t then (40) else (39)) else (bif Nat.ble 58 t then (99999) else (99999))))) else (bif Nat.ble 47 t then (bif Nat.ble 52 t then (bif Nat.ble 54 t then (bif Nat.ble 55 t then (bif Nat.ble 56 t then (99999) else (99999)) else (99999)) else (bif Nat.ble 53 t then (99999) else (99999))) else (bif Nat.ble 49 t then (bif Nat.ble 50 t then (bif Nat.ble 51 t then (99999) else (99999)) else (99999)) else (bif Nat.ble 48 t then (5012) else (23)))) else (bif Nat.ble 42 t then (bif Nat.ble 44 t then (bif Nat.ble 45 t then (bif Nat.ble 46 t then (21) else (22)) else (20)) else (bif Nat.ble 43 t then (5004) else (4220))) else (bif Nat.ble 40 t then (bif Nat.ble 41 t then (19) else (18)) else (bif Nat.ble 39 t then (17) else (4183)))))) else (bif Nat.ble 19 t then (bif Nat.ble 28 t then (bif Nat.ble 33 t then (bif Nat.ble 35 t then (bif Nat.ble 36 t then (bif Nat.ble 37 t then (4175) else (16)) else (4131)) else (bif Nat.ble 34 t then (4018) else (99999))) else (bif Nat.ble 30 t then (bif Nat.ble 31 t then (bif Nat.ble 32 t then (36) else (5129)) else (5038)) else (bif Nat.ble 29 t then (4040) else (4047)))) else (bif Nat.ble 23 t then (bif Nat.ble 25 t then (bif Nat.ble 26 t then (bif Nat.ble 27 t then (4099) else (4095)) else (4034)) else (bif Nat.ble 24 t then (5034) else (4026))) else (bif Nat.ble 21 t then (bif Nat.ble 22 t then (2196) else (2188)) else (bif Nat.ble 20 t then (2177) else (99999))))) else (bif Nat.ble 9 t then (bif Nat.ble 14 t then (bif Nat.ble 16 t then (bif Nat.ble 17 t then (bif Nat.ble 18 t then (99999) else (99999)) else (38)) else (bif Nat.ble 15 t then (37) else (5173))) else (bif Nat.ble 11 t then (bif Nat.ble 12 t then (bif Nat.ble 13 t then (5162) else (5154)) else (5143)) else (bif Nat.ble 10 t then (99999) else (99999)))) else (bif Nat.ble 4 t then (bif Nat.ble 6 t then (bif Nat.ble 7 t then (bif Nat.ble 8 t then (99999) else (48)) else (47)) else (bif Nat.ble 5 t then (49) else (6072))) else (bif Nat.ble 2 t then (bif Nat.ble 3 t then (6064) else (6052)) else (bif Nat.ble 1 t then (99999) else (99999))))))))
noncomputable def qpI (t : Nat) : Nat := bif Nat.ble 152 t then (bif Nat.ble 228 t then (bif Nat.ble 266 t then (bif Nat.ble 285 t then (bif Nat.ble 295 t then (bif Nat.ble 300 t then (bif Nat.ble 302 t then (bif Nat.ble 303 t then (bif Nat.ble 304 t then (1022) else (1022)) else (1021)) else (bif Nat.ble 301 t then (1021) else (1021))) else (bif Nat.ble 297 t then (bif Nat.ble 298 t then (bif Nat.ble 299 t then (1014) else (1014)) else (1014)) else (bif Nat.ble 296 t then (1014) else (1014)))) else (bif Nat.ble 290 t then (bif Nat.ble 292 t then (bif Nat.ble 293 t then (bif Nat.ble 294 t then (1014) else (1014)) else (1014)) else (bif Nat.ble 291 t then (1014) else (1014))) else (bif Nat.ble 287 t then (bif Nat.ble 288 t then (bif Nat.ble 289 t then (1014) else (1014)) else (1014)) else (bif Nat.ble 286 t then (1014) else (1014))))) else (bif Nat.ble 275 t then (bif Nat.ble 280 t then (bif Nat.ble 282 t then (bif Nat.ble 283 t then (bif Nat.ble 284 t then (1014) else (1014)) else (1014)) else (bif Nat.ble 281 t then (1014) else (1014))) else (bif Nat.ble 277 t then (bif Nat.ble 278 t then (bif Nat.ble 279 t then (1014) else (1014)) else (1014)) else (bif Nat.ble 276 t then (1014) else (1014)))) else (bif Nat.ble 270 t then (bif Nat.ble 272 t then (bif Nat.ble 273 t then (bif Nat.ble 274 t then (1014) else (1014)) else (1014)) else (bif Nat.ble 271 t then (1014) else (1014))) else (bif Nat.ble 268 t then (bif Nat.ble 269 t then (1014) else (1014)) else (bif Nat.ble 267 t then (1014) else (1014)))))) else (bif Nat.ble 247 t then (bif Nat.ble 256 t then (bif Nat.ble 261 t then (bif Nat.ble 263 t then (bif Nat.ble 264 t then (bif Nat.ble 265 t then (1014) else (1014)) else (1014)) else (bif Nat.ble 262 t then (1014) else (1014))) else (bif Nat.ble 258 t then (bif Nat.ble 259 t then (bif Nat.ble 260 t then (1014) else (1014)) else (1014)) else (bif Nat.ble 257 t then (1014) else (1014)))) else (bif Nat.ble 251 t then (bif Nat.ble 253 t then (bif Nat.ble 254 t then (bif Nat.ble 255 t then (1014) else (1014)) else (1014)) else (bif Nat.ble 252 t then (1014) else (1014))) else (bif Nat.ble 249 t then (bif Nat.ble 250 t then (1014) else (1014)) else (bif Nat.ble 248 t then (1014) else (1014))))) else (bif Nat.ble 237 t then (bif Nat.ble 242 t then (bif Nat.ble 244 t then (bif Nat.ble 245 t then (bif Nat.ble 246 t then (1014) else (1014)) else (1014)) else (bif Nat.ble 243 t then (1014) else (1014))) else (bif Nat.ble 239 t then (bif Nat.ble 240 t then (bif Nat.ble 241 t then (1014) else (1014)) else (1014)) else (bif Nat.ble 238 t then (1014) else (1014)))) else (bif Nat.ble 232 t then (bif Nat.ble 234 t then (bif Nat.ble 235 t then (bif Nat.ble 236 t then (1014) else (1014)) else (1014)) else (bif Nat.ble 233 t then (1014) else (1014))) else (bif Nat.ble 230 t then (bif Nat.ble 231 t then (1014) else (1014)) else (bif Nat.ble 229 t then (1014) else (1014))))))) else (bif Nat.ble 190 t then (bif Nat.ble 209 t then (bif Nat.ble 218 t then (bif Nat.ble 223 t then (bif Nat.ble 225 t then (bif Nat.ble 226 t then (bif Nat.ble 227 t then (1014) else (1014)) else (1014)) else (bif Nat.ble 224 t then (1014) else (1014))) else (bif Nat.ble 220 t then (bif Nat.ble 221 t then (bif Nat.ble 222 t then (1014) else (1014)) else (1014)) else (bif Nat.ble 219 t then (1014) else (1014)))) else (bif Nat.ble 213 t then (bif Nat.ble 215 t then (bif Nat.ble 216 t then (bif Nat.ble 217 t then (1014) else (1014)) else (1014)) else (bif Nat.ble 214 t then (1014) else (1014))) else (bif Nat.ble 211 t then (bif Nat.ble 212 t then (1014) else (1014)) else (bif Nat.ble 210 t then (1014) else (1014))))) else (bif Nat.ble 199 t then (bif Nat.ble 204 t then (bif Nat.ble 206 t then (bif Nat.ble 207 t then (bif Nat.ble 208 t then (1014) else (1014)) else (1014)) else (bif Nat.ble 205 t then (1014) else (1001))) else (bif Nat.ble 201 t then (bif Nat.ble 202 t then (bif Nat.ble 203 t then (1001) else (1001)) else (1001)) else (bif Nat.ble 200 t then (1001) else (1001)))) else (bif Nat.ble 194 t then (bif Nat.ble 196 t then (bif Nat.ble 197 t then (bif Nat.ble 198 t then (1001) else (1001)) else (1001)) else (bif Nat.ble 195 t then (1001) else (1001))) else (bif Nat.ble 192 t then (bif Nat.ble 193 t then (1001) else (1001)) else (bif Nat.ble 191 t then (1001) else (1001)))))) else (bif Nat.ble 171 t then (bif Nat.ble 180 t then (bif Nat.ble 185 t then (bif Nat.ble 187 t then (bif Nat.ble 188 t then (bif Nat.ble 189 t then (1001) else (1001)) else (1001)) else (bif Nat.ble 186 t then (1001) else (1001))) else (bif Nat.ble 182 t then (bif Nat.ble 183 t then (bif Nat.ble 184 t then (1001) else (1001)) else (1001)) else (bif Nat.ble 181 t then (1001) else (1001)))) else (bif Nat.ble 175 t then (bif Nat.ble 177 t then (bif Nat.ble 178 t then (bif Nat.ble 179 t then (1001) else (1001)) else (1001)) else (bif Nat.ble 176 t then (1001) else (1001))) else (bif Nat.ble 173 t then (bif Nat.ble 174 t then (1001) else (1001)) else (bif Nat.ble 172 t then (1001) else (1001))))) else (bif Nat.ble 161 t then (bif Nat.ble 166 t then (bif Nat.ble 168 t then (bif Nat.ble 169 t then (bif Nat.ble 170 t then (1001) else (1001)) else (1001)) else (bif Nat.ble 167 t then (1001) else (1001))) else (bif Nat.ble 163 t then (bif Nat.ble 164 t then (bif Nat.ble 165 t then (1001) else (1001)) else (1001)) else (bif Nat.ble 162 t then (1011) else (1011)))) else (bif Nat.ble 156 t then (bif Nat.ble 158 t then (bif Nat.ble 159 t then (bif Nat.ble 160 t then (1011) else (1011)) else (1011)) else (bif Nat.ble 157 t then (1011) else (1011))) else (bif Nat.ble 154 t then (bif Nat.ble 155 t then (1011) else (1011)) else (bif Nat.ble 153 t then (1003) else (1003)))))))) else (bif Nat.ble 76 t then (bif Nat.ble 114 t then (bif Nat.ble 133 t then (bif Nat.ble 142 t then (bif Nat.ble 147 t then (bif Nat.ble 149 t then (bif Nat.ble 150 t then (bif Nat.ble 151 t then (1003) else (1003)) else (1003)) else (bif Nat.ble 148 t then (1003) else (1003))) else (bif Nat.ble 144 t then (bif Nat.ble 145 t then (bif Nat.ble 146 t then (1003) else (1003)) else (1003)) else (bif Nat.ble 143 t then (1003) else (1003)))) else (bif Nat.ble 137 t then (bif Nat.ble 139 t then (bif Nat.ble 140 t then (bif Nat.ble 141 t then (1003) else (1003)) else (1003)) else (bif Nat.ble 138 t then (1003) else (1003))) else (bif Nat.ble 135 t then (bif Nat.ble 136 t then (1003) else (1003)) else (bif Nat.ble 134 t then (1003) else (1003))))) else (bif Nat.ble 123 t then (bif Nat.ble 128 t then (bif Nat.ble 130 t then (bif Nat.ble 131 t then (bif Nat.ble 132 t then (1003) else (1003)) else (1003)) else (bif Nat.ble 129 t then (1003) else (1003))) else (bif Nat.ble 125 t then (bif Nat.ble 126 t then (bif Nat.ble 127 t then (1005) else (1005)) else (1005)) else (bif Nat.ble 124 t then (1005) else (1005)))) else (bif Nat.ble 118 t then (bif Nat.ble 120 t then (bif Nat.ble 121 t then (bif Nat.ble 122 t then (1005) else (1005)) else (1005)) else (bif Nat.ble 119 t then (1005) else (1002))) else (bif Nat.ble 116 t then (bif Nat.ble 117 t then (1002) else (1002)) else (bif Nat.ble 115 t then (1002) else (1002)))))) else (bif Nat.ble 95 t then (bif Nat.ble 104 t then (bif Nat.ble 109 t then (bif Nat.ble 111 t then (bif Nat.ble 112 t then (bif Nat.ble 113 t then (1002) else (1002)) else (1002)) else (bif Nat.ble 110 t then (1002) else (1002))) else (bif Nat.ble 106 t then (bif Nat.ble 107 t then (bif Nat.ble 108 t then (1002) else (1002)) else (1002)) else (bif Nat.ble 105 t then (1007) else (1007)))) else (bif Nat.ble 99 t then (bif Nat.ble 101 t then (bif Nat.ble 102 t then (bif Nat.ble 103 t then (1007) else (1007)) else (1007)) else (bif Nat.ble 100 t then (1007) else (1007))) else (bif Nat.ble 97 t then (bif Nat.ble 98 t then (1007) else (1007)) else (bif Nat.ble 96 t then (1007) else (1007))))) else (bif Nat.ble 85 t then (bif Nat.ble 90 t then (bif Nat.ble 92 t then (bif Nat.ble 93 t then (bif Nat.ble 94 t then (1007) else (1007)) else (1004)) else (bif Nat.ble 91 t then (1004) else (1004))) else (bif Nat.ble 87 t then (bif Nat.ble 88 t then (bif Nat.ble 89 t then (1004) else (1004)) else (1004)) else (bif Nat.ble 86 t then (1004) else (1004)))) else (bif Nat.ble 80 t then (bif Nat.ble 82 t then (bif Nat.ble 83 t then (bif Nat.ble 84 t then (1004) else (1004)) else (1004)) else (bif Nat.ble 81 t then (1004) else (1004))) else (bif Nat.ble 78 t then (bif Nat.ble 79 t then (1004) else (1004)) else (bif Nat.ble 77 t then (1004) else (1004))))))) else (bif Nat.ble 38 t then (bif Nat.ble 57 t then (bif Nat.ble 66 t then (bif Nat.ble 71 t then (bif Nat.ble 73 t then (bif Nat.ble 74 t then (bif Nat.ble 75 t then (1004) else (1004)) else (1009)) else (bif Nat.ble 72 t then (1009) else (1009))) else (bif Nat.ble 68 t then (bif Nat.ble 69 t then (bif Nat.ble 70 t then (1009) else (1009)) else (1009)) else (bif Nat.ble 67 t then (1009) else (1009)))) else (bif Nat.ble 61 t then (bif Nat.ble 63 t then (bif Nat.ble 64 t then (bif Nat.ble 65 t then (1009) else (1009)) else (1009)) else (bif Nat.ble 62 t then (1009) else (1009))) else (bif Nat.ble 59 t then (bif Nat.ble 60 t then (1009) else (1009)) else (bif Nat.ble 58 t then (1009) else (1009))))) else (bif Nat.ble 47 t then (bif Nat.ble 52 t then (bif Nat.ble 54 t then (bif Nat.ble 55 t then (bif Nat.ble 56 t then (1009) else (1009)) else (1009)) else (bif Nat.ble 53 t then (1006) else (1006))) else (bif Nat.ble 49 t then (bif Nat.ble 50 t then (bif Nat.ble 51 t then (1006) else (1006)) else (1006)) else (bif Nat.ble 48 t then (1006) else (1006)))) else (bif Nat.ble 42 t then (bif Nat.ble 44 t then (bif Nat.ble 45 t then (bif Nat.ble 46 t then (1006) else (1006)) else (1006)) else (bif Nat.ble 43 t then (1006) else (1006))) else (bif Nat.ble 40 t then (bif Nat.ble 41 t then (1006) else (1006)) else (bif Nat.ble 39 t then (1006) else (1006)))))) else (bif Nat.ble 19 t then (bif Nat.ble 28 t then (bif Nat.ble 33 t then (bif Nat.ble 35 t then (bif Nat.ble 36 t then (bif Nat.ble 37 t then (1006) else (1006)) else (1006)) else (bif Nat.ble 34 t then (1006) else (1006))) else (bif Nat.ble 30 t then (bif Nat.ble 31 t then (bif Nat.ble 32 t then (1012) else (1012)) else (1012)) else (bif Nat.ble 29 t then (1012) else (1012)))) else (bif Nat.ble 23 t then (bif Nat.ble 25 t then (bif Nat.ble 26 t then (bif Nat.ble 27 t then (1012) else (1012)) else (1012)) else (bif Nat.ble 24 t then (1012) else (1012))) else (bif Nat.ble 21 t then (bif Nat.ble 22 t then (1012) else (1012)) else (bif Nat.ble 20 t then (1012) else (1012))))) else (bif Nat.ble 9 t then (bif Nat.ble 14 t then (bif Nat.ble 16 t then (bif Nat.ble 17 t then (bif Nat.ble 18 t then (1012) else (1012)) else (1008)) else (bif Nat.ble 15 t then (1008) else (1008))) else (bif Nat.ble 11 t then (bif Nat.ble 12 t then (bif Nat.ble 13 t then (1008) else (1008)) else (1008)) else (bif Nat.ble 10 t then (1008) else (1008)))) else (bif Nat.ble 4 t then (bif Nat.ble 6 t then (bif Nat.ble 7 t then (bif Nat.ble 8 t then (1008) else (1010)) else (1010)) else (bif Nat.ble 5 t then (1010) else (1010))) else (bif Nat.ble 2 t then (bif Nat.ble 3 t then (1010) else (1010)) else (bif Nat.ble 1 t then (1010) else (1010))))))))
noncomputable def qis (t : Nat) : Bool := bif Nat.ble 152 t then (bif Nat.ble 228 t then (bif Nat.ble 266 t then (bif Nat.ble 285 t then (bif Nat.ble 295 t then (bif Nat.ble 300 t then (bif Nat.ble 302 t then (bif Nat.ble 303 t then (bif Nat.ble 304 t then (true) else (true)) else (true)) else (bif Nat.ble 301 t then (true) else (true))) else (bif Nat.ble 297 t then (bif Nat.ble 298 t then (bif Nat.ble 299 t then (false) else (false)) else (false)) else (bif Nat.ble 296 t then (false) else (false)))) else (bif Nat.ble 290 t then (bif Nat.ble 292 t then (bif Nat.ble 293 t then (bif Nat.ble 294 t then (false) else (true)) else (true)) else (bif Nat.ble 291 t then (false) else (false))) else (bif Nat.ble 287 t then (bif Nat.ble 288 t then (bif Nat.ble 289 t then (false) else (false)) else (false)) else (bif Nat.ble 286 t then (false) else (false))))) else (bif Nat.ble 275 t then (bif Nat.ble 280 t then (bif Nat.ble 282 t then (bif Nat.ble 283 t then (bif Nat.ble 284 t then (false) else (false)) else (false)) else (bif Nat.ble 281 t then (false) else (false))) else (bif Nat.ble 277 t then (bif Nat.ble 278 t then (bif Nat.ble 279 t then (false) else (false)) else (false)) else (bif Nat.ble 276 t then (false) else (false)))) else (bif Nat.ble 270 t then (bif Nat.ble 272 t then (bif Nat.ble 273 t then (bif Nat.ble 274 t then (true) else (false)) else (false)) else (bif Nat.ble 271 t then (false) else (false))) else (bif Nat.ble 268 t then (bif Nat.ble 269 t then (false) else (false)) else (bif Nat.ble 267 t then (false) else (true)))))) else (bif Nat.ble 247 t then (bif Nat.ble 256 t then (bif Nat.ble 261 t then (bif Nat.ble 263 t then (bif Nat.ble 264 t then (bif Nat.ble 265 t then (false) else (false)) else (false)) else (bif Nat.ble 262 t then (false) else (false))) else (bif Nat.ble 258 t then (bif Nat.ble 259 t then (bif Nat.ble 260 t then (false) else (false)) else (false)) else (bif Nat.ble 257 t then (false) else (false)))) else (bif Nat.ble 251 t then (bif Nat.ble 253 t then (bif Nat.ble 254 t then (bif Nat.ble 255 t then (false) else (false)) else (false)) else (bif Nat.ble 252 t then (false) else (false))) else (bif Nat.ble 249 t then (bif Nat.ble 250 t then (false) else (false)) else (bif Nat.ble 248 t then (false) else (false))))) else (bif Nat.ble 237 t then (bif Nat.ble 242 t then (bif Nat.ble 244 t then (bif Nat.ble 245 t then (bif Nat.ble 246 t then (false) else (false)) else (false)) else (bif Nat.ble 243 t then (false) else (false))) else (bif Nat.ble 239 t then (bif Nat.ble 240 t then (bif Nat.ble 241 t then (false) else (false)) else (false)) else (bif Nat.ble 238 t then (false) else (false)))) else (bif Nat.ble 232 t then (bif Nat.ble 234 t then (bif Nat.ble 235 t then (bif Nat.ble 236 t then (false) else (false)) else (false)) else (bif Nat.ble 233 t then (false) else (false))) else (bif Nat.ble 230 t then (bif Nat.ble 231 t then (false) else (false)) else (bif Nat.ble 229 t then (false) else (false))))))) else (bif Nat.ble 190 t then (bif Nat.ble 209 t then (bif Nat.ble 218 t then (bif Nat.ble 223 t then (bif Nat.ble 225 t then (bif Nat.ble 226 t then (bif Nat.ble 227 t then (false) else (true)) else (true)) else (bif Nat.ble 224 t then (false) else (false))) else (bif Nat.ble 220 t then (bif Nat.ble 221 t then (bif Nat.ble 222 t then (false) else (false)) else (false)) else (bif Nat.ble 219 t then (false) else (false)))) else (bif Nat.ble 213 t then (bif Nat.ble 215 t then (bif Nat.ble 216 t then (bif Nat.ble 217 t then (false) else (true)) else (false)) else (bif Nat.ble 214 t then (false) else (true))) else (bif Nat.ble 211 t then (bif Nat.ble 212 t then (true) else (true)) else (bif Nat.ble 210 t then (true) else (true))))) else (bif Nat.ble 199 t then (bif Nat.ble 204 t then (bif Nat.ble 206 t then (bif Nat.ble 207 t then (bif Nat.ble 208 t then (true) else (true)) else (true)) else (bif Nat.ble 205 t then (false) else (false))) else (bif Nat.ble 201 t then (bif Nat.ble 202 t then (bif Nat.ble 203 t then (false) else (false)) else (true)) else (bif Nat.ble 200 t then (true) else (true)))) else (bif Nat.ble 194 t then (bif Nat.ble 196 t then (bif Nat.ble 197 t then (bif Nat.ble 198 t then (true) else (false)) else (false)) else (bif Nat.ble 195 t then (false) else (false))) else (bif Nat.ble 192 t then (bif Nat.ble 193 t then (false) else (false)) else (bif Nat.ble 191 t then (false) else (false)))))) else (bif Nat.ble 171 t then (bif Nat.ble 180 t then (bif Nat.ble 185 t then (bif Nat.ble 187 t then (bif Nat.ble 188 t then (bif Nat.ble 189 t then (false) else (false)) else (false)) else (bif Nat.ble 186 t then (false) else (false))) else (bif Nat.ble 182 t then (bif Nat.ble 183 t then (bif Nat.ble 184 t then (false) else (false)) else (false)) else (bif Nat.ble 181 t then (false) else (false)))) else (bif Nat.ble 175 t then (bif Nat.ble 177 t then (bif Nat.ble 178 t then (bif Nat.ble 179 t then (false) else (false)) else (false)) else (bif Nat.ble 176 t then (false) else (false))) else (bif Nat.ble 173 t then (bif Nat.ble 174 t then (false) else (false)) else (bif Nat.ble 172 t then (false) else (false))))) else (bif Nat.ble 161 t then (bif Nat.ble 166 t then (bif Nat.ble 168 t then (bif Nat.ble 169 t then (bif Nat.ble 170 t then (false) else (false)) else (false)) else (bif Nat.ble 167 t then (false) else (false))) else (bif Nat.ble 163 t then (bif Nat.ble 164 t then (bif Nat.ble 165 t then (false) else (false)) else (false)) else (bif Nat.ble 162 t then (false) else (false)))) else (bif Nat.ble 156 t then (bif Nat.ble 158 t then (bif Nat.ble 159 t then (bif Nat.ble 160 t then (false) else (false)) else (false)) else (bif Nat.ble 157 t then (false) else (false))) else (bif Nat.ble 154 t then (bif Nat.ble 155 t then (false) else (false)) else (bif Nat.ble 153 t then (false) else (false)))))))) else (bif Nat.ble 76 t then (bif Nat.ble 114 t then (bif Nat.ble 133 t then (bif Nat.ble 142 t then (bif Nat.ble 147 t then (bif Nat.ble 149 t then (bif Nat.ble 150 t then (bif Nat.ble 151 t then (false) else (false)) else (false)) else (bif Nat.ble 148 t then (false) else (false))) else (bif Nat.ble 144 t then (bif Nat.ble 145 t then (bif Nat.ble 146 t then (false) else (false)) else (false)) else (bif Nat.ble 143 t then (false) else (false)))) else (bif Nat.ble 137 t then (bif Nat.ble 139 t then (bif Nat.ble 140 t then (bif Nat.ble 141 t then (false) else (false)) else (false)) else (bif Nat.ble 138 t then (true) else (true))) else (bif Nat.ble 135 t then (bif Nat.ble 136 t then (false) else (false)) else (bif Nat.ble 134 t then (false) else (false))))) else (bif Nat.ble 123 t then (bif Nat.ble 128 t then (bif Nat.ble 130 t then (bif Nat.ble 131 t then (bif Nat.ble 132 t then (false) else (false)) else (false)) else (bif Nat.ble 129 t then (false) else (false))) else (bif Nat.ble 125 t then (bif Nat.ble 126 t then (bif Nat.ble 127 t then (false) else (false)) else (false)) else (bif Nat.ble 124 t then (false) else (false)))) else (bif Nat.ble 118 t then (bif Nat.ble 120 t then (bif Nat.ble 121 t then (bif Nat.ble 122 t then (false) else (false)) else (false)) else (bif Nat.ble 119 t then (false) else (false))) else (bif Nat.ble 116 t then (bif Nat.ble 117 t then (false) else (false)) else (bif Nat.ble 115 t then (false) else (false)))))) else (bif Nat.ble 95 t then (bif Nat.ble 104 t then (bif Nat.ble 109 t then (bif Nat.ble 111 t then (bif Nat.ble 112 t then (bif Nat.ble 113 t then (false) else (false)) else (false)) else (bif Nat.ble 110 t then (false) else (true))) else (bif Nat.ble 106 t then (bif Nat.ble 107 t then (bif Nat.ble 108 t then (false) else (false)) else (false)) else (bif Nat.ble 105 t then (true) else (false)))) else (bif Nat.ble 99 t then (bif Nat.ble 101 t then (bif Nat.ble 102 t then (bif Nat.ble 103 t then (false) else (false)) else (false)) else (bif Nat.ble 100 t then (false) else (false))) else (bif Nat.ble 97 t then (bif Nat.ble 98 t then (true) else (false)) else (bif Nat.ble 96 t then (true) else (false))))) else (bif Nat.ble 85 t then (bif Nat.ble 90 t then (bif Nat.ble 92 t then (bif Nat.ble 93 t then (bif Nat.ble 94 t then (false) else (false)) else (false)) else (bif Nat.ble 91 t then (false) else (false))) else (bif Nat.ble 87 t then (bif Nat.ble 88 t then (bif Nat.ble 89 t then (false) else (false)) else (false)) else (bif Nat.ble 86 t then (false) else (false)))) else (bif Nat.ble 80 t then (bif Nat.ble 82 t then (bif Nat.ble 83 t then (bif Nat.ble 84 t then (false) else (false)) else (true)) else (bif Nat.ble 81 t then (true) else (true))) else (bif Nat.ble 78 t then (bif Nat.ble 79 t then (true) else (true)) else (bif Nat.ble 77 t then (false) else (false))))))) else (bif Nat.ble 38 t then (bif Nat.ble 57 t then (bif Nat.ble 66 t then (bif Nat.ble 71 t then (bif Nat.ble 73 t then (bif Nat.ble 74 t then (bif Nat.ble 75 t then (false) else (false)) else (true)) else (bif Nat.ble 72 t then (false) else (false))) else (bif Nat.ble 68 t then (bif Nat.ble 69 t then (bif Nat.ble 70 t then (false) else (false)) else (false)) else (bif Nat.ble 67 t then (false) else (false)))) else (bif Nat.ble 61 t then (bif Nat.ble 63 t then (bif Nat.ble 64 t then (bif Nat.ble 65 t then (false) else (false)) else (false)) else (bif Nat.ble 62 t then (false) else (false))) else (bif Nat.ble 59 t then (bif Nat.ble 60 t then (false) else (false)) else (bif Nat.ble 58 t then (true) else (true))))) else (bif Nat.ble 47 t then (bif Nat.ble 52 t then (bif Nat.ble 54 t then (bif Nat.ble 55 t then (bif Nat.ble 56 t then (true) else (true)) else (false)) else (bif Nat.ble 53 t then (true) else (true))) else (bif Nat.ble 49 t then (bif Nat.ble 50 t then (bif Nat.ble 51 t then (true) else (true)) else (true)) else (bif Nat.ble 48 t then (false) else (false)))) else (bif Nat.ble 42 t then (bif Nat.ble 44 t then (bif Nat.ble 45 t then (bif Nat.ble 46 t then (false) else (false)) else (false)) else (bif Nat.ble 43 t then (false) else (false))) else (bif Nat.ble 40 t then (bif Nat.ble 41 t then (false) else (false)) else (bif Nat.ble 39 t then (false) else (false)))))) else (bif Nat.ble 19 t then (bif Nat.ble 28 t then (bif Nat.ble 33 t then (bif Nat.ble 35 t then (bif Nat.ble 36 t then (bif Nat.ble 37 t then (false) else (false)) else (false)) else (bif Nat.ble 34 t then (false) else (false))) else (bif Nat.ble 30 t then (bif Nat.ble 31 t then (bif Nat.ble 32 t then (false) else (false)) else (false)) else (bif Nat.ble 29 t then (false) else (false)))) else (bif Nat.ble 23 t then (bif Nat.ble 25 t then (bif Nat.ble 26 t then (bif Nat.ble 27 t then (false) else (false)) else (false)) else (bif Nat.ble 24 t then (false) else (false))) else (bif Nat.ble 21 t then (bif Nat.ble 22 t then (false) else (false)) else (bif Nat.ble 20 t then (false) else (true))))) else (bif Nat.ble 9 t then (bif Nat.ble 14 t then (bif Nat.ble 16 t then (bif Nat.ble 17 t then (bif Nat.ble 18 t then (true) else (false)) else (false)) else (bif Nat.ble 15 t then (false) else (false))) else (bif Nat.ble 11 t then (bif Nat.ble 12 t then (bif Nat.ble 13 t then (false) else (false)) else (false)) else (bif Nat.ble 10 t then (true) else (true)))) else (bif Nat.ble 4 t then (bif Nat.ble 6 t then (bif Nat.ble 7 t then (bif Nat.ble 8 t then (false) else (false)) else (false)) else (bif Nat.ble 5 t then (false) else (false))) else (bif Nat.ble 2 t then (bif Nat.ble 3 t then (false) else (false)) else (bif Nat.ble 1 t then (true) else (false))))))))
noncomputable def qnp (t : Nat) : Nat := bif Nat.ble 152 t then (bif Nat.ble 228 t then (bif Nat.ble 266 t then (bif Nat.ble 285 t then (bif Nat.ble 295 t then (bif Nat.ble 300 t then (bif Nat.ble 302 t then (bif Nat.ble 303 t then (bif Nat.ble 304 t then (1) else (1)) else (1)) else (bif Nat.ble 301 t then (1) else (1))) else (bif Nat.ble 297 t then (bif Nat.ble 298 t then (bif Nat.ble 299 t then (2) else (1)) else (1)) else (bif Nat.ble 296 t then (2) else (1)))) else (bif Nat.ble 290 t then (bif Nat.ble 292 t then (bif Nat.ble 293 t then (bif Nat.ble 294 t then (2) else (1)) else (1)) else (bif Nat.ble 291 t then (1) else (1))) else (bif Nat.ble 287 t then (bif Nat.ble 288 t then (bif Nat.ble 289 t then (2) else (4)) else (3)) else (bif Nat.ble 286 t then (3) else (2))))) else (bif Nat.ble 275 t then (bif Nat.ble 280 t then (bif Nat.ble 282 t then (bif Nat.ble 283 t then (bif Nat.ble 284 t then (2) else (5)) else (3)) else (bif Nat.ble 281 t then (3) else (4))) else (bif Nat.ble 277 t then (bif Nat.ble 278 t then (bif Nat.ble 279 t then (1) else (2)) else (3)) else (bif Nat.ble 276 t then (2) else (2)))) else (bif Nat.ble 270 t then (bif Nat.ble 272 t then (bif Nat.ble 273 t then (bif Nat.ble 274 t then (1) else (3)) else (1)) else (bif Nat.ble 271 t then (1) else (1))) else (bif Nat.ble 268 t then (bif Nat.ble 269 t then (2) else (0)) else (bif Nat.ble 267 t then (2) else (3)))))) else (bif Nat.ble 247 t then (bif Nat.ble 256 t then (bif Nat.ble 261 t then (bif Nat.ble 263 t then (bif Nat.ble 264 t then (bif Nat.ble 265 t then (2) else (3)) else (5)) else (bif Nat.ble 262 t then (6) else (4))) else (bif Nat.ble 258 t then (bif Nat.ble 259 t then (bif Nat.ble 260 t then (0) else (2)) else (4)) else (bif Nat.ble 257 t then (2) else (4)))) else (bif Nat.ble 251 t then (bif Nat.ble 253 t then (bif Nat.ble 254 t then (bif Nat.ble 255 t then (3) else (3)) else (2)) else (bif Nat.ble 252 t then (3) else (0))) else (bif Nat.ble 249 t then (bif Nat.ble 250 t then (3) else (1)) else (bif Nat.ble 248 t then (1) else (0))))) else (bif Nat.ble 237 t then (bif Nat.ble 242 t then (bif Nat.ble 244 t then (bif Nat.ble 245 t then (bif Nat.ble 246 t then (1) else (1)) else (0)) else (bif Nat.ble 243 t then (0) else (0))) else (bif Nat.ble 239 t then (bif Nat.ble 240 t then (bif Nat.ble 241 t then (0) else (0)) else (0)) else (bif Nat.ble 238 t then (0) else (0)))) else (bif Nat.ble 232 t then (bif Nat.ble 234 t then (bif Nat.ble 235 t then (bif Nat.ble 236 t then (0) else (2)) else (2)) else (bif Nat.ble 233 t then (1) else (1))) else (bif Nat.ble 230 t then (bif Nat.ble 231 t then (0) else (1)) else (bif Nat.ble 229 t then (0) else (0))))))) else (bif Nat.ble 190 t then (bif Nat.ble 209 t then (bif Nat.ble 218 t then (bif Nat.ble 223 t then (bif Nat.ble 225 t then (bif Nat.ble 226 t then (bif Nat.ble 227 t then (1) else (1)) else (1)) else (bif Nat.ble 224 t then (1) else (1))) else (bif Nat.ble 220 t then (bif Nat.ble 221 t then (bif Nat.ble 222 t then (5) else (2)) else (2)) else (bif Nat.ble 219 t then (2) else (3)))) else (bif Nat.ble 213 t then (bif Nat.ble 215 t then (bif Nat.ble 216 t then (bif Nat.ble 217 t then (5) else (1)) else (4)) else (bif Nat.ble 214 t then (3) else (2))) else (bif Nat.ble 211 t then (bif Nat.ble 212 t then (2) else (1)) else (bif Nat.ble 210 t then (1) else (1))))) else (bif Nat.ble 199 t then (bif Nat.ble 204 t then (bif Nat.ble 206 t then (bif Nat.ble 207 t then (bif Nat.ble 208 t then (1) else (1)) else (3)) else (bif Nat.ble 205 t then (0) else (0))) else (bif Nat.ble 201 t then (bif Nat.ble 202 t then (bif Nat.ble 203 t then (0) else (1)) else (1)) else (bif Nat.ble 200 t then (1) else (1)))) else (bif Nat.ble 194 t then (bif Nat.ble 196 t then (bif Nat.ble 197 t then (bif Nat.ble 198 t then (1) else (2)) else (1)) else (bif Nat.ble 195 t then (1) else (2))) else (bif Nat.ble 192 t then (bif Nat.ble 193 t then (1) else (2)) else (bif Nat.ble 191 t then (4) else (3)))))) else (bif Nat.ble 171 t then (bif Nat.ble 180 t then (bif Nat.ble 185 t then (bif Nat.ble 187 t then (bif Nat.ble 188 t then (bif Nat.ble 189 t then (3) else (5)) else (3)) else (bif Nat.ble 186 t then (3) else (4))) else (bif Nat.ble 182 t then (bif Nat.ble 183 t then (bif Nat.ble 184 t then (2) else (3)) else (2)) else (bif Nat.ble 181 t then (2) else (3)))) else (bif Nat.ble 175 t then (bif Nat.ble 177 t then (bif Nat.ble 178 t then (bif Nat.ble 179 t then (1) else (1)) else (3)) else (bif Nat.ble 176 t then (5) else (4))) else (bif Nat.ble 173 t then (bif Nat.ble 174 t then (4) else (3)) else (bif Nat.ble 172 t then (3) else (2))))) else (bif Nat.ble 161 t then (bif Nat.ble 166 t then (bif Nat.ble 168 t then (bif Nat.ble 169 t then (bif Nat.ble 170 t then (1) else (1)) else (1)) else (bif Nat.ble 167 t then (5) else (5))) else (bif Nat.ble 163 t then (bif Nat.ble 164 t then (bif Nat.ble 165 t then (4) else (3)) else (0)) else (bif Nat.ble 162 t then (2) else (1)))) else (bif Nat.ble 156 t then (bif Nat.ble 158 t then (bif Nat.ble 159 t then (bif Nat.ble 160 t then (2) else (1)) else (2)) else (bif Nat.ble 157 t then (1) else (1))) else (bif Nat.ble 154 t then (bif Nat.ble 155 t then (2) else (0)) else (bif Nat.ble 153 t then (1) else (2)))))))) else (bif Nat.ble 76 t then (bif Nat.ble 114 t then (bif Nat.ble 133 t then (bif Nat.ble 142 t then (bif Nat.ble 147 t then (bif Nat.ble 149 t then (bif Nat.ble 150 t then (bif Nat.ble 151 t then (1) else (1)) else (0)) else (bif Nat.ble 148 t then (0) else (1))) else (bif Nat.ble 144 t then (bif Nat.ble 145 t then (bif Nat.ble 146 t then (0) else (0)) else (2)) else (bif Nat.ble 143 t then (4) else (3)))) else (bif Nat.ble 137 t then (bif Nat.ble 139 t then (bif Nat.ble 140 t then (bif Nat.ble 141 t then (2) else (1)) else (1)) else (bif Nat.ble 138 t then (1) else (1))) else (bif Nat.ble 135 t then (bif Nat.ble 136 t then (1) else (3)) else (bif Nat.ble 134 t then (2) else (1))))) else (bif Nat.ble 123 t then (bif Nat.ble 128 t then (bif Nat.ble 130 t then (bif Nat.ble 131 t then (bif Nat.ble 132 t then (0) else (1)) else (1)) else (bif Nat.ble 129 t then (1) else (0))) else (bif Nat.ble 125 t then (bif Nat.ble 126 t then (bif Nat.ble 127 t then (1) else (1)) else (1)) else (bif Nat.ble 124 t then (0) else (1)))) else (bif Nat.ble 118 t then (bif Nat.ble 120 t then (bif Nat.ble 121 t then (bif Nat.ble 122 t then (1) else (1)) else (1)) else (bif Nat.ble 119 t then (0) else (1))) else (bif Nat.ble 116 t then (bif Nat.ble 117 t then (1) else (0)) else (bif Nat.ble 115 t then (1) else (1)))))) else (bif Nat.ble 95 t then (bif Nat.ble 104 t then (bif Nat.ble 109 t then (bif Nat.ble 111 t then (bif Nat.ble 112 t then (bif Nat.ble 113 t then (1) else (2)) else (1)) else (bif Nat.ble 110 t then (0) else (1))) else (bif Nat.ble 106 t then (bif Nat.ble 107 t then (bif Nat.ble 108 t then (1) else (1)) else (0)) else (bif Nat.ble 105 t then (4) else (1)))) else (bif Nat.ble 99 t then (bif Nat.ble 101 t then (bif Nat.ble 102 t then (bif Nat.ble 103 t then (2) else (2)) else (2)) else (bif Nat.ble 100 t then (1) else (0))) else (bif Nat.ble 97 t then (bif Nat.ble 98 t then (3) else (1)) else (bif Nat.ble 96 t then (1) else (1))))) else (bif Nat.ble 85 t then (bif Nat.ble 90 t then (bif Nat.ble 92 t then (bif Nat.ble 93 t then (bif Nat.ble 94 t then (2) else (0)) else (0)) else (bif Nat.ble 91 t then (2) else (0))) else (bif Nat.ble 87 t then (bif Nat.ble 88 t then (bif Nat.ble 89 t then (1) else (1)) else (1)) else (bif Nat.ble 86 t then (0) else (2)))) else (bif Nat.ble 80 t then (bif Nat.ble 82 t then (bif Nat.ble 83 t then (bif Nat.ble 84 t then (0) else (2)) else (1)) else (bif Nat.ble 81 t then (1) else (1))) else (bif Nat.ble 78 t then (bif Nat.ble 79 t then (2) else (2)) else (bif Nat.ble 77 t then (2) else (2))))))) else (bif Nat.ble 38 t then (bif Nat.ble 57 t then (bif Nat.ble 66 t then (bif Nat.ble 71 t then (bif Nat.ble 73 t then (bif Nat.ble 74 t then (bif Nat.ble 75 t then (1) else (0)) else (2)) else (bif Nat.ble 72 t then (2) else (2))) else (bif Nat.ble 68 t then (bif Nat.ble 69 t then (bif Nat.ble 70 t then (1) else (0)) else (1)) else (bif Nat.ble 67 t then (0) else (3)))) else (bif Nat.ble 61 t then (bif Nat.ble 63 t then (bif Nat.ble 64 t then (bif Nat.ble 65 t then (3) else (5)) else (3)) else (bif Nat.ble 62 t then (3) else (3))) else (bif Nat.ble 59 t then (bif Nat.ble 60 t then (1) else (1)) else (bif Nat.ble 58 t then (1) else (1))))) else (bif Nat.ble 47 t then (bif Nat.ble 52 t then (bif Nat.ble 54 t then (bif Nat.ble 55 t then (bif Nat.ble 56 t then (1) else (1)) else (0)) else (bif Nat.ble 53 t then (1) else (1))) else (bif Nat.ble 49 t then (bif Nat.ble 50 t then (bif Nat.ble 51 t then (1) else (2)) else (3)) else (bif Nat.ble 48 t then (3) else (3)))) else (bif Nat.ble 42 t then (bif Nat.ble 44 t then (bif Nat.ble 45 t then (bif Nat.ble 46 t then (2) else (4)) else (3)) else (bif Nat.ble 43 t then (1) else (4))) else (bif Nat.ble 40 t then (bif Nat.ble 41 t then (2) else (2)) else (bif Nat.ble 39 t then (1) else (4)))))) else (bif Nat.ble 19 t then (bif Nat.ble 28 t then (bif Nat.ble 33 t then (bif Nat.ble 35 t then (bif Nat.ble 36 t then (bif Nat.ble 37 t then (1) else (1)) else (3)) else (bif Nat.ble 34 t then (2) else (0))) else (bif Nat.ble 30 t then (bif Nat.ble 31 t then (bif Nat.ble 32 t then (0) else (2)) else (0)) else (bif Nat.ble 29 t then (1) else (1)))) else (bif Nat.ble 23 t then (bif Nat.ble 25 t then (bif Nat.ble 26 t then (bif Nat.ble 27 t then (2) else (1)) else (0)) else (bif Nat.ble 24 t then (0) else (0))) else (bif Nat.ble 21 t then (bif Nat.ble 22 t then (4) else (3)) else (bif Nat.ble 20 t then (2) else (1))))) else (bif Nat.ble 9 t then (bif Nat.ble 14 t then (bif Nat.ble 16 t then (bif Nat.ble 17 t then (bif Nat.ble 18 t then (2) else (0)) else (0)) else (bif Nat.ble 15 t then (0) else (2))) else (bif Nat.ble 11 t then (bif Nat.ble 12 t then (bif Nat.ble 13 t then (3) else (2)) else (2)) else (bif Nat.ble 10 t then (2) else (1)))) else (bif Nat.ble 4 t then (bif Nat.ble 6 t then (bif Nat.ble 7 t then (bif Nat.ble 8 t then (0) else (1)) else (0)) else (bif Nat.ble 5 t then (0) else (1))) else (bif Nat.ble 2 t then (bif Nat.ble 3 t then (2) else (4)) else (bif Nat.ble 1 t then (2) else (0))))))))
noncomputable def qret (t : Nat) : Option FieldType := match qrt t with
  | 0 => none
  | 1 => some .int
  | 2 => some .boolean
  | _ => some .long
noncomputable def qT (c : Nat) : u_T := bif Nat.ble 6 c then (bif Nat.ble 9 c then (bif Nat.ble 11 c then (bif Nat.ble 12 c then (TX12) else (TX11)) else (bif Nat.ble 10 c then (TX10) else (TX9))) else (bif Nat.ble 7 c then (bif Nat.ble 8 c then (TX8) else (TX7)) else (TX6))) else (bif Nat.ble 3 c then (bif Nat.ble 4 c then (bif Nat.ble 5 c then (TX5) else (TX4)) else (TX3)) else (bif Nat.ble 1 c then (bif Nat.ble 2 c then (TX2) else (TX1)) else (TX0)))
noncomputable def qty (c : Nat) : Nat → FieldType := bif Nat.ble 6 c then (bif Nat.ble 9 c then (bif Nat.ble 11 c then (bif Nat.ble 12 c then (tyX12) else (tyX11)) else (bif Nat.ble 10 c then (tyX10) else (tyX9))) else (bif Nat.ble 7 c then (bif Nat.ble 8 c then (tyX8) else (tyX7)) else (tyX6))) else (bif Nat.ble 3 c then (bif Nat.ble 4 c then (bif Nat.ble 5 c then (tyX5) else (tyX4)) else (tyX3)) else (bif Nat.ble 1 c then (bif Nat.ble 2 c then (tyX2) else (tyX1)) else (tyX0)))
noncomputable def qNf (c : Nat) : Nat := bif Nat.ble 6 c then (bif Nat.ble 9 c then (bif Nat.ble 11 c then (bif Nat.ble 12 c then (80) else (10)) else (bif Nat.ble 10 c then (4) else (8))) else (bif Nat.ble 7 c then (bif Nat.ble 8 c then (2) else (10)) else (6))) else (bif Nat.ble 3 c then (bif Nat.ble 4 c then (bif Nat.ble 5 c then (11) else (14)) else (16)) else (bif Nat.ble 1 c then (bif Nat.ble 2 c then (6) else (3)) else (5)))
noncomputable def qpN (c : Nat) : Nat := bif Nat.ble 6 c then (bif Nat.ble 9 c then (bif Nat.ble 11 c then (bif Nat.ble 12 c then (6138) else (1024)) else (bif Nat.ble 10 c then (2089) else (1073))) else (bif Nat.ble 7 c then (bif Nat.ble 8 c then (1111) else (1035)) else (1164))) else (bif Nat.ble 3 c then (bif Nat.ble 4 c then (bif Nat.ble 5 c then (1105) else (2018)) else (1158)) else (bif Nat.ble 1 c then (bif Nat.ble 2 c then (2107) else (2001)) else (2067)))
noncomputable def qpJ (c : Nat) : Nat := bif Nat.ble 6 c then (bif Nat.ble 9 c then (bif Nat.ble 11 c then (bif Nat.ble 12 c then (1014) else (1001)) else (bif Nat.ble 10 c then (1011) else (1003))) else (bif Nat.ble 7 c then (bif Nat.ble 8 c then (1005) else (1002)) else (1007))) else (bif Nat.ble 3 c then (bif Nat.ble 4 c then (bif Nat.ble 5 c then (1004) else (1009)) else (1006)) else (bif Nat.ble 1 c then (bif Nat.ble 2 c then (1012) else (1008)) else (1010)))
/-- a word by its place: the part of the tables, the place there -/
noncomputable def qtb (j : Nat) : List Cond := match j with
  | 0 => k2_sels lw_privs
  | 1 => tables_1_1
  | 2 => tables_1_2
  | 3 => tables_1_3
  | 4 => tables_1_4
  | 5 => tables_1_5
  | 6 => tables_1_6
  | 7 => tables_1_7
  | 8 => tables_1_8
  | 9 => tables_1_9
  | _ => []
theorem qtb_in {j : Nat} {w : Cond} (h : w ∈ qtb j) : w ∈ lw_tbl := by
  show w ∈ k2_sels lw_privs ++ tables_1
  unfold tables_1
  simp only [List.mem_append]
  unfold qtb at h
  split at h
  · exact Or.inl h
  · exact Or.inr (Or.inl h)
  · exact Or.inr (Or.inr (Or.inl h))
  · exact Or.inr (Or.inr (Or.inr (Or.inl h)))
  · exact Or.inr (Or.inr (Or.inr (Or.inr (Or.inl h))))
  · exact Or.inr (Or.inr (Or.inr (Or.inr (Or.inr (Or.inl h)))))
  · exact Or.inr (Or.inr (Or.inr (Or.inr (Or.inr (Or.inr (Or.inl h))))))
  · exact Or.inr (Or.inr (Or.inr (Or.inr (Or.inr (Or.inr (Or.inr (Or.inl h)))))))
  · exact Or.inr (Or.inr (Or.inr (Or.inr (Or.inr (Or.inr (Or.inr (Or.inr (Or.inl h))))))))
  · exact Or.inr (Or.inr (Or.inr (Or.inr (Or.inr (Or.inr (Or.inr (Or.inr (Or.inr (h)))))))))
  · exact absurd h List.not_mem_nil
-- the tables in chunks of 40
noncomputable def qh_0_0 : List Cond := qtb 0
theorem qi_0_0 {w : Cond} (h : w ∈ qh_0_0) : w ∈ lw_tbl := qtb_in (j := 0) h
noncomputable def qh_0_1 : List Cond := qh_0_0.drop 40
theorem qi_0_1 {w : Cond} (h : w ∈ qh_0_1) : w ∈ lw_tbl := qi_0_0 (List.mem_of_mem_drop h)
noncomputable def qh_0_2 : List Cond := qh_0_1.drop 40
theorem qi_0_2 {w : Cond} (h : w ∈ qh_0_2) : w ∈ lw_tbl := qi_0_1 (List.mem_of_mem_drop h)
noncomputable def qh_0_3 : List Cond := qh_0_2.drop 40
theorem qi_0_3 {w : Cond} (h : w ∈ qh_0_3) : w ∈ lw_tbl := qi_0_2 (List.mem_of_mem_drop h)
noncomputable def qh_0_4 : List Cond := qh_0_3.drop 40
theorem qi_0_4 {w : Cond} (h : w ∈ qh_0_4) : w ∈ lw_tbl := qi_0_3 (List.mem_of_mem_drop h)
noncomputable def qh_0_5 : List Cond := qh_0_4.drop 40
theorem qi_0_5 {w : Cond} (h : w ∈ qh_0_5) : w ∈ lw_tbl := qi_0_4 (List.mem_of_mem_drop h)
noncomputable def qh_0_6 : List Cond := qh_0_5.drop 40
theorem qi_0_6 {w : Cond} (h : w ∈ qh_0_6) : w ∈ lw_tbl := qi_0_5 (List.mem_of_mem_drop h)
noncomputable def qh_0_7 : List Cond := qh_0_6.drop 40
theorem qi_0_7 {w : Cond} (h : w ∈ qh_0_7) : w ∈ lw_tbl := qi_0_6 (List.mem_of_mem_drop h)
noncomputable def qh_0_8 : List Cond := qh_0_7.drop 40
theorem qi_0_8 {w : Cond} (h : w ∈ qh_0_8) : w ∈ lw_tbl := qi_0_7 (List.mem_of_mem_drop h)
noncomputable def qh_0_9 : List Cond := qh_0_8.drop 40
theorem qi_0_9 {w : Cond} (h : w ∈ qh_0_9) : w ∈ lw_tbl := qi_0_8 (List.mem_of_mem_drop h)
noncomputable def qh_0_10 : List Cond := qh_0_9.drop 40
theorem qi_0_10 {w : Cond} (h : w ∈ qh_0_10) : w ∈ lw_tbl := qi_0_9 (List.mem_of_mem_drop h)
noncomputable def qh_0_11 : List Cond := qh_0_10.drop 40
theorem qi_0_11 {w : Cond} (h : w ∈ qh_0_11) : w ∈ lw_tbl := qi_0_10 (List.mem_of_mem_drop h)
noncomputable def qh_0_12 : List Cond := qh_0_11.drop 40
theorem qi_0_12 {w : Cond} (h : w ∈ qh_0_12) : w ∈ lw_tbl := qi_0_11 (List.mem_of_mem_drop h)
noncomputable def qh_0_13 : List Cond := qh_0_12.drop 40
theorem qi_0_13 {w : Cond} (h : w ∈ qh_0_13) : w ∈ lw_tbl := qi_0_12 (List.mem_of_mem_drop h)
noncomputable def qh_0_14 : List Cond := qh_0_13.drop 40
theorem qi_0_14 {w : Cond} (h : w ∈ qh_0_14) : w ∈ lw_tbl := qi_0_13 (List.mem_of_mem_drop h)
noncomputable def qh_0_15 : List Cond := qh_0_14.drop 40
theorem qi_0_15 {w : Cond} (h : w ∈ qh_0_15) : w ∈ lw_tbl := qi_0_14 (List.mem_of_mem_drop h)
noncomputable def qh_0_16 : List Cond := qh_0_15.drop 40
theorem qi_0_16 {w : Cond} (h : w ∈ qh_0_16) : w ∈ lw_tbl := qi_0_15 (List.mem_of_mem_drop h)
noncomputable def qh_0_17 : List Cond := qh_0_16.drop 40
theorem qi_0_17 {w : Cond} (h : w ∈ qh_0_17) : w ∈ lw_tbl := qi_0_16 (List.mem_of_mem_drop h)
noncomputable def qh_0_18 : List Cond := qh_0_17.drop 40
theorem qi_0_18 {w : Cond} (h : w ∈ qh_0_18) : w ∈ lw_tbl := qi_0_17 (List.mem_of_mem_drop h)
noncomputable def qh_0_19 : List Cond := qh_0_18.drop 40
theorem qi_0_19 {w : Cond} (h : w ∈ qh_0_19) : w ∈ lw_tbl := qi_0_18 (List.mem_of_mem_drop h)
noncomputable def qh_0_20 : List Cond := qh_0_19.drop 40
theorem qi_0_20 {w : Cond} (h : w ∈ qh_0_20) : w ∈ lw_tbl := qi_0_19 (List.mem_of_mem_drop h)
noncomputable def qh_0_21 : List Cond := qh_0_20.drop 40
theorem qi_0_21 {w : Cond} (h : w ∈ qh_0_21) : w ∈ lw_tbl := qi_0_20 (List.mem_of_mem_drop h)
noncomputable def qh_0_22 : List Cond := qh_0_21.drop 40
theorem qi_0_22 {w : Cond} (h : w ∈ qh_0_22) : w ∈ lw_tbl := qi_0_21 (List.mem_of_mem_drop h)
noncomputable def qh_0_23 : List Cond := qh_0_22.drop 40
theorem qi_0_23 {w : Cond} (h : w ∈ qh_0_23) : w ∈ lw_tbl := qi_0_22 (List.mem_of_mem_drop h)
noncomputable def qh_0_24 : List Cond := qh_0_23.drop 40
theorem qi_0_24 {w : Cond} (h : w ∈ qh_0_24) : w ∈ lw_tbl := qi_0_23 (List.mem_of_mem_drop h)
noncomputable def qh_1_0 : List Cond := qtb 1
theorem qi_1_0 {w : Cond} (h : w ∈ qh_1_0) : w ∈ lw_tbl := qtb_in (j := 1) h
noncomputable def qh_1_1 : List Cond := qh_1_0.drop 40
theorem qi_1_1 {w : Cond} (h : w ∈ qh_1_1) : w ∈ lw_tbl := qi_1_0 (List.mem_of_mem_drop h)
noncomputable def qh_1_2 : List Cond := qh_1_1.drop 40
theorem qi_1_2 {w : Cond} (h : w ∈ qh_1_2) : w ∈ lw_tbl := qi_1_1 (List.mem_of_mem_drop h)
noncomputable def qh_1_3 : List Cond := qh_1_2.drop 40
theorem qi_1_3 {w : Cond} (h : w ∈ qh_1_3) : w ∈ lw_tbl := qi_1_2 (List.mem_of_mem_drop h)
noncomputable def qh_1_4 : List Cond := qh_1_3.drop 40
theorem qi_1_4 {w : Cond} (h : w ∈ qh_1_4) : w ∈ lw_tbl := qi_1_3 (List.mem_of_mem_drop h)
noncomputable def qh_1_5 : List Cond := qh_1_4.drop 40
theorem qi_1_5 {w : Cond} (h : w ∈ qh_1_5) : w ∈ lw_tbl := qi_1_4 (List.mem_of_mem_drop h)
noncomputable def qh_1_6 : List Cond := qh_1_5.drop 40
theorem qi_1_6 {w : Cond} (h : w ∈ qh_1_6) : w ∈ lw_tbl := qi_1_5 (List.mem_of_mem_drop h)
noncomputable def qh_1_7 : List Cond := qh_1_6.drop 40
theorem qi_1_7 {w : Cond} (h : w ∈ qh_1_7) : w ∈ lw_tbl := qi_1_6 (List.mem_of_mem_drop h)
noncomputable def qh_1_8 : List Cond := qh_1_7.drop 40
theorem qi_1_8 {w : Cond} (h : w ∈ qh_1_8) : w ∈ lw_tbl := qi_1_7 (List.mem_of_mem_drop h)
noncomputable def qh_1_9 : List Cond := qh_1_8.drop 40
theorem qi_1_9 {w : Cond} (h : w ∈ qh_1_9) : w ∈ lw_tbl := qi_1_8 (List.mem_of_mem_drop h)
noncomputable def qh_1_10 : List Cond := qh_1_9.drop 40
theorem qi_1_10 {w : Cond} (h : w ∈ qh_1_10) : w ∈ lw_tbl := qi_1_9 (List.mem_of_mem_drop h)
noncomputable def qh_1_11 : List Cond := qh_1_10.drop 40
theorem qi_1_11 {w : Cond} (h : w ∈ qh_1_11) : w ∈ lw_tbl := qi_1_10 (List.mem_of_mem_drop h)
noncomputable def qh_1_12 : List Cond := qh_1_11.drop 40
theorem qi_1_12 {w : Cond} (h : w ∈ qh_1_12) : w ∈ lw_tbl := qi_1_11 (List.mem_of_mem_drop h)
noncomputable def qh_1_13 : List Cond := qh_1_12.drop 40
theorem qi_1_13 {w : Cond} (h : w ∈ qh_1_13) : w ∈ lw_tbl := qi_1_12 (List.mem_of_mem_drop h)
noncomputable def qh_1_14 : List Cond := qh_1_13.drop 40
theorem qi_1_14 {w : Cond} (h : w ∈ qh_1_14) : w ∈ lw_tbl := qi_1_13 (List.mem_of_mem_drop h)
noncomputable def qh_1_15 : List Cond := qh_1_14.drop 40
theorem qi_1_15 {w : Cond} (h : w ∈ qh_1_15) : w ∈ lw_tbl := qi_1_14 (List.mem_of_mem_drop h)
noncomputable def qh_1_16 : List Cond := qh_1_15.drop 40
theorem qi_1_16 {w : Cond} (h : w ∈ qh_1_16) : w ∈ lw_tbl := qi_1_15 (List.mem_of_mem_drop h)
noncomputable def qh_1_17 : List Cond := qh_1_16.drop 40
theorem qi_1_17 {w : Cond} (h : w ∈ qh_1_17) : w ∈ lw_tbl := qi_1_16 (List.mem_of_mem_drop h)
noncomputable def qh_1_18 : List Cond := qh_1_17.drop 40
theorem qi_1_18 {w : Cond} (h : w ∈ qh_1_18) : w ∈ lw_tbl := qi_1_17 (List.mem_of_mem_drop h)
noncomputable def qh_1_19 : List Cond := qh_1_18.drop 40
theorem qi_1_19 {w : Cond} (h : w ∈ qh_1_19) : w ∈ lw_tbl := qi_1_18 (List.mem_of_mem_drop h)
noncomputable def qh_1_20 : List Cond := qh_1_19.drop 40
theorem qi_1_20 {w : Cond} (h : w ∈ qh_1_20) : w ∈ lw_tbl := qi_1_19 (List.mem_of_mem_drop h)
noncomputable def qh_1_21 : List Cond := qh_1_20.drop 40
theorem qi_1_21 {w : Cond} (h : w ∈ qh_1_21) : w ∈ lw_tbl := qi_1_20 (List.mem_of_mem_drop h)
noncomputable def qh_1_22 : List Cond := qh_1_21.drop 40
theorem qi_1_22 {w : Cond} (h : w ∈ qh_1_22) : w ∈ lw_tbl := qi_1_21 (List.mem_of_mem_drop h)
noncomputable def qh_1_23 : List Cond := qh_1_22.drop 40
theorem qi_1_23 {w : Cond} (h : w ∈ qh_1_23) : w ∈ lw_tbl := qi_1_22 (List.mem_of_mem_drop h)
noncomputable def qh_1_24 : List Cond := qh_1_23.drop 40
theorem qi_1_24 {w : Cond} (h : w ∈ qh_1_24) : w ∈ lw_tbl := qi_1_23 (List.mem_of_mem_drop h)
noncomputable def qh_2_0 : List Cond := qtb 2
theorem qi_2_0 {w : Cond} (h : w ∈ qh_2_0) : w ∈ lw_tbl := qtb_in (j := 2) h
noncomputable def qh_2_1 : List Cond := qh_2_0.drop 40
theorem qi_2_1 {w : Cond} (h : w ∈ qh_2_1) : w ∈ lw_tbl := qi_2_0 (List.mem_of_mem_drop h)
noncomputable def qh_2_2 : List Cond := qh_2_1.drop 40
theorem qi_2_2 {w : Cond} (h : w ∈ qh_2_2) : w ∈ lw_tbl := qi_2_1 (List.mem_of_mem_drop h)
noncomputable def qh_2_3 : List Cond := qh_2_2.drop 40
theorem qi_2_3 {w : Cond} (h : w ∈ qh_2_3) : w ∈ lw_tbl := qi_2_2 (List.mem_of_mem_drop h)
noncomputable def qh_2_4 : List Cond := qh_2_3.drop 40
theorem qi_2_4 {w : Cond} (h : w ∈ qh_2_4) : w ∈ lw_tbl := qi_2_3 (List.mem_of_mem_drop h)
noncomputable def qh_2_5 : List Cond := qh_2_4.drop 40
theorem qi_2_5 {w : Cond} (h : w ∈ qh_2_5) : w ∈ lw_tbl := qi_2_4 (List.mem_of_mem_drop h)
noncomputable def qh_2_6 : List Cond := qh_2_5.drop 40
theorem qi_2_6 {w : Cond} (h : w ∈ qh_2_6) : w ∈ lw_tbl := qi_2_5 (List.mem_of_mem_drop h)
noncomputable def qh_2_7 : List Cond := qh_2_6.drop 40
theorem qi_2_7 {w : Cond} (h : w ∈ qh_2_7) : w ∈ lw_tbl := qi_2_6 (List.mem_of_mem_drop h)
noncomputable def qh_2_8 : List Cond := qh_2_7.drop 40
theorem qi_2_8 {w : Cond} (h : w ∈ qh_2_8) : w ∈ lw_tbl := qi_2_7 (List.mem_of_mem_drop h)
noncomputable def qh_2_9 : List Cond := qh_2_8.drop 40
theorem qi_2_9 {w : Cond} (h : w ∈ qh_2_9) : w ∈ lw_tbl := qi_2_8 (List.mem_of_mem_drop h)
noncomputable def qh_2_10 : List Cond := qh_2_9.drop 40
theorem qi_2_10 {w : Cond} (h : w ∈ qh_2_10) : w ∈ lw_tbl := qi_2_9 (List.mem_of_mem_drop h)
noncomputable def qh_2_11 : List Cond := qh_2_10.drop 40
theorem qi_2_11 {w : Cond} (h : w ∈ qh_2_11) : w ∈ lw_tbl := qi_2_10 (List.mem_of_mem_drop h)
noncomputable def qh_2_12 : List Cond := qh_2_11.drop 40
theorem qi_2_12 {w : Cond} (h : w ∈ qh_2_12) : w ∈ lw_tbl := qi_2_11 (List.mem_of_mem_drop h)
noncomputable def qh_2_13 : List Cond := qh_2_12.drop 40
theorem qi_2_13 {w : Cond} (h : w ∈ qh_2_13) : w ∈ lw_tbl := qi_2_12 (List.mem_of_mem_drop h)
noncomputable def qh_2_14 : List Cond := qh_2_13.drop 40
theorem qi_2_14 {w : Cond} (h : w ∈ qh_2_14) : w ∈ lw_tbl := qi_2_13 (List.mem_of_mem_drop h)
noncomputable def qh_2_15 : List Cond := qh_2_14.drop 40
theorem qi_2_15 {w : Cond} (h : w ∈ qh_2_15) : w ∈ lw_tbl := qi_2_14 (List.mem_of_mem_drop h)
noncomputable def qh_2_16 : List Cond := qh_2_15.drop 40
theorem qi_2_16 {w : Cond} (h : w ∈ qh_2_16) : w ∈ lw_tbl := qi_2_15 (List.mem_of_mem_drop h)
noncomputable def qh_2_17 : List Cond := qh_2_16.drop 40
theorem qi_2_17 {w : Cond} (h : w ∈ qh_2_17) : w ∈ lw_tbl := qi_2_16 (List.mem_of_mem_drop h)
noncomputable def qh_2_18 : List Cond := qh_2_17.drop 40
theorem qi_2_18 {w : Cond} (h : w ∈ qh_2_18) : w ∈ lw_tbl := qi_2_17 (List.mem_of_mem_drop h)
noncomputable def qh_2_19 : List Cond := qh_2_18.drop 40
theorem qi_2_19 {w : Cond} (h : w ∈ qh_2_19) : w ∈ lw_tbl := qi_2_18 (List.mem_of_mem_drop h)
noncomputable def qh_2_20 : List Cond := qh_2_19.drop 40
theorem qi_2_20 {w : Cond} (h : w ∈ qh_2_20) : w ∈ lw_tbl := qi_2_19 (List.mem_of_mem_drop h)
noncomputable def qh_2_21 : List Cond := qh_2_20.drop 40
theorem qi_2_21 {w : Cond} (h : w ∈ qh_2_21) : w ∈ lw_tbl := qi_2_20 (List.mem_of_mem_drop h)
noncomputable def qh_2_22 : List Cond := qh_2_21.drop 40
theorem qi_2_22 {w : Cond} (h : w ∈ qh_2_22) : w ∈ lw_tbl := qi_2_21 (List.mem_of_mem_drop h)
noncomputable def qh_2_23 : List Cond := qh_2_22.drop 40
theorem qi_2_23 {w : Cond} (h : w ∈ qh_2_23) : w ∈ lw_tbl := qi_2_22 (List.mem_of_mem_drop h)
noncomputable def qh_2_24 : List Cond := qh_2_23.drop 40
theorem qi_2_24 {w : Cond} (h : w ∈ qh_2_24) : w ∈ lw_tbl := qi_2_23 (List.mem_of_mem_drop h)
noncomputable def qh_3_0 : List Cond := qtb 3
theorem qi_3_0 {w : Cond} (h : w ∈ qh_3_0) : w ∈ lw_tbl := qtb_in (j := 3) h
noncomputable def qh_3_1 : List Cond := qh_3_0.drop 40
theorem qi_3_1 {w : Cond} (h : w ∈ qh_3_1) : w ∈ lw_tbl := qi_3_0 (List.mem_of_mem_drop h)
noncomputable def qh_3_2 : List Cond := qh_3_1.drop 40
theorem qi_3_2 {w : Cond} (h : w ∈ qh_3_2) : w ∈ lw_tbl := qi_3_1 (List.mem_of_mem_drop h)
noncomputable def qh_3_3 : List Cond := qh_3_2.drop 40
theorem qi_3_3 {w : Cond} (h : w ∈ qh_3_3) : w ∈ lw_tbl := qi_3_2 (List.mem_of_mem_drop h)
noncomputable def qh_3_4 : List Cond := qh_3_3.drop 40
theorem qi_3_4 {w : Cond} (h : w ∈ qh_3_4) : w ∈ lw_tbl := qi_3_3 (List.mem_of_mem_drop h)
noncomputable def qh_3_5 : List Cond := qh_3_4.drop 40
theorem qi_3_5 {w : Cond} (h : w ∈ qh_3_5) : w ∈ lw_tbl := qi_3_4 (List.mem_of_mem_drop h)
noncomputable def qh_3_6 : List Cond := qh_3_5.drop 40
theorem qi_3_6 {w : Cond} (h : w ∈ qh_3_6) : w ∈ lw_tbl := qi_3_5 (List.mem_of_mem_drop h)
noncomputable def qh_3_7 : List Cond := qh_3_6.drop 40
theorem qi_3_7 {w : Cond} (h : w ∈ qh_3_7) : w ∈ lw_tbl := qi_3_6 (List.mem_of_mem_drop h)
noncomputable def qh_3_8 : List Cond := qh_3_7.drop 40
theorem qi_3_8 {w : Cond} (h : w ∈ qh_3_8) : w ∈ lw_tbl := qi_3_7 (List.mem_of_mem_drop h)
noncomputable def qh_3_9 : List Cond := qh_3_8.drop 40
theorem qi_3_9 {w : Cond} (h : w ∈ qh_3_9) : w ∈ lw_tbl := qi_3_8 (List.mem_of_mem_drop h)
noncomputable def qh_3_10 : List Cond := qh_3_9.drop 40
theorem qi_3_10 {w : Cond} (h : w ∈ qh_3_10) : w ∈ lw_tbl := qi_3_9 (List.mem_of_mem_drop h)
noncomputable def qh_3_11 : List Cond := qh_3_10.drop 40
theorem qi_3_11 {w : Cond} (h : w ∈ qh_3_11) : w ∈ lw_tbl := qi_3_10 (List.mem_of_mem_drop h)
noncomputable def qh_3_12 : List Cond := qh_3_11.drop 40
theorem qi_3_12 {w : Cond} (h : w ∈ qh_3_12) : w ∈ lw_tbl := qi_3_11 (List.mem_of_mem_drop h)
noncomputable def qh_3_13 : List Cond := qh_3_12.drop 40
theorem qi_3_13 {w : Cond} (h : w ∈ qh_3_13) : w ∈ lw_tbl := qi_3_12 (List.mem_of_mem_drop h)
noncomputable def qh_3_14 : List Cond := qh_3_13.drop 40
theorem qi_3_14 {w : Cond} (h : w ∈ qh_3_14) : w ∈ lw_tbl := qi_3_13 (List.mem_of_mem_drop h)
noncomputable def qh_3_15 : List Cond := qh_3_14.drop 40
theorem qi_3_15 {w : Cond} (h : w ∈ qh_3_15) : w ∈ lw_tbl := qi_3_14 (List.mem_of_mem_drop h)
noncomputable def qh_3_16 : List Cond := qh_3_15.drop 40
theorem qi_3_16 {w : Cond} (h : w ∈ qh_3_16) : w ∈ lw_tbl := qi_3_15 (List.mem_of_mem_drop h)
noncomputable def qh_3_17 : List Cond := qh_3_16.drop 40
theorem qi_3_17 {w : Cond} (h : w ∈ qh_3_17) : w ∈ lw_tbl := qi_3_16 (List.mem_of_mem_drop h)
noncomputable def qh_3_18 : List Cond := qh_3_17.drop 40
theorem qi_3_18 {w : Cond} (h : w ∈ qh_3_18) : w ∈ lw_tbl := qi_3_17 (List.mem_of_mem_drop h)
noncomputable def qh_3_19 : List Cond := qh_3_18.drop 40
theorem qi_3_19 {w : Cond} (h : w ∈ qh_3_19) : w ∈ lw_tbl := qi_3_18 (List.mem_of_mem_drop h)
noncomputable def qh_3_20 : List Cond := qh_3_19.drop 40
theorem qi_3_20 {w : Cond} (h : w ∈ qh_3_20) : w ∈ lw_tbl := qi_3_19 (List.mem_of_mem_drop h)
noncomputable def qh_3_21 : List Cond := qh_3_20.drop 40
theorem qi_3_21 {w : Cond} (h : w ∈ qh_3_21) : w ∈ lw_tbl := qi_3_20 (List.mem_of_mem_drop h)
noncomputable def qh_3_22 : List Cond := qh_3_21.drop 40
theorem qi_3_22 {w : Cond} (h : w ∈ qh_3_22) : w ∈ lw_tbl := qi_3_21 (List.mem_of_mem_drop h)
noncomputable def qh_3_23 : List Cond := qh_3_22.drop 40
theorem qi_3_23 {w : Cond} (h : w ∈ qh_3_23) : w ∈ lw_tbl := qi_3_22 (List.mem_of_mem_drop h)
noncomputable def qh_3_24 : List Cond := qh_3_23.drop 40
theorem qi_3_24 {w : Cond} (h : w ∈ qh_3_24) : w ∈ lw_tbl := qi_3_23 (List.mem_of_mem_drop h)
noncomputable def qh_4_0 : List Cond := qtb 4
theorem qi_4_0 {w : Cond} (h : w ∈ qh_4_0) : w ∈ lw_tbl := qtb_in (j := 4) h
noncomputable def qh_4_1 : List Cond := qh_4_0.drop 40
theorem qi_4_1 {w : Cond} (h : w ∈ qh_4_1) : w ∈ lw_tbl := qi_4_0 (List.mem_of_mem_drop h)
noncomputable def qh_4_2 : List Cond := qh_4_1.drop 40
theorem qi_4_2 {w : Cond} (h : w ∈ qh_4_2) : w ∈ lw_tbl := qi_4_1 (List.mem_of_mem_drop h)
noncomputable def qh_4_3 : List Cond := qh_4_2.drop 40
theorem qi_4_3 {w : Cond} (h : w ∈ qh_4_3) : w ∈ lw_tbl := qi_4_2 (List.mem_of_mem_drop h)
noncomputable def qh_4_4 : List Cond := qh_4_3.drop 40
theorem qi_4_4 {w : Cond} (h : w ∈ qh_4_4) : w ∈ lw_tbl := qi_4_3 (List.mem_of_mem_drop h)
noncomputable def qh_4_5 : List Cond := qh_4_4.drop 40
theorem qi_4_5 {w : Cond} (h : w ∈ qh_4_5) : w ∈ lw_tbl := qi_4_4 (List.mem_of_mem_drop h)
noncomputable def qh_4_6 : List Cond := qh_4_5.drop 40
theorem qi_4_6 {w : Cond} (h : w ∈ qh_4_6) : w ∈ lw_tbl := qi_4_5 (List.mem_of_mem_drop h)
noncomputable def qh_4_7 : List Cond := qh_4_6.drop 40
theorem qi_4_7 {w : Cond} (h : w ∈ qh_4_7) : w ∈ lw_tbl := qi_4_6 (List.mem_of_mem_drop h)
noncomputable def qh_4_8 : List Cond := qh_4_7.drop 40
theorem qi_4_8 {w : Cond} (h : w ∈ qh_4_8) : w ∈ lw_tbl := qi_4_7 (List.mem_of_mem_drop h)
noncomputable def qh_4_9 : List Cond := qh_4_8.drop 40
theorem qi_4_9 {w : Cond} (h : w ∈ qh_4_9) : w ∈ lw_tbl := qi_4_8 (List.mem_of_mem_drop h)
noncomputable def qh_4_10 : List Cond := qh_4_9.drop 40
theorem qi_4_10 {w : Cond} (h : w ∈ qh_4_10) : w ∈ lw_tbl := qi_4_9 (List.mem_of_mem_drop h)
noncomputable def qh_4_11 : List Cond := qh_4_10.drop 40
theorem qi_4_11 {w : Cond} (h : w ∈ qh_4_11) : w ∈ lw_tbl := qi_4_10 (List.mem_of_mem_drop h)
noncomputable def qh_4_12 : List Cond := qh_4_11.drop 40
theorem qi_4_12 {w : Cond} (h : w ∈ qh_4_12) : w ∈ lw_tbl := qi_4_11 (List.mem_of_mem_drop h)
noncomputable def qh_4_13 : List Cond := qh_4_12.drop 40
theorem qi_4_13 {w : Cond} (h : w ∈ qh_4_13) : w ∈ lw_tbl := qi_4_12 (List.mem_of_mem_drop h)
noncomputable def qh_4_14 : List Cond := qh_4_13.drop 40
theorem qi_4_14 {w : Cond} (h : w ∈ qh_4_14) : w ∈ lw_tbl := qi_4_13 (List.mem_of_mem_drop h)
noncomputable def qh_4_15 : List Cond := qh_4_14.drop 40
theorem qi_4_15 {w : Cond} (h : w ∈ qh_4_15) : w ∈ lw_tbl := qi_4_14 (List.mem_of_mem_drop h)
noncomputable def qh_4_16 : List Cond := qh_4_15.drop 40
theorem qi_4_16 {w : Cond} (h : w ∈ qh_4_16) : w ∈ lw_tbl := qi_4_15 (List.mem_of_mem_drop h)
noncomputable def qh_4_17 : List Cond := qh_4_16.drop 40
theorem qi_4_17 {w : Cond} (h : w ∈ qh_4_17) : w ∈ lw_tbl := qi_4_16 (List.mem_of_mem_drop h)
noncomputable def qh_4_18 : List Cond := qh_4_17.drop 40
theorem qi_4_18 {w : Cond} (h : w ∈ qh_4_18) : w ∈ lw_tbl := qi_4_17 (List.mem_of_mem_drop h)
noncomputable def qh_4_19 : List Cond := qh_4_18.drop 40
theorem qi_4_19 {w : Cond} (h : w ∈ qh_4_19) : w ∈ lw_tbl := qi_4_18 (List.mem_of_mem_drop h)
noncomputable def qh_4_20 : List Cond := qh_4_19.drop 40
theorem qi_4_20 {w : Cond} (h : w ∈ qh_4_20) : w ∈ lw_tbl := qi_4_19 (List.mem_of_mem_drop h)
noncomputable def qh_4_21 : List Cond := qh_4_20.drop 40
theorem qi_4_21 {w : Cond} (h : w ∈ qh_4_21) : w ∈ lw_tbl := qi_4_20 (List.mem_of_mem_drop h)
noncomputable def qh_4_22 : List Cond := qh_4_21.drop 40
theorem qi_4_22 {w : Cond} (h : w ∈ qh_4_22) : w ∈ lw_tbl := qi_4_21 (List.mem_of_mem_drop h)
noncomputable def qh_4_23 : List Cond := qh_4_22.drop 40
theorem qi_4_23 {w : Cond} (h : w ∈ qh_4_23) : w ∈ lw_tbl := qi_4_22 (List.mem_of_mem_drop h)
noncomputable def qh_4_24 : List Cond := qh_4_23.drop 40
theorem qi_4_24 {w : Cond} (h : w ∈ qh_4_24) : w ∈ lw_tbl := qi_4_23 (List.mem_of_mem_drop h)
noncomputable def qh_5_0 : List Cond := qtb 5
theorem qi_5_0 {w : Cond} (h : w ∈ qh_5_0) : w ∈ lw_tbl := qtb_in (j := 5) h
noncomputable def qh_5_1 : List Cond := qh_5_0.drop 40
theorem qi_5_1 {w : Cond} (h : w ∈ qh_5_1) : w ∈ lw_tbl := qi_5_0 (List.mem_of_mem_drop h)
noncomputable def qh_5_2 : List Cond := qh_5_1.drop 40
theorem qi_5_2 {w : Cond} (h : w ∈ qh_5_2) : w ∈ lw_tbl := qi_5_1 (List.mem_of_mem_drop h)
noncomputable def qh_5_3 : List Cond := qh_5_2.drop 40
theorem qi_5_3 {w : Cond} (h : w ∈ qh_5_3) : w ∈ lw_tbl := qi_5_2 (List.mem_of_mem_drop h)
noncomputable def qh_5_4 : List Cond := qh_5_3.drop 40
theorem qi_5_4 {w : Cond} (h : w ∈ qh_5_4) : w ∈ lw_tbl := qi_5_3 (List.mem_of_mem_drop h)
noncomputable def qh_5_5 : List Cond := qh_5_4.drop 40
theorem qi_5_5 {w : Cond} (h : w ∈ qh_5_5) : w ∈ lw_tbl := qi_5_4 (List.mem_of_mem_drop h)
noncomputable def qh_5_6 : List Cond := qh_5_5.drop 40
theorem qi_5_6 {w : Cond} (h : w ∈ qh_5_6) : w ∈ lw_tbl := qi_5_5 (List.mem_of_mem_drop h)
noncomputable def qh_5_7 : List Cond := qh_5_6.drop 40
theorem qi_5_7 {w : Cond} (h : w ∈ qh_5_7) : w ∈ lw_tbl := qi_5_6 (List.mem_of_mem_drop h)
noncomputable def qh_5_8 : List Cond := qh_5_7.drop 40
theorem qi_5_8 {w : Cond} (h : w ∈ qh_5_8) : w ∈ lw_tbl := qi_5_7 (List.mem_of_mem_drop h)
noncomputable def qh_5_9 : List Cond := qh_5_8.drop 40
theorem qi_5_9 {w : Cond} (h : w ∈ qh_5_9) : w ∈ lw_tbl := qi_5_8 (List.mem_of_mem_drop h)
noncomputable def qh_5_10 : List Cond := qh_5_9.drop 40
theorem qi_5_10 {w : Cond} (h : w ∈ qh_5_10) : w ∈ lw_tbl := qi_5_9 (List.mem_of_mem_drop h)
noncomputable def qh_5_11 : List Cond := qh_5_10.drop 40
theorem qi_5_11 {w : Cond} (h : w ∈ qh_5_11) : w ∈ lw_tbl := qi_5_10 (List.mem_of_mem_drop h)
noncomputable def qh_5_12 : List Cond := qh_5_11.drop 40
theorem qi_5_12 {w : Cond} (h : w ∈ qh_5_12) : w ∈ lw_tbl := qi_5_11 (List.mem_of_mem_drop h)
noncomputable def qh_5_13 : List Cond := qh_5_12.drop 40
theorem qi_5_13 {w : Cond} (h : w ∈ qh_5_13) : w ∈ lw_tbl := qi_5_12 (List.mem_of_mem_drop h)
noncomputable def qh_5_14 : List Cond := qh_5_13.drop 40
theorem qi_5_14 {w : Cond} (h : w ∈ qh_5_14) : w ∈ lw_tbl := qi_5_13 (List.mem_of_mem_drop h)
noncomputable def qh_5_15 : List Cond := qh_5_14.drop 40
theorem qi_5_15 {w : Cond} (h : w ∈ qh_5_15) : w ∈ lw_tbl := qi_5_14 (List.mem_of_mem_drop h)
noncomputable def qh_5_16 : List Cond := qh_5_15.drop 40
theorem qi_5_16 {w : Cond} (h : w ∈ qh_5_16) : w ∈ lw_tbl := qi_5_15 (List.mem_of_mem_drop h)
noncomputable def qh_5_17 : List Cond := qh_5_16.drop 40
theorem qi_5_17 {w : Cond} (h : w ∈ qh_5_17) : w ∈ lw_tbl := qi_5_16 (List.mem_of_mem_drop h)
noncomputable def qh_5_18 : List Cond := qh_5_17.drop 40
theorem qi_5_18 {w : Cond} (h : w ∈ qh_5_18) : w ∈ lw_tbl := qi_5_17 (List.mem_of_mem_drop h)
noncomputable def qh_5_19 : List Cond := qh_5_18.drop 40
theorem qi_5_19 {w : Cond} (h : w ∈ qh_5_19) : w ∈ lw_tbl := qi_5_18 (List.mem_of_mem_drop h)
noncomputable def qh_5_20 : List Cond := qh_5_19.drop 40
theorem qi_5_20 {w : Cond} (h : w ∈ qh_5_20) : w ∈ lw_tbl := qi_5_19 (List.mem_of_mem_drop h)
noncomputable def qh_5_21 : List Cond := qh_5_20.drop 40
theorem qi_5_21 {w : Cond} (h : w ∈ qh_5_21) : w ∈ lw_tbl := qi_5_20 (List.mem_of_mem_drop h)
noncomputable def qh_5_22 : List Cond := qh_5_21.drop 40
theorem qi_5_22 {w : Cond} (h : w ∈ qh_5_22) : w ∈ lw_tbl := qi_5_21 (List.mem_of_mem_drop h)
noncomputable def qh_5_23 : List Cond := qh_5_22.drop 40
theorem qi_5_23 {w : Cond} (h : w ∈ qh_5_23) : w ∈ lw_tbl := qi_5_22 (List.mem_of_mem_drop h)
noncomputable def qh_5_24 : List Cond := qh_5_23.drop 40
theorem qi_5_24 {w : Cond} (h : w ∈ qh_5_24) : w ∈ lw_tbl := qi_5_23 (List.mem_of_mem_drop h)
noncomputable def qh_6_0 : List Cond := qtb 6
theorem qi_6_0 {w : Cond} (h : w ∈ qh_6_0) : w ∈ lw_tbl := qtb_in (j := 6) h
noncomputable def qh_6_1 : List Cond := qh_6_0.drop 40
theorem qi_6_1 {w : Cond} (h : w ∈ qh_6_1) : w ∈ lw_tbl := qi_6_0 (List.mem_of_mem_drop h)
noncomputable def qh_6_2 : List Cond := qh_6_1.drop 40
theorem qi_6_2 {w : Cond} (h : w ∈ qh_6_2) : w ∈ lw_tbl := qi_6_1 (List.mem_of_mem_drop h)
noncomputable def qh_6_3 : List Cond := qh_6_2.drop 40
theorem qi_6_3 {w : Cond} (h : w ∈ qh_6_3) : w ∈ lw_tbl := qi_6_2 (List.mem_of_mem_drop h)
noncomputable def qh_6_4 : List Cond := qh_6_3.drop 40
theorem qi_6_4 {w : Cond} (h : w ∈ qh_6_4) : w ∈ lw_tbl := qi_6_3 (List.mem_of_mem_drop h)
noncomputable def qh_6_5 : List Cond := qh_6_4.drop 40
theorem qi_6_5 {w : Cond} (h : w ∈ qh_6_5) : w ∈ lw_tbl := qi_6_4 (List.mem_of_mem_drop h)
noncomputable def qh_6_6 : List Cond := qh_6_5.drop 40
theorem qi_6_6 {w : Cond} (h : w ∈ qh_6_6) : w ∈ lw_tbl := qi_6_5 (List.mem_of_mem_drop h)
noncomputable def qh_6_7 : List Cond := qh_6_6.drop 40
theorem qi_6_7 {w : Cond} (h : w ∈ qh_6_7) : w ∈ lw_tbl := qi_6_6 (List.mem_of_mem_drop h)
noncomputable def qh_6_8 : List Cond := qh_6_7.drop 40
theorem qi_6_8 {w : Cond} (h : w ∈ qh_6_8) : w ∈ lw_tbl := qi_6_7 (List.mem_of_mem_drop h)
noncomputable def qh_6_9 : List Cond := qh_6_8.drop 40
theorem qi_6_9 {w : Cond} (h : w ∈ qh_6_9) : w ∈ lw_tbl := qi_6_8 (List.mem_of_mem_drop h)
noncomputable def qh_6_10 : List Cond := qh_6_9.drop 40
theorem qi_6_10 {w : Cond} (h : w ∈ qh_6_10) : w ∈ lw_tbl := qi_6_9 (List.mem_of_mem_drop h)
noncomputable def qh_6_11 : List Cond := qh_6_10.drop 40
theorem qi_6_11 {w : Cond} (h : w ∈ qh_6_11) : w ∈ lw_tbl := qi_6_10 (List.mem_of_mem_drop h)
noncomputable def qh_6_12 : List Cond := qh_6_11.drop 40
theorem qi_6_12 {w : Cond} (h : w ∈ qh_6_12) : w ∈ lw_tbl := qi_6_11 (List.mem_of_mem_drop h)
noncomputable def qh_6_13 : List Cond := qh_6_12.drop 40
theorem qi_6_13 {w : Cond} (h : w ∈ qh_6_13) : w ∈ lw_tbl := qi_6_12 (List.mem_of_mem_drop h)
noncomputable def qh_6_14 : List Cond := qh_6_13.drop 40
theorem qi_6_14 {w : Cond} (h : w ∈ qh_6_14) : w ∈ lw_tbl := qi_6_13 (List.mem_of_mem_drop h)
noncomputable def qh_6_15 : List Cond := qh_6_14.drop 40
theorem qi_6_15 {w : Cond} (h : w ∈ qh_6_15) : w ∈ lw_tbl := qi_6_14 (List.mem_of_mem_drop h)
noncomputable def qh_6_16 : List Cond := qh_6_15.drop 40
theorem qi_6_16 {w : Cond} (h : w ∈ qh_6_16) : w ∈ lw_tbl := qi_6_15 (List.mem_of_mem_drop h)
noncomputable def qh_6_17 : List Cond := qh_6_16.drop 40
theorem qi_6_17 {w : Cond} (h : w ∈ qh_6_17) : w ∈ lw_tbl := qi_6_16 (List.mem_of_mem_drop h)
noncomputable def qh_6_18 : List Cond := qh_6_17.drop 40
theorem qi_6_18 {w : Cond} (h : w ∈ qh_6_18) : w ∈ lw_tbl := qi_6_17 (List.mem_of_mem_drop h)
noncomputable def qh_6_19 : List Cond := qh_6_18.drop 40
theorem qi_6_19 {w : Cond} (h : w ∈ qh_6_19) : w ∈ lw_tbl := qi_6_18 (List.mem_of_mem_drop h)
noncomputable def qh_6_20 : List Cond := qh_6_19.drop 40
theorem qi_6_20 {w : Cond} (h : w ∈ qh_6_20) : w ∈ lw_tbl := qi_6_19 (List.mem_of_mem_drop h)
noncomputable def qh_6_21 : List Cond := qh_6_20.drop 40
theorem qi_6_21 {w : Cond} (h : w ∈ qh_6_21) : w ∈ lw_tbl := qi_6_20 (List.mem_of_mem_drop h)
noncomputable def qh_6_22 : List Cond := qh_6_21.drop 40
theorem qi_6_22 {w : Cond} (h : w ∈ qh_6_22) : w ∈ lw_tbl := qi_6_21 (List.mem_of_mem_drop h)
noncomputable def qh_6_23 : List Cond := qh_6_22.drop 40
theorem qi_6_23 {w : Cond} (h : w ∈ qh_6_23) : w ∈ lw_tbl := qi_6_22 (List.mem_of_mem_drop h)
noncomputable def qh_6_24 : List Cond := qh_6_23.drop 40
theorem qi_6_24 {w : Cond} (h : w ∈ qh_6_24) : w ∈ lw_tbl := qi_6_23 (List.mem_of_mem_drop h)
noncomputable def qh_7_0 : List Cond := qtb 7
theorem qi_7_0 {w : Cond} (h : w ∈ qh_7_0) : w ∈ lw_tbl := qtb_in (j := 7) h
noncomputable def qh_7_1 : List Cond := qh_7_0.drop 40
theorem qi_7_1 {w : Cond} (h : w ∈ qh_7_1) : w ∈ lw_tbl := qi_7_0 (List.mem_of_mem_drop h)
noncomputable def qh_7_2 : List Cond := qh_7_1.drop 40
theorem qi_7_2 {w : Cond} (h : w ∈ qh_7_2) : w ∈ lw_tbl := qi_7_1 (List.mem_of_mem_drop h)
noncomputable def qh_7_3 : List Cond := qh_7_2.drop 40
theorem qi_7_3 {w : Cond} (h : w ∈ qh_7_3) : w ∈ lw_tbl := qi_7_2 (List.mem_of_mem_drop h)
noncomputable def qh_7_4 : List Cond := qh_7_3.drop 40
theorem qi_7_4 {w : Cond} (h : w ∈ qh_7_4) : w ∈ lw_tbl := qi_7_3 (List.mem_of_mem_drop h)
noncomputable def qh_7_5 : List Cond := qh_7_4.drop 40
theorem qi_7_5 {w : Cond} (h : w ∈ qh_7_5) : w ∈ lw_tbl := qi_7_4 (List.mem_of_mem_drop h)
noncomputable def qh_7_6 : List Cond := qh_7_5.drop 40
theorem qi_7_6 {w : Cond} (h : w ∈ qh_7_6) : w ∈ lw_tbl := qi_7_5 (List.mem_of_mem_drop h)
noncomputable def qh_7_7 : List Cond := qh_7_6.drop 40
theorem qi_7_7 {w : Cond} (h : w ∈ qh_7_7) : w ∈ lw_tbl := qi_7_6 (List.mem_of_mem_drop h)
noncomputable def qh_7_8 : List Cond := qh_7_7.drop 40
theorem qi_7_8 {w : Cond} (h : w ∈ qh_7_8) : w ∈ lw_tbl := qi_7_7 (List.mem_of_mem_drop h)
noncomputable def qh_7_9 : List Cond := qh_7_8.drop 40
theorem qi_7_9 {w : Cond} (h : w ∈ qh_7_9) : w ∈ lw_tbl := qi_7_8 (List.mem_of_mem_drop h)
noncomputable def qh_7_10 : List Cond := qh_7_9.drop 40
theorem qi_7_10 {w : Cond} (h : w ∈ qh_7_10) : w ∈ lw_tbl := qi_7_9 (List.mem_of_mem_drop h)
noncomputable def qh_7_11 : List Cond := qh_7_10.drop 40
theorem qi_7_11 {w : Cond} (h : w ∈ qh_7_11) : w ∈ lw_tbl := qi_7_10 (List.mem_of_mem_drop h)
noncomputable def qh_7_12 : List Cond := qh_7_11.drop 40
theorem qi_7_12 {w : Cond} (h : w ∈ qh_7_12) : w ∈ lw_tbl := qi_7_11 (List.mem_of_mem_drop h)
noncomputable def qh_7_13 : List Cond := qh_7_12.drop 40
theorem qi_7_13 {w : Cond} (h : w ∈ qh_7_13) : w ∈ lw_tbl := qi_7_12 (List.mem_of_mem_drop h)
noncomputable def qh_7_14 : List Cond := qh_7_13.drop 40
theorem qi_7_14 {w : Cond} (h : w ∈ qh_7_14) : w ∈ lw_tbl := qi_7_13 (List.mem_of_mem_drop h)
noncomputable def qh_7_15 : List Cond := qh_7_14.drop 40
theorem qi_7_15 {w : Cond} (h : w ∈ qh_7_15) : w ∈ lw_tbl := qi_7_14 (List.mem_of_mem_drop h)
noncomputable def qh_7_16 : List Cond := qh_7_15.drop 40
theorem qi_7_16 {w : Cond} (h : w ∈ qh_7_16) : w ∈ lw_tbl := qi_7_15 (List.mem_of_mem_drop h)
noncomputable def qh_7_17 : List Cond := qh_7_16.drop 40
theorem qi_7_17 {w : Cond} (h : w ∈ qh_7_17) : w ∈ lw_tbl := qi_7_16 (List.mem_of_mem_drop h)
noncomputable def qh_7_18 : List Cond := qh_7_17.drop 40
theorem qi_7_18 {w : Cond} (h : w ∈ qh_7_18) : w ∈ lw_tbl := qi_7_17 (List.mem_of_mem_drop h)
noncomputable def qh_7_19 : List Cond := qh_7_18.drop 40
theorem qi_7_19 {w : Cond} (h : w ∈ qh_7_19) : w ∈ lw_tbl := qi_7_18 (List.mem_of_mem_drop h)
noncomputable def qh_7_20 : List Cond := qh_7_19.drop 40
theorem qi_7_20 {w : Cond} (h : w ∈ qh_7_20) : w ∈ lw_tbl := qi_7_19 (List.mem_of_mem_drop h)
noncomputable def qh_7_21 : List Cond := qh_7_20.drop 40
theorem qi_7_21 {w : Cond} (h : w ∈ qh_7_21) : w ∈ lw_tbl := qi_7_20 (List.mem_of_mem_drop h)
noncomputable def qh_7_22 : List Cond := qh_7_21.drop 40
theorem qi_7_22 {w : Cond} (h : w ∈ qh_7_22) : w ∈ lw_tbl := qi_7_21 (List.mem_of_mem_drop h)
noncomputable def qh_7_23 : List Cond := qh_7_22.drop 40
theorem qi_7_23 {w : Cond} (h : w ∈ qh_7_23) : w ∈ lw_tbl := qi_7_22 (List.mem_of_mem_drop h)
noncomputable def qh_7_24 : List Cond := qh_7_23.drop 40
theorem qi_7_24 {w : Cond} (h : w ∈ qh_7_24) : w ∈ lw_tbl := qi_7_23 (List.mem_of_mem_drop h)
noncomputable def qh_8_0 : List Cond := qtb 8
theorem qi_8_0 {w : Cond} (h : w ∈ qh_8_0) : w ∈ lw_tbl := qtb_in (j := 8) h
noncomputable def qh_8_1 : List Cond := qh_8_0.drop 40
theorem qi_8_1 {w : Cond} (h : w ∈ qh_8_1) : w ∈ lw_tbl := qi_8_0 (List.mem_of_mem_drop h)
noncomputable def qh_8_2 : List Cond := qh_8_1.drop 40
theorem qi_8_2 {w : Cond} (h : w ∈ qh_8_2) : w ∈ lw_tbl := qi_8_1 (List.mem_of_mem_drop h)
noncomputable def qh_8_3 : List Cond := qh_8_2.drop 40
theorem qi_8_3 {w : Cond} (h : w ∈ qh_8_3) : w ∈ lw_tbl := qi_8_2 (List.mem_of_mem_drop h)
noncomputable def qh_8_4 : List Cond := qh_8_3.drop 40
theorem qi_8_4 {w : Cond} (h : w ∈ qh_8_4) : w ∈ lw_tbl := qi_8_3 (List.mem_of_mem_drop h)
noncomputable def qh_8_5 : List Cond := qh_8_4.drop 40
theorem qi_8_5 {w : Cond} (h : w ∈ qh_8_5) : w ∈ lw_tbl := qi_8_4 (List.mem_of_mem_drop h)
noncomputable def qh_8_6 : List Cond := qh_8_5.drop 40
theorem qi_8_6 {w : Cond} (h : w ∈ qh_8_6) : w ∈ lw_tbl := qi_8_5 (List.mem_of_mem_drop h)
noncomputable def qh_8_7 : List Cond := qh_8_6.drop 40
theorem qi_8_7 {w : Cond} (h : w ∈ qh_8_7) : w ∈ lw_tbl := qi_8_6 (List.mem_of_mem_drop h)
noncomputable def qh_8_8 : List Cond := qh_8_7.drop 40
theorem qi_8_8 {w : Cond} (h : w ∈ qh_8_8) : w ∈ lw_tbl := qi_8_7 (List.mem_of_mem_drop h)
noncomputable def qh_8_9 : List Cond := qh_8_8.drop 40
theorem qi_8_9 {w : Cond} (h : w ∈ qh_8_9) : w ∈ lw_tbl := qi_8_8 (List.mem_of_mem_drop h)
noncomputable def qh_8_10 : List Cond := qh_8_9.drop 40
theorem qi_8_10 {w : Cond} (h : w ∈ qh_8_10) : w ∈ lw_tbl := qi_8_9 (List.mem_of_mem_drop h)
noncomputable def qh_8_11 : List Cond := qh_8_10.drop 40
theorem qi_8_11 {w : Cond} (h : w ∈ qh_8_11) : w ∈ lw_tbl := qi_8_10 (List.mem_of_mem_drop h)
noncomputable def qh_8_12 : List Cond := qh_8_11.drop 40
theorem qi_8_12 {w : Cond} (h : w ∈ qh_8_12) : w ∈ lw_tbl := qi_8_11 (List.mem_of_mem_drop h)
noncomputable def qh_8_13 : List Cond := qh_8_12.drop 40
theorem qi_8_13 {w : Cond} (h : w ∈ qh_8_13) : w ∈ lw_tbl := qi_8_12 (List.mem_of_mem_drop h)
noncomputable def qh_8_14 : List Cond := qh_8_13.drop 40
theorem qi_8_14 {w : Cond} (h : w ∈ qh_8_14) : w ∈ lw_tbl := qi_8_13 (List.mem_of_mem_drop h)
noncomputable def qh_8_15 : List Cond := qh_8_14.drop 40
theorem qi_8_15 {w : Cond} (h : w ∈ qh_8_15) : w ∈ lw_tbl := qi_8_14 (List.mem_of_mem_drop h)
noncomputable def qh_8_16 : List Cond := qh_8_15.drop 40
theorem qi_8_16 {w : Cond} (h : w ∈ qh_8_16) : w ∈ lw_tbl := qi_8_15 (List.mem_of_mem_drop h)
noncomputable def qh_8_17 : List Cond := qh_8_16.drop 40
theorem qi_8_17 {w : Cond} (h : w ∈ qh_8_17) : w ∈ lw_tbl := qi_8_16 (List.mem_of_mem_drop h)
noncomputable def qh_8_18 : List Cond := qh_8_17.drop 40
theorem qi_8_18 {w : Cond} (h : w ∈ qh_8_18) : w ∈ lw_tbl := qi_8_17 (List.mem_of_mem_drop h)
noncomputable def qh_8_19 : List Cond := qh_8_18.drop 40
theorem qi_8_19 {w : Cond} (h : w ∈ qh_8_19) : w ∈ lw_tbl := qi_8_18 (List.mem_of_mem_drop h)
noncomputable def qh_8_20 : List Cond := qh_8_19.drop 40
theorem qi_8_20 {w : Cond} (h : w ∈ qh_8_20) : w ∈ lw_tbl := qi_8_19 (List.mem_of_mem_drop h)
noncomputable def qh_8_21 : List Cond := qh_8_20.drop 40
theorem qi_8_21 {w : Cond} (h : w ∈ qh_8_21) : w ∈ lw_tbl := qi_8_20 (List.mem_of_mem_drop h)
noncomputable def qh_8_22 : List Cond := qh_8_21.drop 40
theorem qi_8_22 {w : Cond} (h : w ∈ qh_8_22) : w ∈ lw_tbl := qi_8_21 (List.mem_of_mem_drop h)
noncomputable def qh_8_23 : List Cond := qh_8_22.drop 40
theorem qi_8_23 {w : Cond} (h : w ∈ qh_8_23) : w ∈ lw_tbl := qi_8_22 (List.mem_of_mem_drop h)
noncomputable def qh_8_24 : List Cond := qh_8_23.drop 40
theorem qi_8_24 {w : Cond} (h : w ∈ qh_8_24) : w ∈ lw_tbl := qi_8_23 (List.mem_of_mem_drop h)
noncomputable def qh_9_0 : List Cond := qtb 9
theorem qi_9_0 {w : Cond} (h : w ∈ qh_9_0) : w ∈ lw_tbl := qtb_in (j := 9) h
noncomputable def qh_9_1 : List Cond := qh_9_0.drop 40
theorem qi_9_1 {w : Cond} (h : w ∈ qh_9_1) : w ∈ lw_tbl := qi_9_0 (List.mem_of_mem_drop h)
noncomputable def qh_9_2 : List Cond := qh_9_1.drop 40
theorem qi_9_2 {w : Cond} (h : w ∈ qh_9_2) : w ∈ lw_tbl := qi_9_1 (List.mem_of_mem_drop h)
noncomputable def qh_9_3 : List Cond := qh_9_2.drop 40
theorem qi_9_3 {w : Cond} (h : w ∈ qh_9_3) : w ∈ lw_tbl := qi_9_2 (List.mem_of_mem_drop h)
noncomputable def qh_9_4 : List Cond := qh_9_3.drop 40
theorem qi_9_4 {w : Cond} (h : w ∈ qh_9_4) : w ∈ lw_tbl := qi_9_3 (List.mem_of_mem_drop h)
noncomputable def qh_9_5 : List Cond := qh_9_4.drop 40
theorem qi_9_5 {w : Cond} (h : w ∈ qh_9_5) : w ∈ lw_tbl := qi_9_4 (List.mem_of_mem_drop h)
noncomputable def qh_9_6 : List Cond := qh_9_5.drop 40
theorem qi_9_6 {w : Cond} (h : w ∈ qh_9_6) : w ∈ lw_tbl := qi_9_5 (List.mem_of_mem_drop h)
noncomputable def qh_9_7 : List Cond := qh_9_6.drop 40
theorem qi_9_7 {w : Cond} (h : w ∈ qh_9_7) : w ∈ lw_tbl := qi_9_6 (List.mem_of_mem_drop h)
noncomputable def qh_9_8 : List Cond := qh_9_7.drop 40
theorem qi_9_8 {w : Cond} (h : w ∈ qh_9_8) : w ∈ lw_tbl := qi_9_7 (List.mem_of_mem_drop h)
noncomputable def qh_9_9 : List Cond := qh_9_8.drop 40
theorem qi_9_9 {w : Cond} (h : w ∈ qh_9_9) : w ∈ lw_tbl := qi_9_8 (List.mem_of_mem_drop h)
noncomputable def qh_9_10 : List Cond := qh_9_9.drop 40
theorem qi_9_10 {w : Cond} (h : w ∈ qh_9_10) : w ∈ lw_tbl := qi_9_9 (List.mem_of_mem_drop h)
noncomputable def qh_9_11 : List Cond := qh_9_10.drop 40
theorem qi_9_11 {w : Cond} (h : w ∈ qh_9_11) : w ∈ lw_tbl := qi_9_10 (List.mem_of_mem_drop h)
noncomputable def qh_9_12 : List Cond := qh_9_11.drop 40
theorem qi_9_12 {w : Cond} (h : w ∈ qh_9_12) : w ∈ lw_tbl := qi_9_11 (List.mem_of_mem_drop h)
noncomputable def qh_9_13 : List Cond := qh_9_12.drop 40
theorem qi_9_13 {w : Cond} (h : w ∈ qh_9_13) : w ∈ lw_tbl := qi_9_12 (List.mem_of_mem_drop h)
noncomputable def qh_9_14 : List Cond := qh_9_13.drop 40
theorem qi_9_14 {w : Cond} (h : w ∈ qh_9_14) : w ∈ lw_tbl := qi_9_13 (List.mem_of_mem_drop h)
noncomputable def qh_9_15 : List Cond := qh_9_14.drop 40
theorem qi_9_15 {w : Cond} (h : w ∈ qh_9_15) : w ∈ lw_tbl := qi_9_14 (List.mem_of_mem_drop h)
noncomputable def qh_9_16 : List Cond := qh_9_15.drop 40
theorem qi_9_16 {w : Cond} (h : w ∈ qh_9_16) : w ∈ lw_tbl := qi_9_15 (List.mem_of_mem_drop h)
noncomputable def qh_9_17 : List Cond := qh_9_16.drop 40
theorem qi_9_17 {w : Cond} (h : w ∈ qh_9_17) : w ∈ lw_tbl := qi_9_16 (List.mem_of_mem_drop h)
noncomputable def qh_9_18 : List Cond := qh_9_17.drop 40
theorem qi_9_18 {w : Cond} (h : w ∈ qh_9_18) : w ∈ lw_tbl := qi_9_17 (List.mem_of_mem_drop h)
noncomputable def qh_9_19 : List Cond := qh_9_18.drop 40
theorem qi_9_19 {w : Cond} (h : w ∈ qh_9_19) : w ∈ lw_tbl := qi_9_18 (List.mem_of_mem_drop h)
noncomputable def qh_9_20 : List Cond := qh_9_19.drop 40
theorem qi_9_20 {w : Cond} (h : w ∈ qh_9_20) : w ∈ lw_tbl := qi_9_19 (List.mem_of_mem_drop h)
noncomputable def qh_9_21 : List Cond := qh_9_20.drop 40
theorem qi_9_21 {w : Cond} (h : w ∈ qh_9_21) : w ∈ lw_tbl := qi_9_20 (List.mem_of_mem_drop h)
noncomputable def qh_9_22 : List Cond := qh_9_21.drop 40
theorem qi_9_22 {w : Cond} (h : w ∈ qh_9_22) : w ∈ lw_tbl := qi_9_21 (List.mem_of_mem_drop h)
noncomputable def qh_9_23 : List Cond := qh_9_22.drop 40
theorem qi_9_23 {w : Cond} (h : w ∈ qh_9_23) : w ∈ lw_tbl := qi_9_22 (List.mem_of_mem_drop h)
noncomputable def qh_9_24 : List Cond := qh_9_23.drop 40
theorem qi_9_24 {w : Cond} (h : w ∈ qh_9_24) : w ∈ lw_tbl := qi_9_23 (List.mem_of_mem_drop h)
noncomputable def qch (c : Nat) : List Cond := bif Nat.ble 125 c then (bif Nat.ble 187 c then (bif Nat.ble 218 c then (bif Nat.ble 234 c then (bif Nat.ble 242 c then (bif Nat.ble 246 c then (bif Nat.ble 248 c then (bif Nat.ble 249 c then (qh_9_24) else (qh_9_23)) else (bif Nat.ble 247 c then (qh_9_22) else (qh_9_21))) else (bif Nat.ble 244 c then (bif Nat.ble 245 c then (qh_9_20) else (qh_9_19)) else (bif Nat.ble 243 c then (qh_9_18) else (qh_9_17)))) else (bif Nat.ble 238 c then (bif Nat.ble 240 c then (bif Nat.ble 241 c then (qh_9_16) else (qh_9_15)) else (bif Nat.ble 239 c then (qh_9_14) else (qh_9_13))) else (bif Nat.ble 236 c then (bif Nat.ble 237 c then (qh_9_12) else (qh_9_11)) else (bif Nat.ble 235 c then (qh_9_10) else (qh_9_9))))) else (bif Nat.ble 226 c then (bif Nat.ble 230 c then (bif Nat.ble 232 c then (bif Nat.ble 233 c then (qh_9_8) else (qh_9_7)) else (bif Nat.ble 231 c then (qh_9_6) else (qh_9_5))) else (bif Nat.ble 228 c then (bif Nat.ble 229 c then (qh_9_4) else (qh_9_3)) else (bif Nat.ble 227 c then (qh_9_2) else (qh_9_1)))) else (bif Nat.ble 222 c then (bif Nat.ble 224 c then (bif Nat.ble 225 c then (qh_9_0) else (qh_8_24)) else (bif Nat.ble 223 c then (qh_8_23) else (qh_8_22))) else (bif Nat.ble 220 c then (bif Nat.ble 221 c then (qh_8_21) else (qh_8_20)) else (bif Nat.ble 219 c then (qh_8_19) else (qh_8_18)))))) else (bif Nat.ble 202 c then (bif Nat.ble 210 c then (bif Nat.ble 214 c then (bif Nat.ble 216 c then (bif Nat.ble 217 c then (qh_8_17) else (qh_8_16)) else (bif Nat.ble 215 c then (qh_8_15) else (qh_8_14))) else (bif Nat.ble 212 c then (bif Nat.ble 213 c then (qh_8_13) else (qh_8_12)) else (bif Nat.ble 211 c then (qh_8_11) else (qh_8_10)))) else (bif Nat.ble 206 c then (bif Nat.ble 208 c then (bif Nat.ble 209 c then (qh_8_9) else (qh_8_8)) else (bif Nat.ble 207 c then (qh_8_7) else (qh_8_6))) else (bif Nat.ble 204 c then (bif Nat.ble 205 c then (qh_8_5) else (qh_8_4)) else (bif Nat.ble 203 c then (qh_8_3) else (qh_8_2))))) else (bif Nat.ble 194 c then (bif Nat.ble 198 c then (bif Nat.ble 200 c then (bif Nat.ble 201 c then (qh_8_1) else (qh_8_0)) else (bif Nat.ble 199 c then (qh_7_24) else (qh_7_23))) else (bif Nat.ble 196 c then (bif Nat.ble 197 c then (qh_7_22) else (qh_7_21)) else (bif Nat.ble 195 c then (qh_7_20) else (qh_7_19)))) else (bif Nat.ble 190 c then (bif Nat.ble 192 c then (bif Nat.ble 193 c then (qh_7_18) else (qh_7_17)) else (bif Nat.ble 191 c then (qh_7_16) else (qh_7_15))) else (bif Nat.ble 188 c then (bif Nat.ble 189 c then (qh_7_14) else (qh_7_13)) else (qh_7_12)))))) else (bif Nat.ble 156 c then (bif Nat.ble 171 c then (bif Nat.ble 179 c then (bif Nat.ble 183 c then (bif Nat.ble 185 c then (bif Nat.ble 186 c then (qh_7_11) else (qh_7_10)) else (bif Nat.ble 184 c then (qh_7_9) else (qh_7_8))) else (bif Nat.ble 181 c then (bif Nat.ble 182 c then (qh_7_7) else (qh_7_6)) else (bif Nat.ble 180 c then (qh_7_5) else (qh_7_4)))) else (bif Nat.ble 175 c then (bif Nat.ble 177 c then (bif Nat.ble 178 c then (qh_7_3) else (qh_7_2)) else (bif Nat.ble 176 c then (qh_7_1) else (qh_7_0))) else (bif Nat.ble 173 c then (bif Nat.ble 174 c then (qh_6_24) else (qh_6_23)) else (bif Nat.ble 172 c then (qh_6_22) else (qh_6_21))))) else (bif Nat.ble 163 c then (bif Nat.ble 167 c then (bif Nat.ble 169 c then (bif Nat.ble 170 c then (qh_6_20) else (qh_6_19)) else (bif Nat.ble 168 c then (qh_6_18) else (qh_6_17))) else (bif Nat.ble 165 c then (bif Nat.ble 166 c then (qh_6_16) else (qh_6_15)) else (bif Nat.ble 164 c then (qh_6_14) else (qh_6_13)))) else (bif Nat.ble 159 c then (bif Nat.ble 161 c then (bif Nat.ble 162 c then (qh_6_12) else (qh_6_11)) else (bif Nat.ble 160 c then (qh_6_10) else (qh_6_9))) else (bif Nat.ble 157 c then (bif Nat.ble 158 c then (qh_6_8) else (qh_6_7)) else (qh_6_6))))) else (bif Nat.ble 140 c then (bif Nat.ble 148 c then (bif Nat.ble 152 c then (bif Nat.ble 154 c then (bif Nat.ble 155 c then (qh_6_5) else (qh_6_4)) else (bif Nat.ble 153 c then (qh_6_3) else (qh_6_2))) else (bif Nat.ble 150 c then (bif Nat.ble 151 c then (qh_6_1) else (qh_6_0)) else (bif Nat.ble 149 c then (qh_5_24) else (qh_5_23)))) else (bif Nat.ble 144 c then (bif Nat.ble 146 c then (bif Nat.ble 147 c then (qh_5_22) else (qh_5_21)) else (bif Nat.ble 145 c then (qh_5_20) else (qh_5_19))) else (bif Nat.ble 142 c then (bif Nat.ble 143 c then (qh_5_18) else (qh_5_17)) else (bif Nat.ble 141 c then (qh_5_16) else (qh_5_15))))) else (bif Nat.ble 132 c then (bif Nat.ble 136 c then (bif Nat.ble 138 c then (bif Nat.ble 139 c then (qh_5_14) else (qh_5_13)) else (bif Nat.ble 137 c then (qh_5_12) else (qh_5_11))) else (bif Nat.ble 134 c then (bif Nat.ble 135 c then (qh_5_10) else (qh_5_9)) else (bif Nat.ble 133 c then (qh_5_8) else (qh_5_7)))) else (bif Nat.ble 128 c then (bif Nat.ble 130 c then (bif Nat.ble 131 c then (qh_5_6) else (qh_5_5)) else (bif Nat.ble 129 c then (qh_5_4) else (qh_5_3))) else (bif Nat.ble 126 c then (bif Nat.ble 127 c then (qh_5_2) else (qh_5_1)) else (qh_5_0))))))) else (bif Nat.ble 62 c then (bif Nat.ble 93 c then (bif Nat.ble 109 c then (bif Nat.ble 117 c then (bif Nat.ble 121 c then (bif Nat.ble 123 c then (bif Nat.ble 124 c then (qh_4_24) else (qh_4_23)) else (bif Nat.ble 122 c then (qh_4_22) else (qh_4_21))) else (bif Nat.ble 119 c then (bif Nat.ble 120 c then (qh_4_20) else (qh_4_19)) else (bif Nat.ble 118 c then (qh_4_18) else (qh_4_17)))) else (bif Nat.ble 113 c then (bif Nat.ble 115 c then (bif Nat.ble 116 c then (qh_4_16) else (qh_4_15)) else (bif Nat.ble 114 c then (qh_4_14) else (qh_4_13))) else (bif Nat.ble 111 c then (bif Nat.ble 112 c then (qh_4_12) else (qh_4_11)) else (bif Nat.ble 110 c then (qh_4_10) else (qh_4_9))))) else (bif Nat.ble 101 c then (bif Nat.ble 105 c then (bif Nat.ble 107 c then (bif Nat.ble 108 c then (qh_4_8) else (qh_4_7)) else (bif Nat.ble 106 c then (qh_4_6) else (qh_4_5))) else (bif Nat.ble 103 c then (bif Nat.ble 104 c then (qh_4_4) else (qh_4_3)) else (bif Nat.ble 102 c then (qh_4_2) else (qh_4_1)))) else (bif Nat.ble 97 c then (bif Nat.ble 99 c then (bif Nat.ble 100 c then (qh_4_0) else (qh_3_24)) else (bif Nat.ble 98 c then (qh_3_23) else (qh_3_22))) else (bif Nat.ble 95 c then (bif Nat.ble 96 c then (qh_3_21) else (qh_3_20)) else (bif Nat.ble 94 c then (qh_3_19) else (qh_3_18)))))) else (bif Nat.ble 77 c then (bif Nat.ble 85 c then (bif Nat.ble 89 c then (bif Nat.ble 91 c then (bif Nat.ble 92 c then (qh_3_17) else (qh_3_16)) else (bif Nat.ble 90 c then (qh_3_15) else (qh_3_14))) else (bif Nat.ble 87 c then (bif Nat.ble 88 c then (qh_3_13) else (qh_3_12)) else (bif Nat.ble 86 c then (qh_3_11) else (qh_3_10)))) else (bif Nat.ble 81 c then (bif Nat.ble 83 c then (bif Nat.ble 84 c then (qh_3_9) else (qh_3_8)) else (bif Nat.ble 82 c then (qh_3_7) else (qh_3_6))) else (bif Nat.ble 79 c then (bif Nat.ble 80 c then (qh_3_5) else (qh_3_4)) else (bif Nat.ble 78 c then (qh_3_3) else (qh_3_2))))) else (bif Nat.ble 69 c then (bif Nat.ble 73 c then (bif Nat.ble 75 c then (bif Nat.ble 76 c then (qh_3_1) else (qh_3_0)) else (bif Nat.ble 74 c then (qh_2_24) else (qh_2_23))) else (bif Nat.ble 71 c then (bif Nat.ble 72 c then (qh_2_22) else (qh_2_21)) else (bif Nat.ble 70 c then (qh_2_20) else (qh_2_19)))) else (bif Nat.ble 65 c then (bif Nat.ble 67 c then (bif Nat.ble 68 c then (qh_2_18) else (qh_2_17)) else (bif Nat.ble 66 c then (qh_2_16) else (qh_2_15))) else (bif Nat.ble 63 c then (bif Nat.ble 64 c then (qh_2_14) else (qh_2_13)) else (qh_2_12)))))) else (bif Nat.ble 31 c then (bif Nat.ble 46 c then (bif Nat.ble 54 c then (bif Nat.ble 58 c then (bif Nat.ble 60 c then (bif Nat.ble 61 c then (qh_2_11) else (qh_2_10)) else (bif Nat.ble 59 c then (qh_2_9) else (qh_2_8))) else (bif Nat.ble 56 c then (bif Nat.ble 57 c then (qh_2_7) else (qh_2_6)) else (bif Nat.ble 55 c then (qh_2_5) else (qh_2_4)))) else (bif Nat.ble 50 c then (bif Nat.ble 52 c then (bif Nat.ble 53 c then (qh_2_3) else (qh_2_2)) else (bif Nat.ble 51 c then (qh_2_1) else (qh_2_0))) else (bif Nat.ble 48 c then (bif Nat.ble 49 c then (qh_1_24) else (qh_1_23)) else (bif Nat.ble 47 c then (qh_1_22) else (qh_1_21))))) else (bif Nat.ble 38 c then (bif Nat.ble 42 c then (bif Nat.ble 44 c then (bif Nat.ble 45 c then (qh_1_20) else (qh_1_19)) else (bif Nat.ble 43 c then (qh_1_18) else (qh_1_17))) else (bif Nat.ble 40 c then (bif Nat.ble 41 c then (qh_1_16) else (qh_1_15)) else (bif Nat.ble 39 c then (qh_1_14) else (qh_1_13)))) else (bif Nat.ble 34 c then (bif Nat.ble 36 c then (bif Nat.ble 37 c then (qh_1_12) else (qh_1_11)) else (bif Nat.ble 35 c then (qh_1_10) else (qh_1_9))) else (bif Nat.ble 32 c then (bif Nat.ble 33 c then (qh_1_8) else (qh_1_7)) else (qh_1_6))))) else (bif Nat.ble 15 c then (bif Nat.ble 23 c then (bif Nat.ble 27 c then (bif Nat.ble 29 c then (bif Nat.ble 30 c then (qh_1_5) else (qh_1_4)) else (bif Nat.ble 28 c then (qh_1_3) else (qh_1_2))) else (bif Nat.ble 25 c then (bif Nat.ble 26 c then (qh_1_1) else (qh_1_0)) else (bif Nat.ble 24 c then (qh_0_24) else (qh_0_23)))) else (bif Nat.ble 19 c then (bif Nat.ble 21 c then (bif Nat.ble 22 c then (qh_0_22) else (qh_0_21)) else (bif Nat.ble 20 c then (qh_0_20) else (qh_0_19))) else (bif Nat.ble 17 c then (bif Nat.ble 18 c then (qh_0_18) else (qh_0_17)) else (bif Nat.ble 16 c then (qh_0_16) else (qh_0_15))))) else (bif Nat.ble 7 c then (bif Nat.ble 11 c then (bif Nat.ble 13 c then (bif Nat.ble 14 c then (qh_0_14) else (qh_0_13)) else (bif Nat.ble 12 c then (qh_0_12) else (qh_0_11))) else (bif Nat.ble 9 c then (bif Nat.ble 10 c then (qh_0_10) else (qh_0_9)) else (bif Nat.ble 8 c then (qh_0_8) else (qh_0_7)))) else (bif Nat.ble 3 c then (bif Nat.ble 5 c then (bif Nat.ble 6 c then (qh_0_6) else (qh_0_5)) else (bif Nat.ble 4 c then (qh_0_4) else (qh_0_3))) else (bif Nat.ble 1 c then (bif Nat.ble 2 c then (qh_0_2) else (qh_0_1)) else (qh_0_0)))))))
theorem qh_c {b : Bool} {x y : List Cond} {w : Cond} {P : Prop} (h : w ∈ (bif b then x else y)) (hx : w ∈ x → P) (hy : w ∈ y → P) : P := by
  cases b
  · exact hy h
  · exact hx h
theorem qch_in {c : Nat} {w : Cond} (h : w ∈ qch c) : w ∈ lw_tbl := qh_c h (fun h => qh_c h (fun h => qh_c h (fun h => qh_c h (fun h => qh_c h (fun h => qh_c h (fun h => qh_c h (fun h => qh_c h (fun h => qi_9_24 h) (fun h => qi_9_23 h)) (fun h => qh_c h (fun h => qi_9_22 h) (fun h => qi_9_21 h))) (fun h => qh_c h (fun h => qh_c h (fun h => qi_9_20 h) (fun h => qi_9_19 h)) (fun h => qh_c h (fun h => qi_9_18 h) (fun h => qi_9_17 h)))) (fun h => qh_c h (fun h => qh_c h (fun h => qh_c h (fun h => qi_9_16 h) (fun h => qi_9_15 h)) (fun h => qh_c h (fun h => qi_9_14 h) (fun h => qi_9_13 h))) (fun h => qh_c h (fun h => qh_c h (fun h => qi_9_12 h) (fun h => qi_9_11 h)) (fun h => qh_c h (fun h => qi_9_10 h) (fun h => qi_9_9 h))))) (fun h => qh_c h (fun h => qh_c h (fun h => qh_c h (fun h => qh_c h (fun h => qi_9_8 h) (fun h => qi_9_7 h)) (fun h => qh_c h (fun h => qi_9_6 h) (fun h => qi_9_5 h))) (fun h => qh_c h (fun h => qh_c h (fun h => qi_9_4 h) (fun h => qi_9_3 h)) (fun h => qh_c h (fun h => qi_9_2 h) (fun h => qi_9_1 h)))) (fun h => qh_c h (fun h => qh_c h (fun h => qh_c h (fun h => qi_9_0 h) (fun h => qi_8_24 h)) (fun h => qh_c h (fun h => qi_8_23 h) (fun h => qi_8_22 h))) (fun h => qh_c h (fun h => qh_c h (fun h => qi_8_21 h) (fun h => qi_8_20 h)) (fun h => qh_c h (fun h => qi_8_19 h) (fun h => qi_8_18 h)))))) (fun h => qh_c h (fun h => qh_c h (fun h => qh_c h (fun h => qh_c h (fun h => qh_c h (fun h => qi_8_17 h) (fun h => qi_8_16 h)) (fun h => qh_c h (fun h => qi_8_15 h) (fun h => qi_8_14 h))) (fun h => qh_c h (fun h => qh_c h (fun h => qi_8_13 h) (fun h => qi_8_12 h)) (fun h => qh_c h (fun h => qi_8_11 h) (fun h => qi_8_10 h)))) (fun h => qh_c h (fun h => qh_c h (fun h => qh_c h (fun h => qi_8_9 h) (fun h => qi_8_8 h)) (fun h => qh_c h (fun h => qi_8_7 h) (fun h => qi_8_6 h))) (fun h => qh_c h (fun h => qh_c h (fun h => qi_8_5 h) (fun h => qi_8_4 h)) (fun h => qh_c h (fun h => qi_8_3 h) (fun h => qi_8_2 h))))) (fun h => qh_c h (fun h => qh_c h (fun h => qh_c h (fun h => qh_c h (fun h => qi_8_1 h) (fun h => qi_8_0 h)) (fun h => qh_c h (fun h => qi_7_24 h) (fun h => qi_7_23 h))) (fun h => qh_c h (fun h => qh_c h (fun h => qi_7_22 h) (fun h => qi_7_21 h)) (fun h => qh_c h (fun h => qi_7_20 h) (fun h => qi_7_19 h)))) (fun h => qh_c h (fun h => qh_c h (fun h => qh_c h (fun h => qi_7_18 h) (fun h => qi_7_17 h)) (fun h => qh_c h (fun h => qi_7_16 h) (fun h => qi_7_15 h))) (fun h => qh_c h (fun h => qh_c h (fun h => qi_7_14 h) (fun h => qi_7_13 h)) (fun h => qi_7_12 h)))))) (fun h => qh_c h (fun h => qh_c h (fun h => qh_c h (fun h => qh_c h (fun h => qh_c h (fun h => qh_c h (fun h => qi_7_11 h) (fun h => qi_7_10 h)) (fun h => qh_c h (fun h => qi_7_9 h) (fun h => qi_7_8 h))) (fun h => qh_c h (fun h => qh_c h (fun h => qi_7_7 h) (fun h => qi_7_6 h)) (fun h => qh_c h (fun h => qi_7_5 h) (fun h => qi_7_4 h)))) (fun h => qh_c h (fun h => qh_c h (fun h => qh_c h (fun h => qi_7_3 h) (fun h => qi_7_2 h)) (fun h => qh_c h (fun h => qi_7_1 h) (fun h => qi_7_0 h))) (fun h => qh_c h (fun h => qh_c h (fun h => qi_6_24 h) (fun h => qi_6_23 h)) (fun h => qh_c h (fun h => qi_6_22 h) (fun h => qi_6_21 h))))) (fun h => qh_c h (fun h => qh_c h (fun h => qh_c h (fun h => qh_c h (fun h => qi_6_20 h) (fun h => qi_6_19 h)) (fun h => qh_c h (fun h => qi_6_18 h) (fun h => qi_6_17 h))) (fun h => qh_c h (fun h => qh_c h (fun h => qi_6_16 h) (fun h => qi_6_15 h)) (fun h => qh_c h (fun h => qi_6_14 h) (fun h => qi_6_13 h)))) (fun h => qh_c h (fun h => qh_c h (fun h => qh_c h (fun h => qi_6_12 h) (fun h => qi_6_11 h)) (fun h => qh_c h (fun h => qi_6_10 h) (fun h => qi_6_9 h))) (fun h => qh_c h (fun h => qh_c h (fun h => qi_6_8 h) (fun h => qi_6_7 h)) (fun h => qi_6_6 h))))) (fun h => qh_c h (fun h => qh_c h (fun h => qh_c h (fun h => qh_c h (fun h => qh_c h (fun h => qi_6_5 h) (fun h => qi_6_4 h)) (fun h => qh_c h (fun h => qi_6_3 h) (fun h => qi_6_2 h))) (fun h => qh_c h (fun h => qh_c h (fun h => qi_6_1 h) (fun h => qi_6_0 h)) (fun h => qh_c h (fun h => qi_5_24 h) (fun h => qi_5_23 h)))) (fun h => qh_c h (fun h => qh_c h (fun h => qh_c h (fun h => qi_5_22 h) (fun h => qi_5_21 h)) (fun h => qh_c h (fun h => qi_5_20 h) (fun h => qi_5_19 h))) (fun h => qh_c h (fun h => qh_c h (fun h => qi_5_18 h) (fun h => qi_5_17 h)) (fun h => qh_c h (fun h => qi_5_16 h) (fun h => qi_5_15 h))))) (fun h => qh_c h (fun h => qh_c h (fun h => qh_c h (fun h => qh_c h (fun h => qi_5_14 h) (fun h => qi_5_13 h)) (fun h => qh_c h (fun h => qi_5_12 h) (fun h => qi_5_11 h))) (fun h => qh_c h (fun h => qh_c h (fun h => qi_5_10 h) (fun h => qi_5_9 h)) (fun h => qh_c h (fun h => qi_5_8 h) (fun h => qi_5_7 h)))) (fun h => qh_c h (fun h => qh_c h (fun h => qh_c h (fun h => qi_5_6 h) (fun h => qi_5_5 h)) (fun h => qh_c h (fun h => qi_5_4 h) (fun h => qi_5_3 h))) (fun h => qh_c h (fun h => qh_c h (fun h => qi_5_2 h) (fun h => qi_5_1 h)) (fun h => qi_5_0 h))))))) (fun h => qh_c h (fun h => qh_c h (fun h => qh_c h (fun h => qh_c h (fun h => qh_c h (fun h => qh_c h (fun h => qh_c h (fun h => qi_4_24 h) (fun h => qi_4_23 h)) (fun h => qh_c h (fun h => qi_4_22 h) (fun h => qi_4_21 h))) (fun h => qh_c h (fun h => qh_c h (fun h => qi_4_20 h) (fun h => qi_4_19 h)) (fun h => qh_c h (fun h => qi_4_18 h) (fun h => qi_4_17 h)))) (fun h => qh_c h (fun h => qh_c h (fun h => qh_c h (fun h => qi_4_16 h) (fun h => qi_4_15 h)) (fun h => qh_c h (fun h => qi_4_14 h) (fun h => qi_4_13 h))) (fun h => qh_c h (fun h => qh_c h (fun h => qi_4_12 h) (fun h => qi_4_11 h)) (fun h => qh_c h (fun h => qi_4_10 h) (fun h => qi_4_9 h))))) (fun h => qh_c h (fun h => qh_c h (fun h => qh_c h (fun h => qh_c h (fun h => qi_4_8 h) (fun h => qi_4_7 h)) (fun h => qh_c h (fun h => qi_4_6 h) (fun h => qi_4_5 h))) (fun h => qh_c h (fun h => qh_c h (fun h => qi_4_4 h) (fun h => qi_4_3 h)) (fun h => qh_c h (fun h => qi_4_2 h) (fun h => qi_4_1 h)))) (fun h => qh_c h (fun h => qh_c h (fun h => qh_c h (fun h => qi_4_0 h) (fun h => qi_3_24 h)) (fun h => qh_c h (fun h => qi_3_23 h) (fun h => qi_3_22 h))) (fun h => qh_c h (fun h => qh_c h (fun h => qi_3_21 h) (fun h => qi_3_20 h)) (fun h => qh_c h (fun h => qi_3_19 h) (fun h => qi_3_18 h)))))) (fun h => qh_c h (fun h => qh_c h (fun h => qh_c h (fun h => qh_c h (fun h => qh_c h (fun h => qi_3_17 h) (fun h => qi_3_16 h)) (fun h => qh_c h (fun h => qi_3_15 h) (fun h => qi_3_14 h))) (fun h => qh_c h (fun h => qh_c h (fun h => qi_3_13 h) (fun h => qi_3_12 h)) (fun h => qh_c h (fun h => qi_3_11 h) (fun h => qi_3_10 h)))) (fun h => qh_c h (fun h => qh_c h (fun h => qh_c h (fun h => qi_3_9 h) (fun h => qi_3_8 h)) (fun h => qh_c h (fun h => qi_3_7 h) (fun h => qi_3_6 h))) (fun h => qh_c h (fun h => qh_c h (fun h => qi_3_5 h) (fun h => qi_3_4 h)) (fun h => qh_c h (fun h => qi_3_3 h) (fun h => qi_3_2 h))))) (fun h => qh_c h (fun h => qh_c h (fun h => qh_c h (fun h => qh_c h (fun h => qi_3_1 h) (fun h => qi_3_0 h)) (fun h => qh_c h (fun h => qi_2_24 h) (fun h => qi_2_23 h))) (fun h => qh_c h (fun h => qh_c h (fun h => qi_2_22 h) (fun h => qi_2_21 h)) (fun h => qh_c h (fun h => qi_2_20 h) (fun h => qi_2_19 h)))) (fun h => qh_c h (fun h => qh_c h (fun h => qh_c h (fun h => qi_2_18 h) (fun h => qi_2_17 h)) (fun h => qh_c h (fun h => qi_2_16 h) (fun h => qi_2_15 h))) (fun h => qh_c h (fun h => qh_c h (fun h => qi_2_14 h) (fun h => qi_2_13 h)) (fun h => qi_2_12 h)))))) (fun h => qh_c h (fun h => qh_c h (fun h => qh_c h (fun h => qh_c h (fun h => qh_c h (fun h => qh_c h (fun h => qi_2_11 h) (fun h => qi_2_10 h)) (fun h => qh_c h (fun h => qi_2_9 h) (fun h => qi_2_8 h))) (fun h => qh_c h (fun h => qh_c h (fun h => qi_2_7 h) (fun h => qi_2_6 h)) (fun h => qh_c h (fun h => qi_2_5 h) (fun h => qi_2_4 h)))) (fun h => qh_c h (fun h => qh_c h (fun h => qh_c h (fun h => qi_2_3 h) (fun h => qi_2_2 h)) (fun h => qh_c h (fun h => qi_2_1 h) (fun h => qi_2_0 h))) (fun h => qh_c h (fun h => qh_c h (fun h => qi_1_24 h) (fun h => qi_1_23 h)) (fun h => qh_c h (fun h => qi_1_22 h) (fun h => qi_1_21 h))))) (fun h => qh_c h (fun h => qh_c h (fun h => qh_c h (fun h => qh_c h (fun h => qi_1_20 h) (fun h => qi_1_19 h)) (fun h => qh_c h (fun h => qi_1_18 h) (fun h => qi_1_17 h))) (fun h => qh_c h (fun h => qh_c h (fun h => qi_1_16 h) (fun h => qi_1_15 h)) (fun h => qh_c h (fun h => qi_1_14 h) (fun h => qi_1_13 h)))) (fun h => qh_c h (fun h => qh_c h (fun h => qh_c h (fun h => qi_1_12 h) (fun h => qi_1_11 h)) (fun h => qh_c h (fun h => qi_1_10 h) (fun h => qi_1_9 h))) (fun h => qh_c h (fun h => qh_c h (fun h => qi_1_8 h) (fun h => qi_1_7 h)) (fun h => qi_1_6 h))))) (fun h => qh_c h (fun h => qh_c h (fun h => qh_c h (fun h => qh_c h (fun h => qh_c h (fun h => qi_1_5 h) (fun h => qi_1_4 h)) (fun h => qh_c h (fun h => qi_1_3 h) (fun h => qi_1_2 h))) (fun h => qh_c h (fun h => qh_c h (fun h => qi_1_1 h) (fun h => qi_1_0 h)) (fun h => qh_c h (fun h => qi_0_24 h) (fun h => qi_0_23 h)))) (fun h => qh_c h (fun h => qh_c h (fun h => qh_c h (fun h => qi_0_22 h) (fun h => qi_0_21 h)) (fun h => qh_c h (fun h => qi_0_20 h) (fun h => qi_0_19 h))) (fun h => qh_c h (fun h => qh_c h (fun h => qi_0_18 h) (fun h => qi_0_17 h)) (fun h => qh_c h (fun h => qi_0_16 h) (fun h => qi_0_15 h))))) (fun h => qh_c h (fun h => qh_c h (fun h => qh_c h (fun h => qh_c h (fun h => qi_0_14 h) (fun h => qi_0_13 h)) (fun h => qh_c h (fun h => qi_0_12 h) (fun h => qi_0_11 h))) (fun h => qh_c h (fun h => qh_c h (fun h => qi_0_10 h) (fun h => qi_0_9 h)) (fun h => qh_c h (fun h => qi_0_8 h) (fun h => qi_0_7 h)))) (fun h => qh_c h (fun h => qh_c h (fun h => qh_c h (fun h => qi_0_6 h) (fun h => qi_0_5 h)) (fun h => qh_c h (fun h => qi_0_4 h) (fun h => qi_0_3 h))) (fun h => qh_c h (fun h => qh_c h (fun h => qi_0_2 h) (fun h => qi_0_1 h)) (fun h => qi_0_0 h)))))))
noncomputable def qwa (i : Nat) : Option Cond := (qch (i / 40))[i % 40]?
theorem qwa_in {i : Nat} {w : Cond} (h : qwa i = some w) : w ∈ lw_tbl := qch_in (List.mem_of_getElem? h)
noncomputable def qwd1 (i : Nat) (w : Cond) : Bool := match qwa i with
  | some v => decide (v = w) && goodWord w
  | none => false
theorem qwd1_in {i : Nat} {w : Cond} (h : qwd1 i w = true) : w ∈ lw_tbl.filter goodWord := by
  unfold qwd1 at h
  split at h
  · rename_i v hv
    simp only [Bool.and_eq_true, decide_eq_true_eq] at h
    obtain ⟨rfl, h2⟩ := h
    exact List.mem_filter.mpr ⟨qwa_in hv, h2⟩
  · cases h
theorem qwds_in {ws : List Cond} (ps : List Nat) (hp : ws = ps.filterMap qwa) (h : ws.all goodWord = true) : ∀ w ∈ ws, w ∈ lw_tbl.filter goodWord := by
  intro w hw
  have h1 := List.all_eq_true.mp h w hw
  rw [hp] at hw
  obtain ⟨i, -, hi⟩ := List.mem_filterMap.mp hw
  exact List.mem_filter.mpr ⟨qwa_in hi, h1⟩
theorem qwT0 : ∀ w ∈ u_ws RX0 TX0 5, w ∈ lw_tbl.filter goodWord := qwds_in [2077, 2079, 2081, 2083, 2085] (by decide +kernel) (by decide +kernel)
theorem qwT1 : ∀ w ∈ u_ws RX1 TX1 3, w ∈ lw_tbl.filter goodWord := qwds_in [2009, 2011, 2013] (by decide +kernel) (by decide +kernel)
theorem qwT2 : ∀ w ∈ u_ws RX2 TX2 6, w ∈ lw_tbl.filter goodWord := qwds_in [2124, 2126, 2128, 2130, 2132, 2134] (by decide +kernel) (by decide +kernel)
theorem qwT3 : ∀ w ∈ u_ws RX3 TX3 16, w ∈ lw_tbl.filter goodWord := qwds_in [1207, 1209, 1211, 1213, 1215, 1217, 1219, 1221, 1223, 1225, 1227, 1229, 1231, 1233, 1235, 1237] (by decide +kernel) (by decide +kernel)
theorem qwT4 : ∀ w ∈ u_ws RX4 TX4 14, w ∈ lw_tbl.filter goodWord := qwds_in [2037, 2039, 2041, 2043, 2045, 2047, 2049, 2051, 2053, 2055, 2057, 2059, 2061, 2063] (by decide +kernel) (by decide +kernel)
theorem qwT5 : ∀ w ∈ u_ws RX5 TX5 11, w ∈ lw_tbl.filter goodWord := qwds_in [1134, 1136, 1138, 1140, 1142, 1144, 1146, 1148, 1150, 1152, 1154] (by decide +kernel) (by decide +kernel)
theorem qwT6 : ∀ w ∈ u_ws RX6 TX6 6, w ∈ lw_tbl.filter goodWord := qwds_in [1175, 1177, 1179, 1181, 1183, 1185] (by decide +kernel) (by decide +kernel)
theorem qwT7 : ∀ w ∈ u_ws RX7 TX7 10, w ∈ lw_tbl.filter goodWord := qwds_in [1050, 1052, 1054, 1056, 1058, 1060, 1062, 1064, 1066, 1068] (by decide +kernel) (by decide +kernel)
theorem qwT8 : ∀ w ∈ u_ws RX8 TX8 2, w ∈ lw_tbl.filter goodWord := qwds_in [1118, 1120] (by decide +kernel) (by decide +kernel)
theorem qwT9 : ∀ w ∈ u_ws RX9 TX9 8, w ∈ lw_tbl.filter goodWord := qwds_in [1086, 1088, 1090, 1092, 1094, 1096, 1098, 1100] (by decide +kernel) (by decide +kernel)
theorem qwT10 : ∀ w ∈ u_ws RX10 TX10 4, w ∈ lw_tbl.filter goodWord := qwds_in [2098, 2100, 2102, 2104] (by decide +kernel) (by decide +kernel)
theorem qwT11 : ∀ w ∈ u_ws RX11 TX11 10, w ∈ lw_tbl.filter goodWord := qwds_in [2147, 2149, 2151, 2153, 2155, 2157, 2159, 2161, 2163, 2165] (by decide +kernel) (by decide +kernel)
theorem qwT12 : ∀ w ∈ u_ws RX12 TX12 80, w ∈ lw_tbl.filter goodWord := qwds_in [6225, 6227, 6229, 6231, 6233, 6235, 6237, 6239, 7001, 7003, 7005, 7007, 7009, 7011, 7013, 7015, 7017, 7019, 7021, 7023, 7025, 7027, 7029, 7031, 7033, 7035, 7037, 7039, 7041, 7043, 7045, 7047, 7049, 7051, 7053, 7055, 7057, 7059, 7061, 7063, 7065, 7067, 7069, 7071, 7073, 7075, 7077, 7079, 7081, 7083, 7085, 7087, 7089, 7091, 7093, 7095, 7097, 7099, 7101, 7103, 7105, 7107, 7109, 7111, 7113, 7115, 7117, 7119, 7121, 7123, 7125, 7127, 7129, 7131, 7133, 7135, 7137, 7139, 7141, 7143] (by decide +kernel) (by decide +kernel)
theorem qwT_in {c : Nat} (h : c < 13) : ∀ w ∈ u_ws (qcn c) (qT c) (qNf c), w ∈ lw_tbl.filter goodWord := by
  rcases (show c = 0 ∨ c = 1 ∨ c = 2 ∨ c = 3 ∨ c = 4 ∨ c = 5 ∨ c = 6 ∨ c = 7 ∨ c = 8 ∨ c = 9 ∨ c = 10 ∨ c = 11 ∨ c = 12 by omega) with rfl | rfl | rfl | rfl | rfl | rfl | rfl | rfl | rfl | rfl | rfl | rfl | rfl
  · exact qwT0
  · exact qwT1
  · exact qwT2
  · exact qwT3
  · exact qwT4
  · exact qwT5
  · exact qwT6
  · exact qwT7
  · exact qwT8
  · exact qwT9
  · exact qwT10
  · exact qwT11
  · exact qwT12
theorem qcl_at {c : Nat} (h : c < 13) : vwCl[c]? = some (qcn c, qT c, qNf c) := by
  rcases (show c = 0 ∨ c = 1 ∨ c = 2 ∨ c = 3 ∨ c = 4 ∨ c = 5 ∨ c = 6 ∨ c = 7 ∨ c = 8 ∨ c = 9 ∨ c = 10 ∨ c = 11 ∨ c = 12 by omega) with rfl | rfl | rfl | rfl | rfl | rfl | rfl | rfl | rfl | rfl | rfl | rfl | rfl
  · rfl
  · rfl
  · rfl
  · rfl
  · rfl
  · rfl
  · rfl
  · rfl
  · rfl
  · rfl
  · rfl
  · rfl
  · rfl
theorem qnm_ok {c : Nat} (h : c < 13) : ∀ a, a < qNf c → ∀ b, b < qNf c → a ≠ b → (qT c a).2.1 ≠ (qT c b).2.1 := by
  rcases (show c = 0 ∨ c = 1 ∨ c = 2 ∨ c = 3 ∨ c = 4 ∨ c = 5 ∨ c = 6 ∨ c = 7 ∨ c = 8 ∨ c = 9 ∨ c = 10 ∨ c = 11 ∨ c = 12 by omega) with rfl | rfl | rfl | rfl | rfl | rfl | rfl | rfl | rfl | rfl | rfl | rfl | rfl
  · exact nmX0
  · exact nmX1
  · exact nmX2
  · exact nmX3
  · exact nmX4
  · exact nmX5
  · exact nmX6
  · exact nmX7
  · exact nmX8
  · exact nmX9
  · exact nmX10
  · exact nmX11
  · exact nmX12
theorem qty_ok {c : Nat} (h : c < 13) : ∀ k, k < qNf c → parseFieldDescriptor (qT c k).2.2.1 = some (qty c k) := by
  rcases (show c = 0 ∨ c = 1 ∨ c = 2 ∨ c = 3 ∨ c = 4 ∨ c = 5 ∨ c = 6 ∨ c = 7 ∨ c = 8 ∨ c = 9 ∨ c = 10 ∨ c = 11 ∨ c = 12 by omega) with rfl | rfl | rfl | rfl | rfl | rfl | rfl | rfl | rfl | rfl | rfl | rfl | rfl
  · exact tyX0_ok
  · exact tyX1_ok
  · exact tyX2_ok
  · exact tyX3_ok
  · exact tyX4_ok
  · exact tyX5_ok
  · exact tyX6_ok
  · exact tyX7_ok
  · exact tyX8_ok
  · exact tyX9_ok
  · exact tyX10_ok
  · exact tyX11_ok
  · exact tyX12_ok
noncomputable def qtyk (ty : FieldType) (kd : Nat) : Bool := match ty, kd with
  | .int, 0 => true
  | .long, 1 => true
  | .object _, 2 => true
  | .array _, 2 => true
  | .boolean, 3 => true
  | _, _ => false
noncomputable def qckF (o i : Nat) : Bool := match qfd o i with
  | none => true
  | some (ci, j, kd, fin) => Nat.blt ci 13 && Nat.blt j (qNf ci) && qwd1 (qfp o i) (.fieldLink (qcn o) i (qT ci j).1 (qT ci j).2.1 (qT ci j).2.2.1) && Nat.beq kd (qfk ci j) && qtyk (qty ci j) kd && decide ((qT ci j).2.2.2 = Nat.beq fin 1) && (Nat.beq fin 0 || decide ((qT ci j).1 = qcn o))
noncomputable def qall (a b : Nat) (f : Nat → Nat → Bool) : Bool := (List.range a).all (fun o => (List.range b).all (fun i => f o i))
theorem qall_of {a b : Nat} {f : Nat → Nat → Bool} (h : qall a b f = true) {o i : Nat} (ho : o < a) (hi : i < b) : f o i = true :=
  List.all_eq_true.mp (List.all_eq_true.mp h o (List.mem_range.mpr ho)) i (List.mem_range.mpr hi)
theorem qckF_all : qall 16 800 qckF = true := by decide +kernel
noncomputable def qckM (o i : Nat) : Bool := match qmd o i with
  | none => true
  | some (t, na, sk) => if t = 900 then Nat.beq na 1 && qwd1 (qmp o i) (.methodLink (qcn o) i objectInit)
    else if t = 901 then Nat.beq na 5 && qwd1 (qmp o i) (.methodLink (qcn o) i arraycopyName)
    else if t = 902 then Nat.beq na 1 && qwd1 (qmp o i) (.methodLink (qcn o) i Lib.Math.abs.name)
    else if t = 903 then Nat.beq na 2 && qwd1 (qmp o i) (.methodLink (qcn o) i Lib.Math.max.name)
    else if t = 904 then Nat.beq na 2 && qwd1 (qmp o i) (.methodLink (qcn o) i Lib.Math.min.name)
    else if t = 905 then Nat.beq na 2 && qwd1 (qmp o i) (.methodLink (qcn o) i Lib.MathLoose.max_long.x)
    else if t = 906 then Nat.beq na 1 && qwd1 (qmp o i) (.methodLink (qcn o) i yJ0_length_8abf5)
    else if t = 907 then Nat.beq na 2 && qwd1 (qmp o i) (.methodLink (qcn o) i yJ0_charAt_5068e)
    else if t = 908 then Nat.beq na 2 && qwd1 (qmp o i) (.methodLink (qcn o) i yJ0_indexOf_0f7a4)
    else Nat.blt t 305 && Nat.beq na (qnp t + (if sk = 0 then 0 else 1)) && decide (qis t = Nat.beq sk 0) && (match sk with
      | 2 => decide (qwa (qmp o i) = some (.methodLinkNest (qcn o) i (qnm t) RX11))
      | _ => qwd1 (qmp o i) (.methodLink (qcn o) i (qnm t)))

theorem qckM_0_0 : (List.range 800).all (fun j => qckM 0 (0 + j)) = true := by decide +kernel
theorem qckM_0 {t : Nat} (h : t < 800) : qckM 0 t = true := by
  by_cases h0 : t < 800
  · have := List.all_eq_true.mp qckM_0_0 (t - 0) (List.mem_range.mpr (by omega))
    rwa [show 0 + (t - 0) = t by omega] at this
  omega
theorem qckM_1_0 : (List.range 800).all (fun j => qckM 1 (0 + j)) = true := by decide +kernel
theorem qckM_1 {t : Nat} (h : t < 800) : qckM 1 t = true := by
  by_cases h0 : t < 800
  · have := List.all_eq_true.mp qckM_1_0 (t - 0) (List.mem_range.mpr (by omega))
    rwa [show 0 + (t - 0) = t by omega] at this
  omega
theorem qckM_2_0 : (List.range 800).all (fun j => qckM 2 (0 + j)) = true := by decide +kernel
theorem qckM_2 {t : Nat} (h : t < 800) : qckM 2 t = true := by
  by_cases h0 : t < 800
  · have := List.all_eq_true.mp qckM_2_0 (t - 0) (List.mem_range.mpr (by omega))
    rwa [show 0 + (t - 0) = t by omega] at this
  omega
theorem qckM_3_0 : (List.range 800).all (fun j => qckM 3 (0 + j)) = true := by decide +kernel
theorem qckM_3 {t : Nat} (h : t < 800) : qckM 3 t = true := by
  by_cases h0 : t < 800
  · have := List.all_eq_true.mp qckM_3_0 (t - 0) (List.mem_range.mpr (by omega))
    rwa [show 0 + (t - 0) = t by omega] at this
  omega
theorem qckM_4_0 : (List.range 800).all (fun j => qckM 4 (0 + j)) = true := by decide +kernel
theorem qckM_4 {t : Nat} (h : t < 800) : qckM 4 t = true := by
  by_cases h0 : t < 800
  · have := List.all_eq_true.mp qckM_4_0 (t - 0) (List.mem_range.mpr (by omega))
    rwa [show 0 + (t - 0) = t by omega] at this
  omega
theorem qckM_5_0 : (List.range 800).all (fun j => qckM 5 (0 + j)) = true := by decide +kernel
theorem qckM_5 {t : Nat} (h : t < 800) : qckM 5 t = true := by
  by_cases h0 : t < 800
  · have := List.all_eq_true.mp qckM_5_0 (t - 0) (List.mem_range.mpr (by omega))
    rwa [show 0 + (t - 0) = t by omega] at this
  omega
theorem qckM_6_0 : (List.range 800).all (fun j => qckM 6 (0 + j)) = true := by decide +kernel
theorem qckM_6 {t : Nat} (h : t < 800) : qckM 6 t = true := by
  by_cases h0 : t < 800
  · have := List.all_eq_true.mp qckM_6_0 (t - 0) (List.mem_range.mpr (by omega))
    rwa [show 0 + (t - 0) = t by omega] at this
  omega
theorem qckM_7_0 : (List.range 800).all (fun j => qckM 7 (0 + j)) = true := by decide +kernel
theorem qckM_7 {t : Nat} (h : t < 800) : qckM 7 t = true := by
  by_cases h0 : t < 800
  · have := List.all_eq_true.mp qckM_7_0 (t - 0) (List.mem_range.mpr (by omega))
    rwa [show 0 + (t - 0) = t by omega] at this
  omega
theorem qckM_8_0 : (List.range 800).all (fun j => qckM 8 (0 + j)) = true := by decide +kernel
theorem qckM_8 {t : Nat} (h : t < 800) : qckM 8 t = true := by
  by_cases h0 : t < 800
  · have := List.all_eq_true.mp qckM_8_0 (t - 0) (List.mem_range.mpr (by omega))
    rwa [show 0 + (t - 0) = t by omega] at this
  omega
theorem qckM_9_0 : (List.range 800).all (fun j => qckM 9 (0 + j)) = true := by decide +kernel
theorem qckM_9 {t : Nat} (h : t < 800) : qckM 9 t = true := by
  by_cases h0 : t < 800
  · have := List.all_eq_true.mp qckM_9_0 (t - 0) (List.mem_range.mpr (by omega))
    rwa [show 0 + (t - 0) = t by omega] at this
  omega
theorem qckM_10_0 : (List.range 800).all (fun j => qckM 10 (0 + j)) = true := by decide +kernel
theorem qckM_10 {t : Nat} (h : t < 800) : qckM 10 t = true := by
  by_cases h0 : t < 800
  · have := List.all_eq_true.mp qckM_10_0 (t - 0) (List.mem_range.mpr (by omega))
    rwa [show 0 + (t - 0) = t by omega] at this
  omega
theorem qckM_11_0 : (List.range 200).all (fun j => qckM 11 (0 + j)) = true := by decide +kernel
theorem qckM_11_1 : (List.range 600).all (fun j => qckM 11 (200 + j)) = true := by decide +kernel
theorem qckM_11 {t : Nat} (h : t < 800) : qckM 11 t = true := by
  by_cases h0 : t < 200
  · have := List.all_eq_true.mp qckM_11_0 (t - 0) (List.mem_range.mpr (by omega))
    rwa [show 0 + (t - 0) = t by omega] at this
  by_cases h1 : t < 800
  · have := List.all_eq_true.mp qckM_11_1 (t - 200) (List.mem_range.mpr (by omega))
    rwa [show 200 + (t - 200) = t by omega] at this
  omega
theorem qckM_12_0 : (List.range 418).all (fun j => qckM 12 (0 + j)) = true := by decide +kernel
theorem qckM_12_1 : (List.range 382).all (fun j => qckM 12 (418 + j)) = true := by decide +kernel
theorem qckM_12 {t : Nat} (h : t < 800) : qckM 12 t = true := by
  by_cases h0 : t < 418
  · have := List.all_eq_true.mp qckM_12_0 (t - 0) (List.mem_range.mpr (by omega))
    rwa [show 0 + (t - 0) = t by omega] at this
  by_cases h1 : t < 800
  · have := List.all_eq_true.mp qckM_12_1 (t - 418) (List.mem_range.mpr (by omega))
    rwa [show 418 + (t - 418) = t by omega] at this
  omega
theorem qckM_13_0 : (List.range 800).all (fun j => qckM 13 (0 + j)) = true := by decide +kernel
theorem qckM_13 {t : Nat} (h : t < 800) : qckM 13 t = true := by
  by_cases h0 : t < 800
  · have := List.all_eq_true.mp qckM_13_0 (t - 0) (List.mem_range.mpr (by omega))
    rwa [show 0 + (t - 0) = t by omega] at this
  omega
theorem qckM_14_0 : (List.range 800).all (fun j => qckM 14 (0 + j)) = true := by decide +kernel
theorem qckM_14 {t : Nat} (h : t < 800) : qckM 14 t = true := by
  by_cases h0 : t < 800
  · have := List.all_eq_true.mp qckM_14_0 (t - 0) (List.mem_range.mpr (by omega))
    rwa [show 0 + (t - 0) = t by omega] at this
  omega
theorem qckM_15_0 : (List.range 112).all (fun j => qckM 15 (0 + j)) = true := by decide +kernel
theorem qckM_15_1 : (List.range 688).all (fun j => qckM 15 (112 + j)) = true := by decide +kernel
theorem qckM_15 {t : Nat} (h : t < 800) : qckM 15 t = true := by
  by_cases h0 : t < 112
  · have := List.all_eq_true.mp qckM_15_0 (t - 0) (List.mem_range.mpr (by omega))
    rwa [show 0 + (t - 0) = t by omega] at this
  by_cases h1 : t < 800
  · have := List.all_eq_true.mp qckM_15_1 (t - 112) (List.mem_range.mpr (by omega))
    rwa [show 112 + (t - 112) = t by omega] at this
  omega
theorem qckM_of {o i : Nat} (ho : o < 16) (hi : i < 800) : qckM o i = true := by
  rcases (show o = 0 ∨ o = 1 ∨ o = 2 ∨ o = 3 ∨ o = 4 ∨ o = 5 ∨ o = 6 ∨ o = 7 ∨ o = 8 ∨ o = 9 ∨ o = 10 ∨ o = 11 ∨ o = 12 ∨ o = 13 ∨ o = 14 ∨ o = 15 by omega) with rfl | rfl | rfl | rfl | rfl | rfl | rfl | rfl | rfl | rfl | rfl | rfl | rfl | rfl | rfl | rfl
  · exact qckM_0 hi
  · exact qckM_1 hi
  · exact qckM_2 hi
  · exact qckM_3 hi
  · exact qckM_4 hi
  · exact qckM_5 hi
  · exact qckM_6 hi
  · exact qckM_7 hi
  · exact qckM_8 hi
  · exact qckM_9 hi
  · exact qckM_10 hi
  · exact qckM_11 hi
  · exact qckM_12 hi
  · exact qckM_13 hi
  · exact qckM_14 hi
  · exact qckM_15 hi
noncomputable def qbq : List UInt8 → List UInt8 → Bool
  | [], [] => true
  | x :: r, y :: s => Nat.beq x.toNat y.toNat && qbq r s
  | _, _ => false
theorem qbq_eq : ∀ (l m : List UInt8), qbq l m = true → l = m
  | [], [], _ => rfl
  | x :: r, y :: s, h => by
    have h : (Nat.beq x.toNat y.toNat && qbq r s) = true := h
    rw [Bool.and_eq_true] at h
    rw [UInt8.toNat_inj.mp (Nat.eq_of_beq_eq_true h.1), qbq_eq r s h.2]
  | [], _ :: _, h => absurd (show false = true from h) Bool.false_ne_true
  | _ :: _, [], h => absurd (show false = true from h) Bool.false_ne_true
theorem qba_eq : ∀ {a b : ByteArray}, a.data.toList = b.data.toList → a = b
  | ⟨⟨l⟩⟩, ⟨⟨m⟩⟩, h => by
    have h : l = m := h
    rw [h]
noncomputable def qwdC (i : Nat) (n : MethodName) (b : ByteArray) (ml : Nat) (r : Option FieldType) : Bool := match qwa i with
  | some (.code n' b' ml' r') => decide (n' = n) && (qbq b'.data.toList b.data.toList && (Nat.beq ml' ml && (decide (r' = r) && goodWord (.code n b ml r))))
  | _ => false
theorem qwdC_1 {i : Nat} {n : MethodName} {b : ByteArray} {ml : Nat} {r : Option FieldType} (h : qwdC i n b ml r = true) : qwd1 i (.code n b ml r) = true := by
  unfold qwdC at h
  split at h
  · rename_i n' b' ml' r' hq
    rw [Bool.and_eq_true, Bool.and_eq_true, Bool.and_eq_true, Bool.and_eq_true] at h
    obtain ⟨h1, h2, h3, h4, h5⟩ := h
    have e1 := of_decide_eq_true h1
    have e2 := qba_eq (qbq_eq _ _ h2)
    have e3 := Nat.eq_of_beq_eq_true h3
    have e4 := of_decide_eq_true h4
    subst e1 e2 e3 e4
    unfold qwd1
    rw [hq]
    show (decide (Cond.code n' b' ml' r' = Cond.code n' b' ml' r') && goodWord (Cond.code n' b' ml' r')) = true
    rw [Bool.and_eq_true]
    exact ⟨decide_eq_true rfl, h5⟩
  · cases h
noncomputable def qckT (t : Nat) : Bool := qwd1 (qpC t) (.code (qnm t) (qby t) (qml t) (qret t)) && qwd1 (qpS t) (bif qis t then .static (qnm t) else .instanceMethod (qnm t)) && qwd1 (qpI t) (.initialized (qnm t).cls) && decide ((qnm t).cls = qcn (qow t)) && decide ((qnm t).cls ≠ "java/lang/invoke/MethodHandle") && decide ((qnm t).cls ≠ "java/lang/invoke/VarHandle") && decide ((parseMethodDescriptor (qnm t).desc).map (fun d => d.parameters.length) = some (qnp t)) && plainName (qnm t).cls && decide (qin t = decide ((qnm t).name = "<init>")) && (bif qis t || qin t then true else qwd1 (qpV t) (.selects (qcn (qow t)) (qnm t) (qnm t)) && Nat.blt (qow t) 13) && (bif qin t then decide (qret t = none) && Nat.blt (qow t) 13 && !qis t else true) && Nat.ble (qml t) 30 && Nat.ble (qnp t) 6
noncomputable def qckT2 (t : Nat) : Bool := qwdC (qpC t) (qnm t) (qby t) (qml t) (qret t) && qwd1 (qpS t) (bif qis t then .static (qnm t) else .instanceMethod (qnm t)) && qwd1 (qpI t) (.initialized (qnm t).cls) && decide ((qnm t).cls = qcn (qow t)) && decide ((qnm t).cls ≠ "java/lang/invoke/MethodHandle") && decide ((qnm t).cls ≠ "java/lang/invoke/VarHandle") && decide ((parseMethodDescriptor (qnm t).desc).map (fun d => d.parameters.length) = some (qnp t)) && plainName (qnm t).cls && decide (qin t = decide ((qnm t).name = "<init>")) && (bif qis t || qin t then true else qwd1 (qpV t) (.selects (qcn (qow t)) (qnm t) (qnm t)) && Nat.blt (qow t) 13) && (bif qin t then decide (qret t = none) && Nat.blt (qow t) 13 && !qis t else true) && Nat.ble (qml t) 30 && Nat.ble (qnp t) 6
theorem qckT_12 {t : Nat} (h : qckT2 t = true) : qckT t = true := by
  unfold qckT2 at h
  cases hq : qwdC (qpC t) (qnm t) (qby t) (qml t) (qret t) with
  | false =>
    rw [hq] at h
    exact absurd h (by first | (simp only [Bool.false_and]; done) | (simp only [Bool.false_and]; exact Bool.false_ne_true))
  | true =>
    rw [hq] at h
    unfold qckT
    rw [qwdC_1 hq]
    exact h

theorem qckT2_of_0 : (List.range 12).all (fun j => qckT2 (0 + j)) = true := by decide +kernel
theorem qckT2_of_1 : (List.range 12).all (fun j => qckT2 (12 + j)) = true := by decide +kernel
theorem qckT2_of_2 : (List.range 12).all (fun j => qckT2 (24 + j)) = true := by decide +kernel
theorem qckT2_of_3 : (List.range 12).all (fun j => qckT2 (36 + j)) = true := by decide +kernel
theorem qckT2_of_4 : (List.range 12).all (fun j => qckT2 (48 + j)) = true := by decide +kernel
theorem qckT2_of_5 : (List.range 12).all (fun j => qckT2 (60 + j)) = true := by decide +kernel
theorem qckT2_of_6 : (List.range 12).all (fun j => qckT2 (72 + j)) = true := by decide +kernel
theorem qckT2_of_7 : (List.range 12).all (fun j => qckT2 (84 + j)) = true := by decide +kernel
theorem qckT2_of_8 : (List.range 12).all (fun j => qckT2 (96 + j)) = true := by decide +kernel
theorem qckT2_of_9 : (List.range 12).all (fun j => qckT2 (108 + j)) = true := by decide +kernel
theorem qckT2_of_10 : (List.range 12).all (fun j => qckT2 (120 + j)) = true := by decide +kernel
theorem qckT2_of_11 : (List.range 12).all (fun j => qckT2 (132 + j)) = true := by decide +kernel
theorem qckT2_of_12 : (List.range 12).all (fun j => qckT2 (144 + j)) = true := by decide +kernel
theorem qckT2_of_13 : (List.range 12).all (fun j => qckT2 (156 + j)) = true := by decide +kernel
theorem qckT2_of_14 : (List.range 12).all (fun j => qckT2 (168 + j)) = true := by decide +kernel
theorem qckT2_of_15 : (List.range 12).all (fun j => qckT2 (180 + j)) = true := by decide +kernel
theorem qckT2_of_16 : (List.range 12).all (fun j => qckT2 (192 + j)) = true := by decide +kernel
theorem qckT2_of_17 : (List.range 12).all (fun j => qckT2 (204 + j)) = true := by decide +kernel
theorem qckT2_of_18 : (List.range 12).all (fun j => qckT2 (216 + j)) = true := by decide +kernel
theorem qckT2_of_19 : (List.range 12).all (fun j => qckT2 (228 + j)) = true := by decide +kernel
theorem qckT2_of_20 : (List.range 12).all (fun j => qckT2 (240 + j)) = true := by decide +kernel
theorem qckT2_of_21 : (List.range 12).all (fun j => qckT2 (252 + j)) = true := by decide +kernel
theorem qckT2_of_22 : (List.range 12).all (fun j => qckT2 (264 + j)) = true := by decide +kernel
theorem qckT2_of_23 : (List.range 12).all (fun j => qckT2 (276 + j)) = true := by decide +kernel
theorem qckT2_of_24 : (List.range 12).all (fun j => qckT2 (288 + j)) = true := by decide +kernel
theorem qckT2_of_25 : (List.range 5).all (fun j => qckT2 (300 + j)) = true := by decide +kernel
theorem qckT2_of {t : Nat} (h : t < 305) : qckT2 t = true := by
  by_cases h0 : t < 12
  · have := List.all_eq_true.mp qckT2_of_0 (t - 0) (List.mem_range.mpr (by omega))
    rwa [show 0 + (t - 0) = t by omega] at this
  by_cases h1 : t < 24
  · have := List.all_eq_true.mp qckT2_of_1 (t - 12) (List.mem_range.mpr (by omega))
    rwa [show 12 + (t - 12) = t by omega] at this
  by_cases h2 : t < 36
  · have := List.all_eq_true.mp qckT2_of_2 (t - 24) (List.mem_range.mpr (by omega))
    rwa [show 24 + (t - 24) = t by omega] at this
  by_cases h3 : t < 48
  · have := List.all_eq_true.mp qckT2_of_3 (t - 36) (List.mem_range.mpr (by omega))
    rwa [show 36 + (t - 36) = t by omega] at this
  by_cases h4 : t < 60
  · have := List.all_eq_true.mp qckT2_of_4 (t - 48) (List.mem_range.mpr (by omega))
    rwa [show 48 + (t - 48) = t by omega] at this
  by_cases h5 : t < 72
  · have := List.all_eq_true.mp qckT2_of_5 (t - 60) (List.mem_range.mpr (by omega))
    rwa [show 60 + (t - 60) = t by omega] at this
  by_cases h6 : t < 84
  · have := List.all_eq_true.mp qckT2_of_6 (t - 72) (List.mem_range.mpr (by omega))
    rwa [show 72 + (t - 72) = t by omega] at this
  by_cases h7 : t < 96
  · have := List.all_eq_true.mp qckT2_of_7 (t - 84) (List.mem_range.mpr (by omega))
    rwa [show 84 + (t - 84) = t by omega] at this
  by_cases h8 : t < 108
  · have := List.all_eq_true.mp qckT2_of_8 (t - 96) (List.mem_range.mpr (by omega))
    rwa [show 96 + (t - 96) = t by omega] at this
  by_cases h9 : t < 120
  · have := List.all_eq_true.mp qckT2_of_9 (t - 108) (List.mem_range.mpr (by omega))
    rwa [show 108 + (t - 108) = t by omega] at this
  by_cases h10 : t < 132
  · have := List.all_eq_true.mp qckT2_of_10 (t - 120) (List.mem_range.mpr (by omega))
    rwa [show 120 + (t - 120) = t by omega] at this
  by_cases h11 : t < 144
  · have := List.all_eq_true.mp qckT2_of_11 (t - 132) (List.mem_range.mpr (by omega))
    rwa [show 132 + (t - 132) = t by omega] at this
  by_cases h12 : t < 156
  · have := List.all_eq_true.mp qckT2_of_12 (t - 144) (List.mem_range.mpr (by omega))
    rwa [show 144 + (t - 144) = t by omega] at this
  by_cases h13 : t < 168
  · have := List.all_eq_true.mp qckT2_of_13 (t - 156) (List.mem_range.mpr (by omega))
    rwa [show 156 + (t - 156) = t by omega] at this
  by_cases h14 : t < 180
  · have := List.all_eq_true.mp qckT2_of_14 (t - 168) (List.mem_range.mpr (by omega))
    rwa [show 168 + (t - 168) = t by omega] at this
  by_cases h15 : t < 192
  · have := List.all_eq_true.mp qckT2_of_15 (t - 180) (List.mem_range.mpr (by omega))
    rwa [show 180 + (t - 180) = t by omega] at this
  by_cases h16 : t < 204
  · have := List.all_eq_true.mp qckT2_of_16 (t - 192) (List.mem_range.mpr (by omega))
    rwa [show 192 + (t - 192) = t by omega] at this
  by_cases h17 : t < 216
  · have := List.all_eq_true.mp qckT2_of_17 (t - 204) (List.mem_range.mpr (by omega))
    rwa [show 204 + (t - 204) = t by omega] at this
  by_cases h18 : t < 228
  · have := List.all_eq_true.mp qckT2_of_18 (t - 216) (List.mem_range.mpr (by omega))
    rwa [show 216 + (t - 216) = t by omega] at this
  by_cases h19 : t < 240
  · have := List.all_eq_true.mp qckT2_of_19 (t - 228) (List.mem_range.mpr (by omega))
    rwa [show 228 + (t - 228) = t by omega] at this
  by_cases h20 : t < 252
  · have := List.all_eq_true.mp qckT2_of_20 (t - 240) (List.mem_range.mpr (by omega))
    rwa [show 240 + (t - 240) = t by omega] at this
  by_cases h21 : t < 264
  · have := List.all_eq_true.mp qckT2_of_21 (t - 252) (List.mem_range.mpr (by omega))
    rwa [show 252 + (t - 252) = t by omega] at this
  by_cases h22 : t < 276
  · have := List.all_eq_true.mp qckT2_of_22 (t - 264) (List.mem_range.mpr (by omega))
    rwa [show 264 + (t - 264) = t by omega] at this
  by_cases h23 : t < 288
  · have := List.all_eq_true.mp qckT2_of_23 (t - 276) (List.mem_range.mpr (by omega))
    rwa [show 276 + (t - 276) = t by omega] at this
  by_cases h24 : t < 300
  · have := List.all_eq_true.mp qckT2_of_24 (t - 288) (List.mem_range.mpr (by omega))
    rwa [show 288 + (t - 288) = t by omega] at this
  by_cases h25 : t < 305
  · have := List.all_eq_true.mp qckT2_of_25 (t - 300) (List.mem_range.mpr (by omega))
    rwa [show 300 + (t - 300) = t by omega] at this
  omega
theorem qckT_of {t : Nat} (h : t < 305) : qckT t = true := qckT_12 (qckT2_of h)
noncomputable def qckC (o i : Nat) : Bool := match qcl o i with
  | none => true
  | some ci => if ci = 99 then qwd1 (qcp o i) (.classLink (qcn o) i ("[" ++ (FieldType.array .long).toString)) else Nat.blt ci 13 && qwd1 (qcp o i) (.classLink (qcn o) i (qcn ci)) && qwd1 (qpN ci) (.instantiable (qcn ci) (qNf ci)) && qwd1 (qpJ ci) (.initialized (qcn ci))
theorem qckC_all : qall 16 800 qckC = true := by decide +kernel
noncomputable def qckK (o i : Nat) : Bool := match qkn o i with
  | none => true
  | some (0, v) => qwd1 (qkp o i) (.constant (qcn o) i (Int32.ofInt v)) && decide (-2147483648 ≤ v ∧ v < 2147483648)
  | some (1, v) => qwd1 (qkp o i) (.constantLong (qcn o) i (Int64.ofInt v)) && decide (-9223372036854775808 ≤ v ∧ v < 9223372036854775808)
  | some (3, v) => match qtx[v.toNat - 1]? with
    | some (c, j, _) => decide (c = qcn o) && Nat.beq j i && decide (0 < v)
    | none => false
  | _ => false
theorem qckK_all : qall 16 800 qckK = true := by decide +kernel
theorem qwA_int : Cond.arrayClass .int ∈ lw_tbl.filter goodWord := qwd1_in (i := 1071) (by decide +kernel)
theorem qwA_long : Cond.arrayClass .long ∈ lw_tbl.filter goodWord := qwd1_in (i := 1188) (by decide +kernel)
theorem qwA_boolean : Cond.arrayClass .boolean ∈ lw_tbl.filter goodWord := qwd1_in (i := 2016) (by decide +kernel)
theorem qwA_byte : Cond.arrayClass .byte ∈ lw_tbl.filter goodWord := qwd1_in (i := 1103) (by decide +kernel)
theorem qwO_2 : Cond.arrayOver (.object (qcn 2)) ∈ lw_tbl := qwa_in (i := 1032) (by decide +kernel)
theorem qwO_7 : Cond.arrayOver (.object (qcn 7)) ∈ lw_tbl := qwa_in (i := 1034) (by decide +kernel)
theorem qwO_99 : Cond.arrayOver (.array .long) ∈ lw_tbl := qwa_in (i := 1190) (by decide +kernel)
theorem qwOi : Cond.instanceMethod objectInit ∈ lw_tbl.filter goodWord := qwd1_in (i := 1029) (by decide +kernel)
theorem qwOc : Cond.code objectInit ⟨#[0xb1]⟩ 1 none ∈ lw_tbl.filter goodWord := qwd1_in (i := 1030) (by decide +kernel)
theorem qwMs_abs : Cond.static Lib.Math.abs.name ∈ lw_tbl.filter goodWord := qwd1_in (i := 2116) (by decide +kernel)
theorem qwMc_abs : Cond.code Lib.Math.abs.name Lib.Math.abs.code 1 (some .int) ∈ lw_tbl.filter goodWord := qwd1_in (i := 2117) (by decide +kernel)
theorem qwMs_max : Cond.static Lib.Math.max.name ∈ lw_tbl.filter goodWord := qwd1_in (i := 3106) (by decide +kernel)
theorem qwMc_max : Cond.code Lib.Math.max.name Lib.Math.max.code 2 (some .int) ∈ lw_tbl.filter goodWord := qwd1_in (i := 3107) (by decide +kernel)
theorem qwMs_min : Cond.static Lib.Math.min.name ∈ lw_tbl.filter goodWord := qwd1_in (i := 3109) (by decide +kernel)
theorem qwMc_min : Cond.code Lib.Math.min.name Lib.Math.min.code 2 (some .int) ∈ lw_tbl.filter goodWord := qwd1_in (i := 3110) (by decide +kernel)
theorem qwMs_maxl : Cond.static Lib.MathLoose.max_long.x ∈ lw_tbl.filter goodWord := qwd1_in (i := 6043) (by decide +kernel)
theorem qwMc_maxl : Cond.code Lib.MathLoose.max_long.x Lib.MathLoose.max_long.code 4 (some .long) ∈ lw_tbl.filter goodWord := qwd1_in (i := 6044) (by decide +kernel)
theorem qwMi : Cond.initialized "java/lang/Math" ∈ lw_tbl.filter goodWord := qwd1_in (i := 1013) (by decide +kernel)
theorem qwYn : Cond.native arraycopyName ∈ lw_tbl.filter goodWord := qwd1_in (i := 3210) (by decide +kernel)
theorem qwYs : Cond.static arraycopyName ∈ lw_tbl.filter goodWord := qwd1_in (i := 3209) (by decide +kernel)
theorem qwYi : Cond.initialized "java/lang/System" ∈ lw_tbl.filter goodWord := qwd1_in (i := 1020) (by decide +kernel)
