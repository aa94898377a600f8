section
/-! the ranges that hold always, the fresh pair -/
noncomputable def zgf (p j : Nat) : Option yI := bif Nat.blt p 143 && Nat.blt j 81 then (bif Nat.ble 57 p then (bif Nat.ble 79 p then (bif Nat.ble 87 p then (bif Nat.ble 91 p then (bif Nat.ble 95 p then (bif Nat.beq p 95 then bif Nat.ble 37 j then (bif Nat.ble 50 j then (bif Nat.ble 57 j then (bif Nat.ble 72 j then (bif Nat.ble 76 j then (bif Nat.ble 77 j then (bif Nat.beq j 77 then some (0, 1073741823) else none) else (bif Nat.beq j 76 then some (0, 20) else none)) else (bif Nat.beq j 72 then some (0, 40) else none)) else (bif Nat.ble 71 j then (bif Nat.beq j 71 then some (0, 60) else none) else (bif Nat.beq j 57 then some (0, 60) else none))) else (bif Nat.ble 55 j then (bif Nat.ble 56 j then (bif Nat.beq j 56 then some (0, 200) else none) else (bif Nat.beq j 55 then some (0, 12) else none)) else (bif Nat.ble 51 j then (bif Nat.beq j 51 then some (0, 16) else none) else (bif Nat.beq j 50 then some ((-1), 4) else none)))) else (bif Nat.ble 41 j then (bif Nat.ble 43 j then (bif Nat.ble 46 j then (bif Nat.beq j 46 then some ((-1), 800) else none) else (bif Nat.beq j 43 then some (0, 1) else none)) else (bif Nat.ble 42 j then (bif Nat.beq j 42 then some ((-2147483648), 2147483647) else none) else (bif Nat.beq j 41 then some ((-2147483648), 2147483647) else none))) else (bif Nat.ble 39 j then (bif Nat.ble 40 j then (bif Nat.beq j 40 then some ((-2147483648), 2147483647) else none) else (bif Nat.beq j 39 then some (0, 16) else none)) else (bif Nat.ble 38 j then (bif Nat.beq j 38 then some ((-2147483648), 2147483647) else none) else (bif Nat.beq j 37 then some (0, 800) else none))))) else (bif Nat.ble 28 j then (bif Nat.ble 32 j then (bif Nat.ble 34 j then (bif Nat.ble 35 j then (bif Nat.beq j 35 then some (0, 1) else none) else (bif Nat.beq j 34 then some ((-1), 600) else none)) else (bif Nat.ble 33 j then (bif Nat.beq j 33 then some (0, 8) else none) else (bif Nat.beq j 32 then some (0, 3) else none))) else (bif Nat.ble 30 j then (bif Nat.ble 31 j then (bif Nat.beq j 31 then some (0, 600) else none) else (bif Nat.beq j 30 then some (0, 3) else none)) else (bif Nat.ble 29 j then (bif Nat.beq j 29 then some (0, 9999) else none) else (bif Nat.beq j 28 then some (0, 600) else none)))) else (bif Nat.ble 24 j then (bif Nat.ble 26 j then (bif Nat.ble 27 j then (bif Nat.beq j 27 then some (0, 355) else none) else (bif Nat.beq j 26 then some (0, 600) else none)) else (bif Nat.ble 25 j then (bif Nat.beq j 25 then some (0, 600) else none) else (bif Nat.beq j 24 then some (0, 610) else none))) else (bif Nat.ble 22 j then (bif Nat.ble 23 j then (bif Nat.beq j 23 then some (0, 40) else none) else (bif Nat.beq j 22 then some (0, 20) else none)) else (bif Nat.ble 9 j then (bif Nat.beq j 9 then some ((-1), 20) else none) else (bif Nat.beq j 8 then some (0, 1820) else none))))) else none) else (bif Nat.beq p 91 then bif Nat.ble 6 j then (bif Nat.ble 8 j then (bif Nat.ble 9 j then (bif Nat.beq j 9 then some ((-2147483648), 2147483647) else none) else (bif Nat.beq j 8 then some (0, 63) else none)) else (bif Nat.ble 7 j then (bif Nat.beq j 7 then some (0, 65535) else none) else (bif Nat.beq j 6 then some (0, 1) else none))) else (bif Nat.ble 4 j then (bif Nat.ble 5 j then (bif Nat.beq j 5 then some ((-2147483648), 2147483647) else none) else (bif Nat.beq j 4 then some ((-2147483648), 2147483647) else none)) else (bif Nat.beq j 2 then some (0, 40) else none)) else none)) else (bif Nat.beq p 87 then bif Nat.ble 6 j then (bif Nat.ble 8 j then (bif Nat.ble 9 j then (bif Nat.beq j 9 then some ((-2147483648), 2147483647) else none) else (bif Nat.beq j 8 then some (0, 63) else none)) else (bif Nat.ble 7 j then (bif Nat.beq j 7 then some (0, 65535) else none) else (bif Nat.beq j 6 then some (0, 1) else none))) else (bif Nat.ble 4 j then (bif Nat.ble 5 j then (bif Nat.beq j 5 then some ((-2147483648), 2147483647) else none) else (bif Nat.beq j 4 then some ((-2147483648), 2147483647) else none)) else (bif Nat.beq j 2 then some (0, 40) else none)) else none)) else (bif Nat.ble 83 p then (bif Nat.beq p 83 then bif Nat.ble 6 j then (bif Nat.ble 8 j then (bif Nat.ble 9 j then (bif Nat.beq j 9 then some ((-2147483648), 2147483647) else none) else (bif Nat.beq j 8 then some (0, 63) else none)) else (bif Nat.ble 7 j then (bif Nat.beq j 7 then some (0, 65535) else none) else (bif Nat.beq j 6 then some (0, 1) else none))) else (bif Nat.ble 4 j then (bif Nat.ble 5 j then (bif Nat.beq j 5 then some ((-2147483648), 2147483647) else none) else (bif Nat.beq j 4 then some ((-2147483648), 2147483647) else none)) else (bif Nat.beq j 2 then some (0, 40) else none)) else none) else (bif Nat.beq p 79 then bif Nat.ble 6 j then (bif Nat.ble 8 j then (bif Nat.ble 9 j then (bif Nat.beq j 9 then some ((-2147483648), 2147483647) else none) else (bif Nat.beq j 8 then some (0, 63) else none)) else (bif Nat.ble 7 j then (bif Nat.beq j 7 then some (0, 65535) else none) else (bif Nat.beq j 6 then some (0, 1) else none))) else (bif Nat.ble 4 j then (bif Nat.ble 5 j then (bif Nat.beq j 5 then some ((-2147483648), 2147483647) else none) else (bif Nat.beq j 4 then some ((-2147483648), 2147483647) else none)) else (bif Nat.beq j 2 then some (0, 40) else none)) else none))) else (bif Nat.ble 64 p then (bif Nat.ble 69 p then (bif Nat.ble 74 p then (bif Nat.beq p 74 then bif Nat.ble 1 j then (bif Nat.beq j 1 then some ((-2147483648), 2147483647) else none) else (bif Nat.beq j 0 then some (0, 65535) else none) else none) else (bif Nat.beq p 69 then bif Nat.ble 1 j then (bif Nat.beq j 1 then some ((-2147483648), 2147483647) else none) else (bif Nat.beq j 0 then some (0, 65535) else none) else none)) else (bif Nat.beq p 64 then bif Nat.ble 1 j then (bif Nat.beq j 1 then some ((-2147483648), 2147483647) else none) else (bif Nat.beq j 0 then some (0, 65535) else none) else none)) else (bif Nat.ble 61 p then (bif Nat.beq p 61 then bif Nat.ble 3 j then (bif Nat.beq j 3 then some (0, 1073741823) else none) else (bif Nat.beq j 2 then some (0, 20) else none) else none) else (bif Nat.beq p 57 then bif Nat.ble 4 j then (bif Nat.beq j 4 then some (0, 40) else none) else (bif Nat.beq j 2 then some (0, 60) else none) else none)))) else (bif Nat.ble 19 p then (bif Nat.ble 23 p then (bif Nat.ble 24 p then (bif Nat.ble 45 p then (bif Nat.beq p 45 then bif Nat.ble 6 j then (bif Nat.ble 7 j then (bif Nat.beq j 7 then some (0, 60) else none) else (bif Nat.beq j 6 then some (0, 200) else none)) else (bif Nat.beq j 0 then some (0, 12) else none) else none) else (bif Nat.beq p 24 then bif Nat.ble 2 j then (bif Nat.ble 3 j then (bif Nat.beq j 3 then some (0, 180) else none) else (bif Nat.beq j 2 then some ((-2147483648), 2147483647) else none)) else (bif Nat.beq j 1 then some (0, 4) else none) else none)) else (bif Nat.beq p 23 then bif Nat.ble 8 j then (bif Nat.ble 13 j then (bif Nat.ble 14 j then (bif Nat.beq j 14 then some (0, 65535) else none) else (bif Nat.beq j 13 then some ((-1), 4) else none)) else (bif Nat.beq j 8 then some (0, 5) else none)) else (bif Nat.ble 5 j then (bif Nat.ble 7 j then (bif Nat.beq j 7 then some (0, 1023) else none) else (bif Nat.beq j 5 then some ((-2147483648), 2147483647) else none)) else (bif Nat.beq j 4 then some ((-2147483648), 2147483647) else none)) else none)) else (bif Nat.ble 21 p then (bif Nat.beq p 21 then bif Nat.beq j 1 then some (0, 160) else none else none) else (bif Nat.beq p 19 then bif Nat.beq j 1 then some (0, 160) else none else none))) else (bif Nat.ble 12 p then (bif Nat.ble 17 p then (bif Nat.beq p 17 then bif Nat.beq j 1 then some (0, 160) else none else none) else (bif Nat.beq p 12 then bif Nat.ble 5 j then (bif Nat.ble 6 j then (bif Nat.beq j 6 then some (0, 65535) else none) else (bif Nat.beq j 5 then some (0, 65535) else none)) else (bif Nat.ble 4 j then (bif Nat.beq j 4 then some ((-2147483648), 2147483647) else none) else (bif Nat.beq j 3 then some (0, 20) else none)) else none)) else (bif Nat.ble 8 p then (bif Nat.beq p 8 then bif Nat.ble 5 j then (bif Nat.ble 6 j then (bif Nat.ble 7 j then (bif Nat.beq j 7 then some ((-2147483648), 2147483647) else none) else (bif Nat.beq j 6 then some (0, 3) else none)) else (bif Nat.beq j 5 then some ((-2147483648), 2147483647) else none)) else (bif Nat.ble 4 j then (bif Nat.beq j 4 then some (0, 601) else none) else (bif Nat.beq j 1 then some (0, 600) else none)) else none) else (bif Nat.beq p 4 then bif Nat.ble 6 j then (bif Nat.ble 8 j then (bif Nat.ble 9 j then (bif Nat.beq j 9 then some ((-2147483648), 2147483647) else none) else (bif Nat.beq j 8 then some (0, 63) else none)) else (bif Nat.ble 7 j then (bif Nat.beq j 7 then some (0, 65535) else none) else (bif Nat.beq j 6 then some (0, 1) else none))) else (bif Nat.ble 4 j then (bif Nat.ble 5 j then (bif Nat.beq j 5 then some ((-2147483648), 2147483647) else none) else (bif Nat.beq j 4 then some ((-2147483648), 2147483647) else none)) else (bif Nat.beq j 2 then some (0, 40) else none)) else none))))) else none
noncomputable def zga (p : Nat) : Option yI := bif Nat.blt p 143 then (bif Nat.ble 80 p then (bif Nat.ble 113 p then (bif Nat.ble 128 p then (bif Nat.ble 135 p then (bif Nat.ble 139 p then (bif Nat.ble 141 p then (bif Nat.ble 142 p then (bif Nat.beq p 142 then some (0, 1073741823) else none) else (bif Nat.beq p 141 then some (0, 99) else none)) else (bif Nat.ble 140 p then (bif Nat.beq p 140 then some (0, 4095) else none) else (bif Nat.beq p 139 then some (0, 4095) else none))) else (bif Nat.ble 137 p then (bif Nat.ble 138 p then (bif Nat.beq p 138 then some (0, 4095) else none) else (bif Nat.beq p 137 then some ((-9223372036854775808), 9223372036854775807) else none)) else (bif Nat.ble 136 p then (bif Nat.beq p 136 then some ((-1), 2) else none) else (bif Nat.beq p 135 then some (0, 2) else none)))) else (bif Nat.ble 131 p then (bif Nat.ble 133 p then (bif Nat.ble 134 p then (bif Nat.beq p 134 then some (0, 99) else none) else (bif Nat.beq p 133 then some (0, 9) else none)) else (bif Nat.ble 132 p then (bif Nat.beq p 132 then some (0, 99) else none) else (bif Nat.beq p 131 then some (0, 99) else none))) else (bif Nat.ble 129 p then (bif Nat.ble 130 p then (bif Nat.beq p 130 then some (0, 9) else none) else (bif Nat.beq p 129 then some (0, 11) else none)) else (bif Nat.beq p 128 then some (0, 9) else none)))) else (bif Nat.ble 120 p then (bif Nat.ble 124 p then (bif Nat.ble 126 p then (bif Nat.ble 127 p then (bif Nat.beq p 127 then some (0, 99) else none) else (bif Nat.beq p 126 then some (0, 99) else none)) else (bif Nat.ble 125 p then (bif Nat.beq p 125 then some (0, 99) else none) else (bif Nat.beq p 124 then some (0, 1) else none))) else (bif Nat.ble 122 p then (bif Nat.ble 123 p then (bif Nat.beq p 123 then some (0, 13) else none) else (bif Nat.beq p 122 then some (0, 12) else none)) else (bif Nat.ble 121 p then (bif Nat.beq p 121 then some (0, 9) else none) else (bif Nat.beq p 120 then some (0, 9) else none)))) else (bif Nat.ble 116 p then (bif Nat.ble 118 p then (bif Nat.ble 119 p then (bif Nat.beq p 119 then some ((-2147483648), 2147483647) else none) else (bif Nat.beq p 118 then some (0, 1) else none)) else (bif Nat.ble 117 p then (bif Nat.beq p 117 then some (0, 1) else none) else (bif Nat.beq p 116 then some ((-2147483648), 2147483647) else none))) else (bif Nat.ble 114 p then (bif Nat.ble 115 p then (bif Nat.beq p 115 then some ((-2147483648), 2147483647) else none) else (bif Nat.beq p 114 then some (0, 255) else none)) else (bif Nat.beq p 113 then some ((-2147483648), 2147483647) else none))))) else (bif Nat.ble 98 p then (bif Nat.ble 105 p then (bif Nat.ble 109 p then (bif Nat.ble 111 p then (bif Nat.ble 112 p then (bif Nat.beq p 112 then some ((-2147483648), 2147483647) else none) else (bif Nat.beq p 111 then some (0, 610) else none)) else (bif Nat.ble 110 p then (bif Nat.beq p 110 then some (0, 1) else none) else (bif Nat.beq p 109 then some (0, 610) else none))) else (bif Nat.ble 107 p then (bif Nat.ble 108 p then (bif Nat.beq p 108 then some (0, 9999) else none) else (bif Nat.beq p 107 then some (0, 5) else none)) else (bif Nat.ble 106 p then (bif Nat.beq p 106 then some (0, 40) else none) else (bif Nat.beq p 105 then some (0, 9999) else none)))) else (bif Nat.ble 101 p then (bif Nat.ble 103 p then (bif Nat.ble 104 p then (bif Nat.beq p 104 then some (0, 5) else none) else (bif Nat.beq p 103 then some (0, 1819) else none)) else (bif Nat.ble 102 p then (bif Nat.beq p 102 then some (0, 50) else none) else (bif Nat.beq p 101 then some (0, 65535) else none))) else (bif Nat.ble 99 p then (bif Nat.ble 100 p then (bif Nat.beq p 100 then some (0, 1) else none) else (bif Nat.beq p 99 then some (0, 65535) else none)) else (bif Nat.beq p 98 then some (0, 65535) else none)))) else (bif Nat.ble 89 p then (bif Nat.ble 93 p then (bif Nat.ble 96 p then (bif Nat.ble 97 p then (bif Nat.beq p 97 then some (0, 1) else none) else (bif Nat.beq p 96 then some (0, 65535) else none)) else (bif Nat.ble 94 p then (bif Nat.beq p 94 then some (0, 65535) else none) else (bif Nat.beq p 93 then some ((-2147483648), 2147483647) else none))) else (bif Nat.ble 90 p then (bif Nat.ble 92 p then (bif Nat.beq p 92 then some (0, 9999) else none) else (bif Nat.beq p 90 then some (0, 65535) else none)) else (bif Nat.beq p 89 then some ((-2147483648), 2147483647) else none))) else (bif Nat.ble 84 p then (bif Nat.ble 86 p then (bif Nat.ble 88 p then (bif Nat.beq p 88 then some (0, 9999) else none) else (bif Nat.beq p 86 then some (0, 65535) else none)) else (bif Nat.ble 85 p then (bif Nat.beq p 85 then some ((-2147483648), 2147483647) else none) else (bif Nat.beq p 84 then some (0, 9999) else none))) else (bif Nat.ble 81 p then (bif Nat.ble 82 p then (bif Nat.beq p 82 then some (0, 65535) else none) else (bif Nat.beq p 81 then some ((-2147483648), 2147483647) else none)) else (bif Nat.beq p 80 then some (0, 9999) else none)))))) else (bif Nat.ble 43 p then (bif Nat.ble 60 p then (bif Nat.ble 70 p then (bif Nat.ble 75 p then (bif Nat.ble 77 p then (bif Nat.ble 78 p then (bif Nat.beq p 78 then some (0, 1) else none) else (bif Nat.beq p 77 then some (0, 65535) else none)) else (bif Nat.ble 76 p then (bif Nat.beq p 76 then some (0, 1) else none) else (bif Nat.beq p 75 then some (0, 65535) else none))) else (bif Nat.ble 72 p then (bif Nat.ble 73 p then (bif Nat.beq p 73 then some (0, 1) else none) else (bif Nat.beq p 72 then some (0, 65535) else none)) else (bif Nat.ble 71 p then (bif Nat.beq p 71 then some (0, 1) else none) else (bif Nat.beq p 70 then some (0, 65535) else none)))) else (bif Nat.ble 65 p then (bif Nat.ble 67 p then (bif Nat.ble 68 p then (bif Nat.beq p 68 then some (0, 1) else none) else (bif Nat.beq p 67 then some (0, 65535) else none)) else (bif Nat.ble 66 p then (bif Nat.beq p 66 then some (0, 1) else none) else (bif Nat.beq p 65 then some (0, 65535) else none))) else (bif Nat.ble 62 p then (bif Nat.ble 63 p then (bif Nat.beq p 63 then some (0, 1073741823) else none) else (bif Nat.beq p 62 then some (0, 99) else none)) else (bif Nat.beq p 60 then some (0, 4095) else none)))) else (bif Nat.ble 51 p then (bif Nat.ble 55 p then (bif Nat.ble 58 p then (bif Nat.ble 59 p then (bif Nat.beq p 59 then some (0, 4095) else none) else (bif Nat.beq p 58 then some (0, 4095) else none)) else (bif Nat.ble 56 p then (bif Nat.beq p 56 then some ((-9223372036854775808), 9223372036854775807) else none) else (bif Nat.beq p 55 then some ((-1), 2) else none))) else (bif Nat.ble 53 p then (bif Nat.ble 54 p then (bif Nat.beq p 54 then some (0, 2) else none) else (bif Nat.beq p 53 then some (0, 99) else none)) else (bif Nat.ble 52 p then (bif Nat.beq p 52 then some (0, 9) else none) else (bif Nat.beq p 51 then some (0, 99) else none)))) else (bif Nat.ble 47 p then (bif Nat.ble 49 p then (bif Nat.ble 50 p then (bif Nat.beq p 50 then some (0, 1023) else none) else (bif Nat.beq p 49 then some (0, 9) else none)) else (bif Nat.ble 48 p then (bif Nat.beq p 48 then some (0, 99) else none) else (bif Nat.beq p 47 then some (0, 99) else none))) else (bif Nat.ble 44 p then (bif Nat.ble 46 p then (bif Nat.beq p 46 then some (0, 99) else none) else (bif Nat.beq p 44 then some (0, 1) else none)) else (bif Nat.beq p 43 then some (0, 13) else none))))) else (bif Nat.ble 26 p then (bif Nat.ble 34 p then (bif Nat.ble 38 p then (bif Nat.ble 40 p then (bif Nat.ble 42 p then (bif Nat.beq p 42 then some (0, 12) else none) else (bif Nat.beq p 40 then some (0, 65535) else none)) else (bif Nat.ble 39 p then (bif Nat.beq p 39 then some (0, 9) else none) else (bif Nat.beq p 38 then some ((-9223372036854775808), 9223372036854775807) else none))) else (bif Nat.ble 36 p then (bif Nat.ble 37 p then (bif Nat.beq p 37 then some ((-9223372036854775808), 9223372036854775807) else none) else (bif Nat.beq p 36 then some ((-9223372036854775808), 9223372036854775807) else none)) else (bif Nat.ble 35 p then (bif Nat.beq p 35 then some ((-9223372036854775808), 9223372036854775807) else none) else (bif Nat.beq p 34 then some ((-9223372036854775808), 9223372036854775807) else none)))) else (bif Nat.ble 29 p then (bif Nat.ble 31 p then (bif Nat.ble 32 p then (bif Nat.beq p 32 then some (0, 9) else none) else (bif Nat.beq p 31 then some (0, 65535) else none)) else (bif Nat.ble 30 p then (bif Nat.beq p 30 then some ((-9223372036854775808), 9223372036854775807) else none) else (bif Nat.beq p 29 then some ((-9223372036854775808), 9223372036854775807) else none))) else (bif Nat.ble 27 p then (bif Nat.ble 28 p then (bif Nat.beq p 28 then some ((-9223372036854775808), 9223372036854775807) else none) else (bif Nat.beq p 27 then some ((-9223372036854775808), 9223372036854775807) else none)) else (bif Nat.beq p 26 then some ((-9223372036854775808), 9223372036854775807) else none)))) else (bif Nat.ble 14 p then (bif Nat.ble 18 p then (bif Nat.ble 22 p then (bif Nat.ble 25 p then (bif Nat.beq p 25 then some (0, 65535) else none) else (bif Nat.beq p 22 then some ((-2147483648), 2147483647) else none)) else (bif Nat.ble 20 p then (bif Nat.beq p 20 then some ((-2147483648), 2147483647) else none) else (bif Nat.beq p 18 then some ((-2147483648), 2147483647) else none))) else (bif Nat.ble 15 p then (bif Nat.ble 16 p then (bif Nat.beq p 16 then some ((-2147483648), 2147483647) else none) else (bif Nat.beq p 15 then some ((-2147483648), 2147483647) else none)) else (bif Nat.beq p 14 then some ((-2147483648), 2147483647) else none))) else (bif Nat.ble 9 p then (bif Nat.ble 11 p then (bif Nat.ble 13 p then (bif Nat.beq p 13 then some ((-2147483648), 2147483647) else none) else (bif Nat.beq p 11 then some ((-2147483648), 2147483647) else none)) else (bif Nat.ble 10 p then (bif Nat.beq p 10 then some ((-2147483648), 2147483647) else none) else (bif Nat.beq p 9 then some ((-128), 127) else none))) else (bif Nat.ble 6 p then (bif Nat.ble 7 p then (bif Nat.beq p 7 then some (0, 65535) else none) else (bif Nat.beq p 6 then some ((-2147483648), 2147483647) else none)) else (bif Nat.beq p 5 then some (0, 9999) else none))))))) else none
noncomputable def zra (p j : Nat) : List Int := bif Nat.blt p 143 && Nat.blt j 81 then (bif Nat.ble 41 p then (bif Nat.ble 74 p then (bif Nat.ble 87 p then (bif Nat.ble 91 p then (bif Nat.ble 95 p then (bif Nat.beq p 95 then bif Nat.ble 47 j then (bif Nat.ble 64 j then (bif Nat.ble 70 j then (bif Nat.ble 75 j then (bif Nat.ble 78 j then (bif Nat.ble 79 j then (bif Nat.beq j 79 then [142] else []) else (bif Nat.beq j 78 then [141] else [])) else (bif Nat.beq j 75 then [140] else [])) else (bif Nat.ble 73 j then (bif Nat.ble 74 j then (bif Nat.beq j 74 then [139] else []) else (bif Nat.beq j 73 then [138] else [])) else (bif Nat.beq j 70 then [137] else []))) else (bif Nat.ble 67 j then (bif Nat.ble 68 j then (bif Nat.ble 69 j then (bif Nat.beq j 69 then [136] else []) else (bif Nat.beq j 68 then [135] else [])) else (bif Nat.beq j 67 then [134] else [])) else (bif Nat.ble 65 j then (bif Nat.ble 66 j then (bif Nat.beq j 66 then [133] else []) else (bif Nat.beq j 65 then [132] else [])) else (bif Nat.beq j 64 then [131] else [])))) else (bif Nat.ble 58 j then (bif Nat.ble 61 j then (bif Nat.ble 62 j then (bif Nat.ble 63 j then (bif Nat.beq j 63 then [130] else []) else (bif Nat.beq j 62 then [129] else [])) else (bif Nat.beq j 61 then [128] else [])) else (bif Nat.ble 59 j then (bif Nat.ble 60 j then (bif Nat.beq j 60 then [127] else []) else (bif Nat.beq j 59 then [126] else [])) else (bif Nat.beq j 58 then [125] else []))) else (bif Nat.ble 52 j then (bif Nat.ble 53 j then (bif Nat.ble 54 j then (bif Nat.beq j 54 then [124] else []) else (bif Nat.beq j 53 then [123] else [])) else (bif Nat.beq j 52 then [122] else [])) else (bif Nat.ble 48 j then (bif Nat.ble 49 j then (bif Nat.beq j 49 then [121] else []) else (bif Nat.beq j 48 then [120] else [])) else (bif Nat.beq j 47 then [119] else []))))) else (bif Nat.ble 13 j then (bif Nat.ble 19 j then (bif Nat.ble 36 j then (bif Nat.ble 44 j then (bif Nat.ble 45 j then (bif Nat.beq j 45 then [118] else []) else (bif Nat.beq j 44 then [117] else [])) else (bif Nat.beq j 36 then [116] else [])) else (bif Nat.ble 20 j then (bif Nat.ble 21 j then (bif Nat.beq j 21 then [115] else []) else (bif Nat.beq j 20 then [114] else [])) else (bif Nat.beq j 19 then [113] else []))) else (bif Nat.ble 16 j then (bif Nat.ble 17 j then (bif Nat.ble 18 j then (bif Nat.beq j 18 then [112] else []) else (bif Nat.beq j 17 then [111] else [])) else (bif Nat.beq j 16 then [110] else [])) else (bif Nat.ble 14 j then (bif Nat.ble 15 j then (bif Nat.beq j 15 then [109] else []) else (bif Nat.beq j 14 then [108] else [])) else (bif Nat.beq j 13 then [107] else [])))) else (bif Nat.ble 5 j then (bif Nat.ble 10 j then (bif Nat.ble 11 j then (bif Nat.ble 12 j then (bif Nat.beq j 12 then [106] else []) else (bif Nat.beq j 11 then [105] else [])) else (bif Nat.beq j 10 then [104] else [])) else (bif Nat.ble 6 j then (bif Nat.ble 7 j then (bif Nat.beq j 7 then [103] else []) else (bif Nat.beq j 6 then [102] else [])) else (bif Nat.beq j 5 then [101] else []))) else (bif Nat.ble 2 j then (bif Nat.ble 3 j then (bif Nat.ble 4 j then (bif Nat.beq j 4 then [100] else []) else (bif Nat.beq j 3 then [99] else [])) else (bif Nat.beq j 2 then [98] else [])) else (bif Nat.ble 1 j then (bif Nat.beq j 1 then [97] else []) else (bif Nat.beq j 0 then [96] else []))))) else []) else (bif Nat.beq p 91 then bif Nat.ble 1 j then (bif Nat.ble 3 j then (bif Nat.beq j 3 then [94] else []) else (bif Nat.beq j 1 then [93] else [])) else (bif Nat.beq j 0 then [92] else []) else [])) else (bif Nat.beq p 87 then bif Nat.ble 1 j then (bif Nat.ble 3 j then (bif Nat.beq j 3 then [90] else []) else (bif Nat.beq j 1 then [89] else [])) else (bif Nat.beq j 0 then [88] else []) else [])) else (bif Nat.ble 79 p then (bif Nat.ble 83 p then (bif Nat.beq p 83 then bif Nat.ble 1 j then (bif Nat.ble 3 j then (bif Nat.beq j 3 then [86] else []) else (bif Nat.beq j 1 then [85] else [])) else (bif Nat.beq j 0 then [84] else []) else []) else (bif Nat.beq p 79 then bif Nat.ble 1 j then (bif Nat.ble 3 j then (bif Nat.beq j 3 then [82] else []) else (bif Nat.beq j 1 then [81] else [])) else (bif Nat.beq j 0 then [80] else []) else [])) else (bif Nat.beq p 74 then bif Nat.ble 4 j then (bif Nat.ble 5 j then (bif Nat.beq j 5 then [78] else []) else (bif Nat.beq j 4 then [77] else [])) else (bif Nat.ble 3 j then (bif Nat.beq j 3 then [76] else []) else (bif Nat.beq j 2 then [75] else [])) else []))) else (bif Nat.ble 61 p then (bif Nat.ble 64 p then (bif Nat.ble 69 p then (bif Nat.beq p 69 then bif Nat.ble 4 j then (bif Nat.ble 5 j then (bif Nat.beq j 5 then [73] else []) else (bif Nat.beq j 4 then [72] else [])) else (bif Nat.ble 3 j then (bif Nat.beq j 3 then [71] else []) else (bif Nat.beq j 2 then [70] else [])) else []) else (bif Nat.beq p 64 then bif Nat.ble 4 j then (bif Nat.ble 5 j then (bif Nat.beq j 5 then [68] else []) else (bif Nat.beq j 4 then [67] else [])) else (bif Nat.ble 3 j then (bif Nat.beq j 3 then [66] else []) else (bif Nat.beq j 2 then [65] else [])) else [])) else (bif Nat.beq p 61 then bif Nat.ble 1 j then (bif Nat.beq j 1 then [63] else []) else (bif Nat.beq j 0 then [62] else []) else [])) else (bif Nat.ble 45 p then (bif Nat.ble 57 p then (bif Nat.beq p 57 then bif Nat.ble 1 j then (bif Nat.ble 3 j then (bif Nat.beq j 3 then [60] else []) else (bif Nat.beq j 1 then [59] else [])) else (bif Nat.beq j 0 then [58] else []) else []) else (bif Nat.beq p 45 then bif Nat.ble 8 j then (bif Nat.ble 11 j then (bif Nat.ble 12 j then (bif Nat.ble 13 j then (bif Nat.beq j 13 then [56] else []) else (bif Nat.beq j 12 then [55] else [])) else (bif Nat.beq j 11 then [54] else [])) else (bif Nat.ble 9 j then (bif Nat.ble 10 j then (bif Nat.beq j 10 then [53] else []) else (bif Nat.beq j 9 then [52] else [])) else (bif Nat.beq j 8 then [51] else []))) else (bif Nat.ble 3 j then (bif Nat.ble 4 j then (bif Nat.ble 5 j then (bif Nat.beq j 5 then [50] else []) else (bif Nat.beq j 4 then [49] else [])) else (bif Nat.beq j 3 then [48] else [])) else (bif Nat.ble 2 j then (bif Nat.beq j 2 then [47] else []) else (bif Nat.beq j 1 then [46] else []))) else [])) else (bif Nat.beq p 41 then bif Nat.ble 1 j then (bif Nat.ble 2 j then (bif Nat.beq j 2 then [44] else []) else (bif Nat.beq j 1 then [43] else [])) else (bif Nat.beq j 0 then [42] else []) else [])))) else (bif Nat.ble 17 p then (bif Nat.ble 23 p then (bif Nat.ble 24 p then (bif Nat.ble 33 p then (bif Nat.beq p 33 then bif Nat.ble 2 j then (bif Nat.ble 3 j then (bif Nat.ble 4 j then (bif Nat.beq j 4 then [38] else []) else (bif Nat.beq j 3 then [37] else [])) else (bif Nat.beq j 2 then [36] else [])) else (bif Nat.ble 1 j then (bif Nat.beq j 1 then [35] else []) else (bif Nat.beq j 0 then [34] else [])) else []) else (bif Nat.beq p 24 then bif Nat.ble 4 j then (bif Nat.ble 5 j then (bif Nat.beq j 5 then [26] else []) else (bif Nat.beq j 4 then [25] else [])) else (bif Nat.beq j 0 then [0, 64, 69, 74] else []) else [])) else (bif Nat.beq p 23 then bif Nat.ble 9 j then (bif Nat.ble 11 j then (bif Nat.ble 12 j then (bif Nat.ble 15 j then (bif Nat.beq j 15 then [40] else []) else (bif Nat.beq j 12 then [39] else [])) else (bif Nat.beq j 11 then [33] else [])) else (bif Nat.ble 10 j then (bif Nat.beq j 10 then [32] else []) else (bif Nat.beq j 9 then [31] else []))) else (bif Nat.ble 2 j then (bif Nat.ble 3 j then (bif Nat.ble 6 j then (bif Nat.beq j 6 then [30] else []) else (bif Nat.beq j 3 then [29] else [])) else (bif Nat.beq j 2 then [28] else [])) else (bif Nat.ble 1 j then (bif Nat.beq j 1 then [27] else []) else (bif Nat.beq j 0 then [24] else []))) else [])) else (bif Nat.ble 19 p then (bif Nat.ble 21 p then (bif Nat.beq p 21 then bif Nat.beq j 0 then [22] else [] else []) else (bif Nat.beq p 19 then bif Nat.beq j 0 then [20] else [] else [])) else (bif Nat.beq p 17 then bif Nat.beq j 0 then [18] else [] else []))) else (bif Nat.ble 4 p then (bif Nat.ble 8 p then (bif Nat.ble 12 p then (bif Nat.beq p 12 then bif Nat.ble 7 j then (bif Nat.ble 9 j then (bif Nat.ble 10 j then (bif Nat.beq j 10 then [21] else []) else (bif Nat.beq j 9 then [19] else [])) else (bif Nat.ble 8 j then (bif Nat.beq j 8 then [17] else []) else (bif Nat.beq j 7 then [16] else []))) else (bif Nat.ble 1 j then (bif Nat.ble 2 j then (bif Nat.beq j 2 then [15] else []) else (bif Nat.beq j 1 then [14] else [])) else (bif Nat.beq j 0 then [13] else [])) else []) else (bif Nat.beq p 8 then bif Nat.ble 2 j then (bif Nat.ble 3 j then (bif Nat.beq j 3 then [11] else []) else (bif Nat.beq j 2 then [10] else [])) else (bif Nat.beq j 0 then [9] else []) else [])) else (bif Nat.beq p 4 then bif Nat.ble 1 j then (bif Nat.ble 3 j then (bif Nat.beq j 3 then [7] else []) else (bif Nat.beq j 1 then [6] else [])) else (bif Nat.beq j 0 then [5] else []) else [])) else (bif Nat.ble 2 p then (bif Nat.ble 3 p then (bif Nat.beq p 3 then bif Nat.ble 2 j then (bif Nat.ble 3 j then (bif Nat.beq j 3 then [4, 79, 83, 87, 91] else []) else (bif Nat.beq j 2 then [4, 79, 83, 87, 91] else [])) else (bif Nat.ble 1 j then (bif Nat.beq j 1 then [4, 79, 83, 87, 91] else []) else (bif Nat.beq j 0 then [4, 79, 83, 87, 91] else [])) else []) else (bif Nat.beq p 2 then bif Nat.ble 1 j then (bif Nat.ble 2 j then (bif Nat.beq j 2 then [74] else []) else (bif Nat.beq j 1 then [69] else [])) else (bif Nat.beq j 0 then [64] else []) else [])) else (bif Nat.beq p 1 then bif Nat.ble 5 j then (bif Nat.ble 7 j then (bif Nat.ble 8 j then (bif Nat.ble 9 j then (bif Nat.beq j 9 then [61] else []) else (bif Nat.beq j 8 then [57] else [])) else (bif Nat.beq j 7 then [45] else [])) else (bif Nat.ble 6 j then (bif Nat.beq j 6 then [41] else []) else (bif Nat.beq j 5 then [23] else []))) else (bif Nat.ble 2 j then (bif Nat.ble 3 j then (bif Nat.ble 4 j then (bif Nat.beq j 4 then [12] else []) else (bif Nat.beq j 3 then [8] else [])) else (bif Nat.beq j 2 then [4, 79, 83, 87, 91] else [])) else (bif Nat.ble 1 j then (bif Nat.beq j 1 then [3] else []) else (bif Nat.beq j 0 then [2] else []))) else []))))) else []
noncomputable def zbv (p j : Nat) : Option Int := bif Nat.ble 1 p && Nat.ble p 142 then some (qW0 p j) else none
noncomputable def zbb (p : Nat) : Option yI := bif Nat.ble 1 p && Nat.blt p 143 then (bif Nat.ble 80 p then (bif Nat.ble 113 p then (bif Nat.ble 128 p then (bif Nat.ble 135 p then (bif Nat.ble 139 p then (bif Nat.ble 141 p then (bif Nat.ble 142 p then (bif Nat.beq p 142 then some (0, 0) else none) else (bif Nat.beq p 141 then some (0, 0) else none)) else (bif Nat.ble 140 p then (bif Nat.beq p 140 then some (0, 0) else none) else (bif Nat.beq p 139 then some (0, 0) else none))) else (bif Nat.ble 137 p then (bif Nat.ble 138 p then (bif Nat.beq p 138 then some (0, 0) else none) else (bif Nat.beq p 137 then some (0, 0) else none)) else (bif Nat.ble 136 p then (bif Nat.beq p 136 then some (0, 0) else none) else (bif Nat.beq p 135 then some (0, 0) else none)))) else (bif Nat.ble 131 p then (bif Nat.ble 133 p then (bif Nat.ble 134 p then (bif Nat.beq p 134 then some (0, 0) else none) else (bif Nat.beq p 133 then some (0, 0) else none)) else (bif Nat.ble 132 p then (bif Nat.beq p 132 then some (0, 0) else none) else (bif Nat.beq p 131 then some (0, 0) else none))) else (bif Nat.ble 129 p then (bif Nat.ble 130 p then (bif Nat.beq p 130 then some (0, 0) else none) else (bif Nat.beq p 129 then some (0, 0) else none)) else (bif Nat.beq p 128 then some (0, 0) else none)))) else (bif Nat.ble 120 p then (bif Nat.ble 124 p then (bif Nat.ble 126 p then (bif Nat.ble 127 p then (bif Nat.beq p 127 then some (0, 0) else none) else (bif Nat.beq p 126 then some (0, 0) else none)) else (bif Nat.ble 125 p then (bif Nat.beq p 125 then some (0, 0) else none) else (bif Nat.beq p 124 then some (0, 0) else none))) else (bif Nat.ble 122 p then (bif Nat.ble 123 p then (bif Nat.beq p 123 then some (0, 0) else none) else (bif Nat.beq p 122 then some (0, 0) else none)) else (bif Nat.ble 121 p then (bif Nat.beq p 121 then some (0, 0) else none) else (bif Nat.beq p 120 then some (0, 0) else none)))) else (bif Nat.ble 116 p then (bif Nat.ble 118 p then (bif Nat.ble 119 p then (bif Nat.beq p 119 then some (0, 0) else none) else (bif Nat.beq p 118 then some (0, 0) else none)) else (bif Nat.ble 117 p then (bif Nat.beq p 117 then some (0, 0) else none) else (bif Nat.beq p 116 then some (0, 0) else none))) else (bif Nat.ble 114 p then (bif Nat.ble 115 p then (bif Nat.beq p 115 then some (0, 0) else none) else (bif Nat.beq p 114 then some (0, 0) else none)) else (bif Nat.beq p 113 then some (0, 0) else none))))) else (bif Nat.ble 98 p then (bif Nat.ble 105 p then (bif Nat.ble 109 p then (bif Nat.ble 111 p then (bif Nat.ble 112 p then (bif Nat.beq p 112 then some (0, 0) else none) else (bif Nat.beq p 111 then some (0, 0) else none)) else (bif Nat.ble 110 p then (bif Nat.beq p 110 then some (0, 0) else none) else (bif Nat.beq p 109 then some (0, 0) else none))) else (bif Nat.ble 107 p then (bif Nat.ble 108 p then (bif Nat.beq p 108 then some (0, 0) else none) else (bif Nat.beq p 107 then some (0, 0) else none)) else (bif Nat.ble 106 p then (bif Nat.beq p 106 then some (0, 0) else none) else (bif Nat.beq p 105 then some (0, 0) else none)))) else (bif Nat.ble 101 p then (bif Nat.ble 103 p then (bif Nat.ble 104 p then (bif Nat.beq p 104 then some (0, 0) else none) else (bif Nat.beq p 103 then some (0, 0) else none)) else (bif Nat.ble 102 p then (bif Nat.beq p 102 then some (0, 0) else none) else (bif Nat.beq p 101 then some (0, 0) else none))) else (bif Nat.ble 99 p then (bif Nat.ble 100 p then (bif Nat.beq p 100 then some (0, 0) else none) else (bif Nat.beq p 99 then some (0, 0) else none)) else (bif Nat.beq p 98 then some (0, 0) else none)))) else (bif Nat.ble 89 p then (bif Nat.ble 93 p then (bif Nat.ble 96 p then (bif Nat.ble 97 p then (bif Nat.beq p 97 then some (0, 0) else none) else (bif Nat.beq p 96 then some (0, 0) else none)) else (bif Nat.ble 94 p then (bif Nat.beq p 94 then some (0, 0) else none) else (bif Nat.beq p 93 then some (0, 0) else none))) else (bif Nat.ble 90 p then (bif Nat.ble 92 p then (bif Nat.beq p 92 then some (0, 0) else none) else (bif Nat.beq p 90 then some (0, 0) else none)) else (bif Nat.beq p 89 then some (0, 0) else none))) else (bif Nat.ble 84 p then (bif Nat.ble 86 p then (bif Nat.ble 88 p then (bif Nat.beq p 88 then some (0, 0) else none) else (bif Nat.beq p 86 then some (0, 0) else none)) else (bif Nat.ble 85 p then (bif Nat.beq p 85 then some (0, 0) else none) else (bif Nat.beq p 84 then some (0, 0) else none))) else (bif Nat.ble 81 p then (bif Nat.ble 82 p then (bif Nat.beq p 82 then some (0, 0) else none) else (bif Nat.beq p 81 then some (0, 0) else none)) else (bif Nat.beq p 80 then some (0, 0) else none)))))) else (bif Nat.ble 43 p then (bif Nat.ble 60 p then (bif Nat.ble 70 p then (bif Nat.ble 75 p then (bif Nat.ble 77 p then (bif Nat.ble 78 p then (bif Nat.beq p 78 then some (0, 0) else none) else (bif Nat.beq p 77 then some (0, 0) else none)) else (bif Nat.ble 76 p then (bif Nat.beq p 76 then some (0, 0) else none) else (bif Nat.beq p 75 then some (0, 65535) else none))) else (bif Nat.ble 72 p then (bif Nat.ble 73 p then (bif Nat.beq p 73 then some (0, 0) else none) else (bif Nat.beq p 72 then some (0, 0) else none)) else (bif Nat.ble 71 p then (bif Nat.beq p 71 then some (0, 0) else none) else (bif Nat.beq p 70 then some (0, 65535) else none)))) else (bif Nat.ble 65 p then (bif Nat.ble 67 p then (bif Nat.ble 68 p then (bif Nat.beq p 68 then some (0, 0) else none) else (bif Nat.beq p 67 then some (0, 0) else none)) else (bif Nat.ble 66 p then (bif Nat.beq p 66 then some (0, 0) else none) else (bif Nat.beq p 65 then some (0, 65535) else none))) else (bif Nat.ble 62 p then (bif Nat.ble 63 p then (bif Nat.beq p 63 then some (0, 0) else none) else (bif Nat.beq p 62 then some (0, 0) else none)) else (bif Nat.beq p 60 then some (0, 0) else none)))) else (bif Nat.ble 51 p then (bif Nat.ble 55 p then (bif Nat.ble 58 p then (bif Nat.ble 59 p then (bif Nat.beq p 59 then some (0, 0) else none) else (bif Nat.beq p 58 then some (0, 0) else none)) else (bif Nat.ble 56 p then (bif Nat.beq p 56 then some (0, 0) else none) else (bif Nat.beq p 55 then some (0, 0) else none))) else (bif Nat.ble 53 p then (bif Nat.ble 54 p then (bif Nat.beq p 54 then some (0, 0) else none) else (bif Nat.beq p 53 then some (0, 0) else none)) else (bif Nat.ble 52 p then (bif Nat.beq p 52 then some (0, 0) else none) else (bif Nat.beq p 51 then some (0, 0) else none)))) else (bif Nat.ble 47 p then (bif Nat.ble 49 p then (bif Nat.ble 50 p then (bif Nat.beq p 50 then some (0, 0) else none) else (bif Nat.beq p 49 then some (0, 1) else none)) else (bif Nat.ble 48 p then (bif Nat.beq p 48 then some (0, 0) else none) else (bif Nat.beq p 47 then some (0, 0) else none))) else (bif Nat.ble 44 p then (bif Nat.ble 46 p then (bif Nat.beq p 46 then some (0, 0) else none) else (bif Nat.beq p 44 then some (0, 0) else none)) else (bif Nat.beq p 43 then some (0, 0) else none))))) else (bif Nat.ble 26 p then (bif Nat.ble 34 p then (bif Nat.ble 38 p then (bif Nat.ble 40 p then (bif Nat.ble 42 p then (bif Nat.beq p 42 then some (0, 0) else none) else (bif Nat.beq p 40 then some (0, 0) else none)) else (bif Nat.ble 39 p then (bif Nat.beq p 39 then some (0, 0) else none) else (bif Nat.beq p 38 then some (0, 0) else none))) else (bif Nat.ble 36 p then (bif Nat.ble 37 p then (bif Nat.beq p 37 then some (0, 0) else none) else (bif Nat.beq p 36 then some (0, 0) else none)) else (bif Nat.ble 35 p then (bif Nat.beq p 35 then some (0, 0) else none) else (bif Nat.beq p 34 then some (0, 0) else none)))) else (bif Nat.ble 29 p then (bif Nat.ble 31 p then (bif Nat.ble 32 p then (bif Nat.beq p 32 then some (0, 0) else none) else (bif Nat.beq p 31 then some (0, 0) else none)) else (bif Nat.ble 30 p then (bif Nat.beq p 30 then some (0, 0) else none) else (bif Nat.beq p 29 then some (0, 0) else none))) else (bif Nat.ble 27 p then (bif Nat.ble 28 p then (bif Nat.beq p 28 then some (0, 0) else none) else (bif Nat.beq p 27 then some (0, 0) else none)) else (bif Nat.beq p 26 then some (0, 0) else none)))) else (bif Nat.ble 14 p then (bif Nat.ble 18 p then (bif Nat.ble 22 p then (bif Nat.ble 25 p then (bif Nat.beq p 25 then some (0, 0) else none) else (bif Nat.beq p 22 then some (0, 0) else none)) else (bif Nat.ble 20 p then (bif Nat.beq p 20 then some (0, 0) else none) else (bif Nat.beq p 18 then some (0, 0) else none))) else (bif Nat.ble 15 p then (bif Nat.ble 16 p then (bif Nat.beq p 16 then some (0, 0) else none) else (bif Nat.beq p 15 then some (0, 0) else none)) else (bif Nat.beq p 14 then some (0, 0) else none))) else (bif Nat.ble 9 p then (bif Nat.ble 11 p then (bif Nat.ble 13 p then (bif Nat.beq p 13 then some (0, 0) else none) else (bif Nat.beq p 11 then some (0, 0) else none)) else (bif Nat.ble 10 p then (bif Nat.beq p 10 then some (0, 0) else none) else (bif Nat.beq p 9 then some (0, 0) else none))) else (bif Nat.ble 6 p then (bif Nat.ble 7 p then (bif Nat.beq p 7 then some (0, 0) else none) else (bif Nat.beq p 6 then some (0, 0) else none)) else (bif Nat.beq p 5 then some (0, 0) else none))))))) else none
noncomputable def zSp : qW → Prop := fun _ => True
theorem zblt_f {a b : Nat} (h : b ≤ a) : Nat.blt a b = false := by
  cases hq : Nat.blt a b
  · rfl
  · exact absurd (Nat.blt_eq.mp hq) (by omega)
theorem qW0_hi (p : Nat) {j : Nat} (h : 80 ≤ j) : qW0 p j = 0 := by
  unfold qW0
  simp (disch := omega) only [qbeq_f, qble_t, zblt_f, Bool.cond_self, cond_true, cond_false]
/-- a world as the constructors leave it -/
noncomputable def zF (w : qW) : Prop := ∀ p j, 1 ≤ p → p ≤ 142 → w p j = qW0 p j
noncomputable def zall (n m : Nat) (f : Nat → Nat → Bool) : Bool := (List.range n).all (fun p => (List.range m).all (fun j => f p j))
theorem zall_of {n m : Nat} {f : Nat → Nat → Bool} (h : zall n m f = true) {p j : Nat} (hp : p < n) (hj : j < m) : f p j = true := List.all_eq_true.mp (List.all_eq_true.mp h p (List.mem_range.mpr hp)) j (List.mem_range.mpr hj)
theorem zbb_c : zall 143 80 (fun p j => match zbb p with
  | some b => yle b.1 (qW0 p j) && (yle (qW0 p j) b.2 && (yle b.1 0 && (yle 0 b.2 && Nat.ble 1 p)))
  | none => true) = true := by decide +kernel
theorem zbb_in {p : Nat} {r : yI} (h : zbb p = some r) : 1 ≤ p ∧ p < 143 := by
  unfold zbb at h
  by_cases c : (Nat.ble 1 p && Nat.blt p 143) = true
  · rw [Bool.and_eq_true, Nat.blt_eq] at c
    exact ⟨Nat.le_of_ble_eq_true c.1, c.2⟩
  · rw [ybf c] at h; cases h
theorem zbb_ok {p : Nat} {r : yI} (h : zbb p = some r) (j : Nat) : yin r (qW0 p j) := by
  obtain ⟨h1, h2⟩ := zbb_in h
  by_cases hj : j < 80
  · have := zall_of zbb_c h2 hj
    rw [h] at this
    have this : (yle r.1 (qW0 p j) && (yle (qW0 p j) r.2 && (yle r.1 0 && (yle 0 r.2 && Nat.ble 1 p)))) = true := this
    rw [Bool.and_eq_true, Bool.and_eq_true, yle_i, yle_i] at this
    exact ⟨this.1, this.2.1⟩
  · have := zall_of zbb_c h2 (show 0 < 80 by decide)
    rw [h] at this
    have this : (yle r.1 (qW0 p 0) && (yle (qW0 p 0) r.2 && (yle r.1 0 && (yle 0 r.2 && Nat.ble 1 p)))) = true := this
    rw [Bool.and_eq_true, Bool.and_eq_true, Bool.and_eq_true, Bool.and_eq_true, yle_i, yle_i, yle_i, yle_i] at this
    rw [qW0_hi p (by omega)]
    exact ⟨this.2.2.1, this.2.2.2.1⟩
/-- tables of ranges that the fresh pair keeps -/
noncomputable def zfit (gf : Nat → Nat → Option yI) (ga : Nat → Option yI) (ra : Nat → Nat → List Int) : Bool := zall 143 81 (fun p j => (match gf p j with
  | some b => Nat.ble 1 p && (yle b.1 (qW0 p j) && yle (qW0 p j) b.2)
  | none => true) && ((match ra p j with
  | [] => true
  | c :: l => Nat.ble 1 p && (c :: l).any (yqi (qW0 p j))) && (match ga p with
  | some b => (match zbb p with
    | some r => yle b.1 r.1 && yle r.2 b.2
    | none => false)
  | none => true)))
theorem zinv {gf : Nat → Nat → Option yI} {ga : Nat → Option yI} {ra : Nat → Nat → List Int} (hc : zfit gf ga ra = true) (h1 : ∀ p j, gf p j ≠ none → p < 143 ∧ j < 81) (h2 : ∀ p, ga p ≠ none → p < 143) (h3 : ∀ p j, ra p j ≠ [] → p < 143 ∧ j < 81) {w : qW} (hF : zF w) : yInv gf ga ra zSp w := by
  refine ⟨fun p j b hb _ => ?_, fun p j b hb _ => ?_, fun p j hr _ => ?_, trivial⟩
  · obtain ⟨k1, k2⟩ := h1 p j (by rw [hb]; exact fun z => by cases z)
    have := zall_of hc k1 k2
    rw [Bool.and_eq_true, hb] at this
    have := this.1
    have this : (Nat.ble 1 p && (yle b.1 (qW0 p j) && yle (qW0 p j) b.2)) = true := this
    rw [Bool.and_eq_true, Bool.and_eq_true, yle_i, yle_i] at this
    rw [hF p j (Nat.le_of_ble_eq_true this.1) (by omega)]
    exact ⟨this.2.1, this.2.2⟩
  · have k1 := h2 p (by rw [hb]; exact fun z => by cases z)
    have := zall_of hc k1 (show 0 < 81 by decide)
    rw [Bool.and_eq_true, Bool.and_eq_true, hb] at this
    have := this.2.2
    cases hq : zbb p with
    | none => rw [hq] at this; cases this
    | some r =>
      rw [hq] at this
      have this : (yle b.1 r.1 && yle r.2 b.2) = true := this
      rw [Bool.and_eq_true, yle_i, yle_i] at this
      have k3 := zbb_in hq
      have k2 := zbb_ok hq j
      rw [hF p j k3.1 (by omega)]
      exact ⟨Int.le_trans this.1 k2.1, Int.le_trans k2.2 this.2⟩
  · obtain ⟨k1, k2⟩ := h3 p j hr
    have := zall_of hc k1 k2
    rw [Bool.and_eq_true, Bool.and_eq_true] at this
    have := this.2.1
    cases hq : ra p j with
    | nil => exact absurd hq hr
    | cons c l =>
      rw [hq] at this
      have this : (Nat.ble 1 p && (c :: l).any (yqi (qW0 p j))) = true := this
      rw [Bool.and_eq_true] at this
      obtain ⟨v, q1, q2⟩ := List.any_eq_true.mp this.2
      rw [hF p j (Nat.le_of_ble_eq_true this.1) (by omega), yqi_i.mp q2]
      exact q1
theorem zg2 {p j : Nat} {α : Type} {x : Option α} (h : (bif Nat.blt p 143 && Nat.blt j 81 then x else none) ≠ none) : p < 143 ∧ j < 81 := by
  by_cases c : (Nat.blt p 143 && Nat.blt j 81) = true
  · rw [Bool.and_eq_true, Nat.blt_eq, Nat.blt_eq] at c; exact c
  · rw [ybf c] at h; exact absurd rfl h
theorem zg3 {p j : Nat} {α : Type} {x : List α} (h : (bif Nat.blt p 143 && Nat.blt j 81 then x else []) ≠ []) : p < 143 ∧ j < 81 := by
  by_cases c : (Nat.blt p 143 && Nat.blt j 81) = true
  · rw [Bool.and_eq_true, Nat.blt_eq, Nat.blt_eq] at c; exact c
  · rw [ybf c] at h; exact absurd rfl h
theorem zg1 {p : Nat} {α : Type} {x : Option α} (h : (bif Nat.blt p 143 then x else none) ≠ none) : p < 143 := by
  by_cases c : Nat.blt p 143 = true
  · exact Nat.blt_eq.mp c
  · rw [ybf c] at h; exact absurd rfl h
theorem zinv1 {w : qW} (hF : zF w) : yInv zgf zga zra zSp w := zinv (by decide +kernel) (fun p j h => zg2 h) (fun p h => zg1 h) (fun p j h => zg3 h) hF
theorem zbv_ok {w : qW} (hF : zF w) : ∀ p j c, zbv p j = some c → w p j = c := fun p j c h => by
  unfold zbv at h
  by_cases k : (Nat.ble 1 p && Nat.ble p 142) = true
  · rw [k] at h
    have h : some (qW0 p j) = some c := h
    cases h
    rw [Bool.and_eq_true] at k
    exact hF p j (Nat.le_of_ble_eq_true k.1) (Nat.le_of_ble_eq_true k.2)
  · rw [ybf k] at h; cases h
theorem zbb_ok1 {w : qW} (hF : zF w) : ∀ p r, zbb p = some r → ∀ j, yin r (w p j) := fun p r h j => by
  have := zbb_in h
  rw [hF p j this.1 (by omega)]
  exact zbb_ok h j
theorem zSp_ok {gf : Nat → Nat → Option yI} {ga : Nat → Option yI} {ra : Nat → Nat → List Int} : ∀ (w w' : qW) p, (yarr p = false → (∃ j, gf p j ≠ none) ∨ ∃ j, ra p j ≠ []) → (yarr p = true → ga p ≠ none) → (∀ q, q ≠ p → ∀ i, w' q i = w q i) → zSp w → zSp w' := fun _ _ _ _ _ _ _ => trivial
end
section
/-! results that are functions: neighbours, and with a number -/
theorem ylnil {P : Nat → yC → Prop} : ∀ e ∈ ([] : List (Nat × yC)), P e.1 e.2 := fun _ h => by cases h
theorem ylcons {P : Nat → yC → Prop} {a : Nat × yC} {l : List (Nat × yC)} (ha : P a.1 a.2) (hl : ∀ e ∈ l, P e.1 e.2) : ∀ e ∈ a :: l, P e.1 e.2 := fun e he => by
  rcases List.mem_cons.mp he with rfl | he
  · exact ha
  · exact hl e he
theorem yCOK.sub {w0 w : qW} {gf : Nat → Nat → Option yI} {ga : Nat → Option yI} {ra : Nat → Nat → List Int} {Sp : qW → Prop} {gh : Nat → List Int → Int} {t : Nat} {c : yC} (h : yCOK w0 gf ga ra Sp gh t c) (hw : ∀ p, ymem p c.2.2.2.2.1 = true → ∀ j, w p j = w0 p j) : yCOK w gf ga ra Sp gh t c := fun d as w1 a1 a2 a3 a4 a5 => h d as w1 a1 a2 a3 (fun p hp j => (a4 p hp j).trans (hw p hp j)) a5
noncomputable def zgh (g : Nat) (l : List Int) : Int := bif Nat.beq g 1000 then (match l with
  | [x, c] => qand x c
  | _ => 0) else bif Nat.beq g 1 then (match l with
  | [s, t] => bif nbB s.toNat t.toNat then 1 else 0
  | _ => 0) else bif Nat.beq g 2 then (match l with
  | [s, c] => qdiv 940 (2 * s + 5 * c)
  | _ => 0) else 0
theorem zgh0 : ∀ x c, zgh 1000 [x, c] = qand x c := fun _ _ => rfl
noncomputable def C_areNm : Nat × yC := (213, (1, [(0, 0, 15), (0, 0, 15)], (0, 0, 1), [], [], [], [], 1, [0, 1]))
theorem T_areNm {w0 : qW} : yCOK w0 zgf zga zra zSp zgh C_areNm.1 C_areNm.2 := yctr (bv := fun _ _ => none) (bb := fun _ => none) (ct := yctl []) (an := fun k pc => none) (fk := fun k pc => bif Nat.beq k 213 then (bif Nat.beq pc 0 then some 0 else bif Nat.beq pc 1 then some 1 else none) else none) (f := 100000) zgh0 (fun _ _ _ h => by cases h) (fun _ _ h => by cases h) zSp_ok (fun w hw => yctl_ok (P := fun t c => yCOK w zgf zga zra zSp zgh t c) ylnil) (by decide +kernel)
end
section
/-! the class: spread ends, by hand -/
theorem qG.lldz {sc : Option (Nat × (Nat → Int))} {d k pc n m x len : Nat} {ls r : List qV} {w : qW} {Q : qV → qW → Nat → Prop} {i p : Int} (hq : qcd k pc = some (.laload, len)) (hp : qpl p.toNat = (1, 1, m, x)) (hi : 0 ≤ i ∧ i < (m : Int)) (h0 : 0 < p ∧ p ≤ (n : Int)) (g : qG sc d k (pc + 1) ls ((1, w p.toNat i.toNat) :: r) w n Q) : qG sc d k pc ls ((0, i) :: (2, p) :: r) w n Q := by
  refine qG.one (pc' := pc + 1) (ls' := ls) (st' := (1, w p.toNat i.toNat) :: r) (w' := w) (n' := n) ?_ g
  unfold qone
  rw [hq]
  show qs1 sc k .laload len pc ls ((0, i) :: (2, p) :: r) w n = _
  rw [qs1_laload]
  show (match qpl p.toNat with
    | (1, 1, m, _) => if 0 ≤ i ∧ i < (m : Int) then (if 0 < p ∧ p ≤ (n : Int) then some (pc + 1, ls, (1, w p.toNat i.toNat) :: r, w, n) else none) else none
    | _ => none) = _
  rw [hp]
  show (if 0 ≤ i ∧ i < (m : Int) then (if 0 < p ∧ p ≤ (n : Int) then some (pc + 1, ls, (1, w p.toNat i.toNat) :: r, w, n) else none) else none) = _
  rw [if_pos hi, if_pos h0]
/-! worlds of which the ranges and what stays are known -/
/-- w' keeps the ranges, and differs from w at the places m alone -/
noncomputable def AW (m : List Nat) (w w' : qW) : Prop := yInv zgf zga zra zSp w' ∧ ∀ p j, (p < 1000 → ymo p j m = false) → w' p j = w p j
theorem AW.rf {m : List Nat} {w : qW} (h : yInv zgf zga zra zSp w) : AW m w w := ⟨h, fun _ _ _ => rfl⟩
theorem ymem_in {p : Nat} : ∀ {Z : List Nat}, ymem p Z = true → p ∈ Z
  | [], h => by cases h
  | q :: Z, h => by
    have h : (Nat.beq q p || ymem p Z) = true := h
    rw [Bool.or_eq_true] at h
    rcases h with h | h
    · rw [Nat.eq_of_beq_eq_true h]; exact List.mem_cons_self
    · exact List.mem_cons_of_mem _ (ymem_in h)
noncomputable def ysubm (a b : List Nat) : Bool := a.all (fun e => ymem e b || (Nat.ble 1000 e && ymem (e % 1000) b))
theorem ysubm_ok {a b : List Nat} (h : ysubm a b = true) {p j : Nat} (hp : p < 1000) (hb : ymo p j b = false) : ymo p j a = false := by
  have hb : (ymem p b || ymem (1000 * (j + 1) + p) b) = false := hb
  rw [Bool.or_eq_false_iff] at hb
  have key : ∀ e, e = p ∨ e = 1000 * (j + 1) + p → ymem e a = false := fun e he => by
    cases hq : ymem e a with
    | false => rfl
    | true =>
      exfalso
      have := List.all_eq_true.mp h e (ymem_in hq)
      rw [Bool.or_eq_true] at this
      rcases this with k | k
      · rcases he with rfl | rfl
        · rw [hb.1] at k; cases k
        · rw [hb.2] at k; cases k
      · rw [Bool.and_eq_true] at k
        have k1 := Nat.le_of_ble_eq_true k.1
        rcases he with rfl | rfl
        · omega
        · rw [show (1000 * (j + 1) + p) % 1000 = p by omega, hb.1] at k; cases k.2
  show (ymem p a || ymem (1000 * (j + 1) + p) a) = false
  rw [key p (.inl rfl), key _ (.inr rfl)]; rfl
theorem AW.tr {m n : List Nat} {w w1 w2 : qW} (h : AW m w w1) (h2 : AW n w1 w2) (hs : ysubm n m = true) : AW m w w2 := ⟨h2.1, fun p j hp => (h2.2 p j (fun k => ysubm_ok hs k (hp k))).trans (h.2 p j hp)⟩
theorem AW.use {t : Nat} {c : yC} {m : List Nat} {w w1 : qW} {d : Nat} {as : List qV} (T : yCOK w1 zgf zga zra zSp zgh t c) (h : AW m w w1) (hd : c.1 ≤ d) (ha : yamc c.2.1 as) (hn : c.2.2.2.2.1 = []) (hp : c.2.2.2.2.2.1 = []) (hs : ysubm c.2.2.2.1 m = true) : qG none d t 0 (qini t as) [] w1 142 (fun v w' n' => ∃ x, v = (c.2.2.1.1, x) ∧ c.2.2.1.2.1 ≤ x ∧ x ≤ c.2.2.1.2.2 ∧ AW m w w' ∧ n' = 142 ∧ AW c.2.2.2.1 w1 w') := by
  refine qG.mono (T d as w1 hd ha h.1 (fun p hp => by rw [hn] at hp; cases hp) (fun e he => by rw [hp] at he; cases he)) (fun v w' n' hh => ?_)
  obtain ⟨⟨h1, h2, h3⟩, h4, h5, h6, -, -⟩ := hh
  have a : AW c.2.2.2.1 w1 w' := ⟨h4, h6⟩
  exact ⟨v.2, Prod.ext h1 rfl, h2, h3, h.tr a hs, h5, a⟩
theorem args3r {as : List qV} {a b c : Int} (h : yamc [(2, a, a), (2, b, b), (2, c, c)] as) : as = [(2, a), (2, b), (2, c)] := by
  match as, h with
  | [(a1, a2), (b1, b2), (c1, c2)], h =>
    obtain ⟨⟨x1, x2, x3⟩, ⟨y1, y2, y3⟩, ⟨z1, z2, z3⟩, -⟩ := h
    have x1 : a1 = 2 := x1
    have y1 : b1 = 2 := y1
    have z1 : c1 = 2 := z1
    have x2 : a ≤ a2 := x2
    have x3 : a2 ≤ a := x3
    have y2 : b ≤ b2 := y2
    have y3 : b2 ≤ b := y3
    have z2 : c ≤ c2 := z2
    have z3 : c2 ≤ c := z3
    rw [x1, y1, z1, show a2 = a by omega, show b2 = b by omega, show c2 = c by omega]
theorem AW.nilz {w w1 : qW} (h : AW [] w w1) : w1 = w := by funext p j; exact h.2 p j (fun _ => rfl)
theorem zrefz {w : qW} (hI : yInv zgf zga zra zSp w) {p j : Nat} {v : Int} (h : zra p j = [v]) (hy : yarr p = false) : w p j = v := List.mem_singleton.mp (h ▸ hI.2.2.1 p j (by rw [h]; exact List.cons_ne_nil _ _) hy)
theorem qlandz (x y : Int) : qi64 (qland x y) := i64_in _
theorem qlorz (x y : Int) : qi64 (qlor x y) := i64_in _
theorem arrz {w : qW} (hI : yInv zgf zga zra zSp w) {p j : Nat} (h : zga p = some (-9223372036854775808, 9223372036854775807)) (hy : yarr p = true) : qi64 (w p j) := by
  have q : yin (-9223372036854775808, 9223372036854775807) (w p j) := hI.2.1 p j _ h hy
  have q1 : (-9223372036854775808 : Int) ≤ w p j := q.1
  have q2 : w p j ≤ (9223372036854775807 : Int) := q.2
  exact ⟨q1, by omega⟩
theorem i64l {x : Int} (h : qi64 x) : (-9223372036854775808 : Int) ≤ x := h.1
theorem i64u {x : Int} (h : qi64 x) : x ≤ (9223372036854775807 : Int) := by
  have q2 : x < 9223372036854775808 := h.2
  omega
noncomputable def C_nTZL : Nat × yC := (303, (2, [(1, (-9223372036854775808), 9223372036854775807)], (0, 0, 64), [], [], [], [], 0, []))
theorem T_nTZL {w0 : qW} : yCOK w0 zgf zga zra zSp zgh C_nTZL.1 C_nTZL.2 := yctr (bv := fun _ _ => none) (bb := fun _ => none) (ct := yctl []) (an := fun k pc => none) (fk := fun k pc => none) (f := 100000) zgh0 (fun _ _ _ h => by cases h) (fun _ _ h => by cases h) zSp_ok (fun w hw => yctl_ok (P := fun t c => yCOK w zgf zga zra zSp zgh t c) ylnil) (by decide +kernel)
noncomputable def C_putRow27 : Nat × yC := (105, (1, [(2, 27, 27), (1, (-9223372036854775808), 9223372036854775807), (1, (-9223372036854775808), 9223372036854775807), (1, (-9223372036854775808), 9223372036854775807)], (9, 0, 0), [27], [], [], [], 0, []))
theorem T_putRow27 {w0 : qW} : yCOK w0 zgf zga zra zSp zgh C_putRow27.1 C_putRow27.2 := yctr (bv := fun _ _ => none) (bb := fun _ => none) (ct := yctl []) (an := fun k pc => none) (fk := fun k pc => none) (f := 100000) zgh0 (fun _ _ _ h => by cases h) (fun _ _ h => by cases h) zSp_ok (fun w hw => yctl_ok (P := fun t c => yCOK w zgf zga zra zSp zgh t c) ylnil) (by decide +kernel)
noncomputable def C_putRow28 : Nat × yC := (105, (1, [(2, 28, 28), (1, (-9223372036854775808), 9223372036854775807), (1, (-9223372036854775808), 9223372036854775807), (1, (-9223372036854775808), 9223372036854775807)], (9, 0, 0), [28], [], [], [], 0, []))
theorem T_putRow28 {w0 : qW} : yCOK w0 zgf zga zra zSp zgh C_putRow28.1 C_putRow28.2 := yctr (bv := fun _ _ => none) (bb := fun _ => none) (ct := yctl []) (an := fun k pc => none) (fk := fun k pc => none) (f := 100000) zgh0 (fun _ _ _ h => by cases h) (fun _ _ h => by cases h) zSp_ok (fun w hw => yctl_ok (P := fun t c => yCOK w zgf zga zra zSp zgh t c) ylnil) (by decide +kernel)
noncomputable def C_putRow35 : Nat × yC := (105, (1, [(2, 35, 35), (1, (-9223372036854775808), 9223372036854775807), (1, (-9223372036854775808), 9223372036854775807), (1, (-9223372036854775808), 9223372036854775807)], (9, 0, 0), [35], [], [], [], 0, []))
theorem T_putRow35 {w0 : qW} : yCOK w0 zgf zga zra zSp zgh C_putRow35.1 C_putRow35.2 := yctr (bv := fun _ _ => none) (bb := fun _ => none) (ct := yctl []) (an := fun k pc => none) (fk := fun k pc => none) (f := 100000) zgh0 (fun _ _ _ h => by cases h) (fun _ _ h => by cases h) zSp_ok (fun w hw => yctl_ok (P := fun t c => yCOK w zgf zga zra zSp zgh t c) ylnil) (by decide +kernel)
noncomputable def C_putRow36 : Nat × yC := (105, (1, [(2, 36, 36), (1, (-9223372036854775808), 9223372036854775807), (1, (-9223372036854775808), 9223372036854775807), (1, (-9223372036854775808), 9223372036854775807)], (9, 0, 0), [36], [], [], [], 0, []))
theorem T_putRow36 {w0 : qW} : yCOK w0 zgf zga zra zSp zgh C_putRow36.1 C_putRow36.2 := yctr (bv := fun _ _ => none) (bb := fun _ => none) (ct := yctl []) (an := fun k pc => none) (fk := fun k pc => none) (f := 100000) zgh0 (fun _ _ _ h => by cases h) (fun _ _ h => by cases h) zSp_ok (fun w hw => yctl_ok (P := fun t c => yCOK w zgf zga zra zSp zgh t c) ylnil) (by decide +kernel)
noncomputable def C_putRow37 : Nat × yC := (105, (1, [(2, 37, 37), (1, (-9223372036854775808), 9223372036854775807), (1, (-9223372036854775808), 9223372036854775807), (1, (-9223372036854775808), 9223372036854775807)], (9, 0, 0), [37], [], [], [], 0, []))
theorem T_putRow37 {w0 : qW} : yCOK w0 zgf zga zra zSp zgh C_putRow37.1 C_putRow37.2 := yctr (bv := fun _ _ => none) (bb := fun _ => none) (ct := yctl []) (an := fun k pc => none) (fk := fun k pc => none) (f := 100000) zgh0 (fun _ _ _ h => by cases h) (fun _ _ h => by cases h) zSp_ok (fun w hw => yctl_ok (P := fun t c => yCOK w zgf zga zra zSp zgh t c) ylnil) (by decide +kernel)
noncomputable def C_putRow38 : Nat × yC := (105, (1, [(2, 38, 38), (1, (-9223372036854775808), 9223372036854775807), (1, (-9223372036854775808), 9223372036854775807), (1, (-9223372036854775808), 9223372036854775807)], (9, 0, 0), [38], [], [], [], 0, []))
theorem T_putRow38 {w0 : qW} : yCOK w0 zgf zga zra zSp zgh C_putRow38.1 C_putRow38.2 := yctr (bv := fun _ _ => none) (bb := fun _ => none) (ct := yctl []) (an := fun k pc => none) (fk := fun k pc => none) (f := 100000) zgh0 (fun _ _ _ h => by cases h) (fun _ _ h => by cases h) zSp_ok (fun w hw => yctl_ok (P := fun t c => yCOK w zgf zga zra zSp zgh t c) ylnil) (by decide +kernel)
theorem K_spreadZ27_28 {d : Nat} (hd : 5 ≤ d) (w : qW) (hI : yInv zgf zga zra zSp w) : qG none d 101 0 [(2, 24), (2, 27), (2, 28), (9, 0), (9, 0), (9, 0), (9, 0), (9, 0), (9, 0), (9, 0), (9, 0), (9, 0), (9, 0), (9, 0)] [] w 142 (fun (r : qV) (w1 : qW) (n1 : Nat) => r = (9, 0) ∧ n1 = 142 ∧ AW [28] w w1) := by
  generalize hQ9 : (fun (r : qV) (w1 : qW) (n1 : Nat) => r = (9, 0) ∧ n1 = 142 ∧ AW [28] w w1) = Q9
  obtain ⟨N5, hN5⟩ : ∃ N : Int, N = 540 := ⟨_, rfl⟩
  obtain ⟨d, rfl⟩ : ∃ d9, d = d9 + 1 := ⟨d - 1, by omega⟩
  refine qG.blk 8 (pc' := 11) (ls' := [(2, 24), (2, 27), (2, 28), (1, 0), (9, 0), (1, 0), (9, 0), (1, 0), (9, 0), (0, 0), (9, 0), (9, 0), (9, 0), (9, 0)]) (st' := []) (w' := w) (n' := 142) rfl ?_
  have L11 : ∀ (m9 : Nat) (g : Nat) (a b c : Int) (l10 l12 l13 : qV), 3 - g = m9 → (g ≤ 3 ∧ qi64 a ∧ qi64 b ∧ qi64 c) → qG none (d + 1) 101 11 [(2, 24), (2, 27), (2, 28), (1, a), (9, 0), (1, b), (9, 0), (1, c), (9, 0), (0, ((g : Nat) : Int)), l10, (9, 0), l12, l13] [] w 142 Q9 := by
    intro m9
    induction m9 using Nat.strongRecOn with
    | ind m9 ih11 =>
    intro g a b c l10 l12 l13 hm11 hI11
    obtain ⟨hg3, ha, hb, hc⟩ := hI11
    refine qG.blk 2 (pc' := 14) (ls' := [(2, 24), (2, 27), (2, 28), (1, a), (9, 0), (1, b), (9, 0), (1, c), (9, 0), (0, ((g : Nat) : Int)), l10, (9, 0), l12, l13]) (st' := [(0, 3), (0, ((g : Nat) : Int))]) (w' := w) (n' := 142) rfl ?_
    refine qG.br (P := ((g : Nat) : Int) < 3) (pc1 := 17) (pc2 := 138) (st1 := []) rfl (fun hg => ?_) (fun hg => ?_)
    · skip
      refine qG.blk 3 (pc' := 21) (ls' := [(2, 24), (2, 27), (2, 28), (1, a), (9, 0), (1, b), (9, 0), (1, c), (9, 0), (0, ((g : Nat) : Int)), l10, (9, 0), l12, l13]) (st' := [(0, 3), (0, ((g : Nat) : Int))]) (w' := w) (n' := 142) rfl ?_
      refine qG.br (P := ((g : Nat) : Int) < 3) (pc1 := 24) (pc2 := 138) (st1 := []) rfl (fun hgl => ?_) (fun hgl => ?_)
      · skip
        refine qG.blk 2 (pc' := 27) (ls' := [(2, 24), (2, 27), (2, 28), (1, a), (9, 0), (1, b), (9, 0), (1, c), (9, 0), (0, ((g : Nat) : Int)), l10, (9, 0), l12, l13]) (st' := [(0, ((g : Nat) : Int)), (2, 27)]) (w' := w) (n' := 142) rfl ?_
        refine qG.ar (P := 0 ≤ ((g : Nat) : Int) ∧ ((g : Nat) : Int) < ((3 : Nat) : Int)) (P2 := 0 < (27 : Int) ∧ (27 : Int) ≤ ((142 : Nat) : Int)) (pc' := 28) (ls' := [(2, 24), (2, 27), (2, 28), (1, a), (9, 0), (1, b), (9, 0), (1, c), (9, 0), (0, ((g : Nat) : Int)), l10, (9, 0), l12, l13]) (st' := [(1, w 27 g)]) (w' := w) (n' := 142) rfl (by omega) (by decide) ?_
        refine qG.blk 3 (pc' := 33) (ls' := [(2, 24), (2, 27), (2, 28), (1, a), (9, 0), (1, b), (9, 0), (1, c), (9, 0), (0, ((g : Nat) : Int)), (1, w 27 g), (9, 0), (0, 0), l13]) (st' := []) (w' := w) (n' := 142) rfl ?_
        have L33 : ∀ (m9 : Nat) (i : Nat) (a b c x : Int) (l13 : qV), 64 - i = m9 → (i ≤ 64 ∧ qi64 a ∧ qi64 b ∧ qi64 c ∧ qi64 x) → qG none (d + 1) 101 33 [(2, 24), (2, 27), (2, 28), (1, a), (9, 0), (1, b), (9, 0), (1, c), (9, 0), (0, ((g : Nat) : Int)), (1, x), (9, 0), (0, ((i : Nat) : Int)), l13] [] w 142 Q9 := by
          intro m9
          induction m9 using Nat.strongRecOn with
          | ind m9 ih33 =>
          intro i a b c x l13 hm33 hI33
          obtain ⟨hi64, ha, hb, hc, hx⟩ := hI33
          refine qG.blk 2 (pc' := 37) (ls' := [(2, 24), (2, 27), (2, 28), (1, a), (9, 0), (1, b), (9, 0), (1, c), (9, 0), (0, ((g : Nat) : Int)), (1, x), (9, 0), (0, ((i : Nat) : Int)), l13]) (st' := [(0, 64), (0, ((i : Nat) : Int))]) (w' := w) (n' := 142) rfl ?_
          refine qG.br (P := ((i : Nat) : Int) < 64) (pc1 := 40) (pc2 := 132) (st1 := []) rfl (fun hi65 => ?_) (fun hi65 => ?_)
          · skip
            refine qG.blk 3 (pc' := 44) (ls' := [(2, 24), (2, 27), (2, 28), (1, a), (9, 0), (1, b), (9, 0), (1, c), (9, 0), (0, ((g : Nat) : Int)), (1, x), (9, 0), (0, ((i : Nat) : Int)), l13]) (st' := [(0, qcmp x 0)]) (w' := w) (n' := 142) rfl ?_
            refine qG.br (P := qcmp x 0 = 0) (pc1 := 132) (pc2 := 47) (st1 := []) rfl (fun hx0 => ?_) (fun hx0 => ?_)
            · skip
              refine qG.blk 1 (pc' := 135) (ls' := [(2, 24), (2, 27), (2, 28), (1, a), (9, 0), (1, b), (9, 0), (1, c), (9, 0), (0, wrp (((g : Nat) : Int) + 1)), (1, x), (9, 0), (0, ((i : Nat) : Int)), l13]) (st' := []) (w' := w) (n' := 142) rfl ?_
              rw [show wrp (((g : Nat) : Int) + 1) = ((g + 1 : Nat) : Int) from wrp_id (by omega) (by omega)]
              refine qG.blk 1 (pc' := 11) (ls' := [(2, 24), (2, 27), (2, 28), (1, a), (9, 0), (1, b), (9, 0), (1, c), (9, 0), (0, ((g + 1 : Nat) : Int)), (1, x), (9, 0), (0, ((i : Nat) : Int)), l13]) (st' := []) (w' := w) (n' := 142) rfl ?_
              exact ih11 _ (by omega) (g + 1) (a) (b) (c) ((1, x)) ((0, ((i : Nat) : Int))) (l13) rfl (⟨by omega, ha, hb, hc⟩)
            · skip
              refine qG.blk 4 (pc' := 53) (ls' := [(2, 24), (2, 27), (2, 28), (1, a), (9, 0), (1, b), (9, 0), (1, c), (9, 0), (0, ((g : Nat) : Int)), (1, x), (9, 0), (0, ((i : Nat) : Int)), l13]) (st' := [(0, wrp (64 * ((g : Nat) : Int))), (0, 3)]) (w' := w) (n' := 142) rfl ?_
              rw [show wrp (64 * ((g : Nat) : Int)) = ((64 * g : Nat) : Int) from by rw [wrp_id (by omega) (by omega)]; omega]
              refine qG.blk 1 (pc' := 55) (ls' := [(2, 24), (2, 27), (2, 28), (1, a), (9, 0), (1, b), (9, 0), (1, c), (9, 0), (0, ((g : Nat) : Int)), (1, x), (9, 0), (0, ((i : Nat) : Int)), l13]) (st' := [(1, x), (0, ((64 * g : Nat) : Int)), (0, 3)]) (w' := w) (n' := 142) rfl ?_
              refine qG.call (t := 303) (na := 1) (sk := 0) (md := 0) (ls1 := [(1, x), (9, 0), (9, 0)]) (r1 := [(0, ((64 * g : Nat) : Int)), (0, 3)]) rfl rfl rfl rfl rfl (AW.use (c := C_nTZL.2) (as := [(1, x)]) (m := []) T_nTZL (AW.rf hI) (show 2 ≤ d by omega) ⟨⟨rfl, i64l hx, i64u hx⟩, trivial⟩ rfl rfl (by decide +kernel)) ?_
              rintro _ w7 _ ⟨x7, rfl, hl7, hu7, hA7, rfl, -⟩
              have e7 := hA7.nilz
              rw [e7]
              have hl7 : (0 : Int) ≤ x7 := hl7
              have hu7 : x7 ≤ (64 : Int) := hu7
              obtain ⟨s, rfl⟩ : ∃ s : Nat, x7 = (s : Int) := ⟨x7.toNat, by omega⟩
              show qG none (d + 1) 101 58 [(2, 24), (2, 27), (2, 28), (1, a), (9, 0), (1, b), (9, 0), (1, c), (9, 0), (0, ((g : Nat) : Int)), (1, x), (9, 0), (0, ((i : Nat) : Int)), l13] [(0, ((s : Nat) : Int)), (0, ((64 * g : Nat) : Int)), (0, 3)] w 142 Q9
              refine qG.blk 1 (pc' := 59) (ls' := [(2, 24), (2, 27), (2, 28), (1, a), (9, 0), (1, b), (9, 0), (1, c), (9, 0), (0, ((g : Nat) : Int)), (1, x), (9, 0), (0, ((i : Nat) : Int)), l13]) (st' := [(0, wrp (((64 * g : Nat) : Int) + ((s : Nat) : Int))), (0, 3)]) (w' := w) (n' := 142) rfl ?_
              rw [show wrp (((64 * g : Nat) : Int) + ((s : Nat) : Int)) = ((64 * g + s : Nat) : Int) from by rw [wrp_id (by omega) (by omega)]; omega]
              refine qG.blk 1 (pc' := 60) (ls' := [(2, 24), (2, 27), (2, 28), (1, a), (9, 0), (1, b), (9, 0), (1, c), (9, 0), (0, ((g : Nat) : Int)), (1, x), (9, 0), (0, ((i : Nat) : Int)), l13]) (st' := [(0, wrp (3 * ((64 * g + s : Nat) : Int)))]) (w' := w) (n' := 142) rfl ?_
              rw [show wrp (3 * ((64 * g + s : Nat) : Int)) = ((3 * (64 * g + s) : Nat) : Int) from by rw [wrp_id (by omega) (by omega)]; omega]
              refine qG.blk 5 (pc' := 68) (ls' := [(2, 24), (2, 27), (2, 28), (1, a), (9, 0), (1, b), (9, 0), (1, c), (9, 0), (0, ((g : Nat) : Int)), (1, x), (9, 0), (0, ((i : Nat) : Int)), (0, ((3 * (64 * g + s) : Nat) : Int))]) (st' := [(1, wrl (x - 1)), (1, x)]) (w' := w) (n' := 142) rfl ?_
              refine qG.blk 3 (pc' := 73) (ls' := [(2, 24), (2, 27), (2, 28), (1, a), (9, 0), (1, b), (9, 0), (1, c), (9, 0), (0, ((g : Nat) : Int)), (1, qland x (wrl (x - 1))), (9, 0), (0, ((i : Nat) : Int)), (0, ((3 * (64 * g + s) : Nat) : Int))]) (st' := [(0, ((3 * (64 * g + s) : Nat) : Int))]) (w' := w) (n' := 142) rfl ?_
              refine qG.br (P := ((3 * (64 * g + s) : Nat) : Int) < 0) (pc1 := 126) (pc2 := 76) (st1 := []) rfl (fun hr0 => ?_) (fun hr0 => ?_)
              · exfalso; omega
              · skip
                refine qG.blk 3 (pc' := 80) (ls' := [(2, 24), (2, 27), (2, 28), (1, a), (9, 0), (1, b), (9, 0), (1, c), (9, 0), (0, ((g : Nat) : Int)), (1, qland x (wrl (x - 1))), (9, 0), (0, ((i : Nat) : Int)), (0, ((3 * (64 * g + s) : Nat) : Int))]) (st' := [(0, wrp (((3 * (64 * g + s) : Nat) : Int) + 2))]) (w' := w) (n' := 142) rfl ?_
                rw [show wrp (((3 * (64 * g + s) : Nat) : Int) + 2) = ((3 * (64 * g + s) + 2 : Nat) : Int) from by rw [wrp_id (by omega) (by omega)]; omega]
                refine qG.blk 2 (pc' := 84) (ls' := [(2, 24), (2, 27), (2, 28), (1, a), (9, 0), (1, b), (9, 0), (1, c), (9, 0), (0, ((g : Nat) : Int)), (1, qland x (wrl (x - 1))), (9, 0), (0, ((i : Nat) : Int)), (0, ((3 * (64 * g + s) : Nat) : Int))]) (st' := [(2, w 24 5), (0, ((3 * (64 * g + s) + 2 : Nat) : Int))]) (w' := w) (n' := 142) rfl ?_
                rw [show w 24 5 = 26 from zrefz hI rfl rfl]
                refine qG.blk 1 (pc' := 85) (ls' := [(2, 24), (2, 27), (2, 28), (1, a), (9, 0), (1, b), (9, 0), (1, c), (9, 0), (0, ((g : Nat) : Int)), (1, qland x (wrl (x - 1))), (9, 0), (0, ((i : Nat) : Int)), (0, ((3 * (64 * g + s) : Nat) : Int))]) (st' := [(0, 540), (0, ((3 * (64 * g + s) + 2 : Nat) : Int))]) (w' := w) (n' := 142) rfl ?_
                rw [show (540 : Int) = N5 from hN5.symm]
                refine qG.br (P := ((3 * (64 * g + s) + 2 : Nat) : Int) < N5) (pc1 := 88) (pc2 := 126) (st1 := []) rfl (fun h540 => ?_) (fun h540 => ?_)
                · skip
                  refine qG.blk 3 (pc' := 93) (ls' := [(2, 24), (2, 27), (2, 28), (1, a), (9, 0), (1, b), (9, 0), (1, c), (9, 0), (0, ((g : Nat) : Int)), (1, qland x (wrl (x - 1))), (9, 0), (0, ((i : Nat) : Int)), (0, ((3 * (64 * g + s) : Nat) : Int))]) (st' := [(2, w 24 5), (1, a)]) (w' := w) (n' := 142) rfl ?_
                  rw [show w 24 5 = 26 from zrefz hI rfl rfl]
                  refine qG.blk 1 (pc' := 95) (ls' := [(2, 24), (2, 27), (2, 28), (1, a), (9, 0), (1, b), (9, 0), (1, c), (9, 0), (0, ((g : Nat) : Int)), (1, qland x (wrl (x - 1))), (9, 0), (0, ((i : Nat) : Int)), (0, ((3 * (64 * g + s) : Nat) : Int))]) (st' := [(0, ((3 * (64 * g + s) : Nat) : Int)), (2, 26), (1, a)]) (w' := w) (n' := 142) rfl ?_
                  refine qG.lldz (m := 540) rfl rfl (by omega) (by decide) ?_
                  show qG none (d + 1) 101 96 [(2, 24), (2, 27), (2, 28), (1, a), (9, 0), (1, b), (9, 0), (1, c), (9, 0), (0, ((g : Nat) : Int)), (1, qland x (wrl (x - 1))), (9, 0), (0, ((i : Nat) : Int)), (0, ((3 * (64 * g + s) : Nat) : Int))] [(1, w 26 (3 * (64 * g + s))), (1, a)] w 142 Q9
                  refine qG.blk 5 (pc' := 104) (ls' := [(2, 24), (2, 27), (2, 28), (1, qlor a (w 26 (3 * (64 * g + s)))), (9, 0), (1, b), (9, 0), (1, c), (9, 0), (0, ((g : Nat) : Int)), (1, qland x (wrl (x - 1))), (9, 0), (0, ((i : Nat) : Int)), (0, ((3 * (64 * g + s) : Nat) : Int))]) (st' := [(2, w 24 5), (1, b)]) (w' := w) (n' := 142) rfl ?_
                  rw [show w 24 5 = 26 from zrefz hI rfl rfl]
                  refine qG.blk 3 (pc' := 108) (ls' := [(2, 24), (2, 27), (2, 28), (1, qlor a (w 26 (3 * (64 * g + s)))), (9, 0), (1, b), (9, 0), (1, c), (9, 0), (0, ((g : Nat) : Int)), (1, qland x (wrl (x - 1))), (9, 0), (0, ((i : Nat) : Int)), (0, ((3 * (64 * g + s) : Nat) : Int))]) (st' := [(0, wrp (((3 * (64 * g + s) : Nat) : Int) + 1)), (2, 26), (1, b)]) (w' := w) (n' := 142) rfl ?_
                  rw [show wrp (((3 * (64 * g + s) : Nat) : Int) + 1) = ((3 * (64 * g + s) + 1 : Nat) : Int) from by rw [wrp_id (by omega) (by omega)]; omega]
                  refine qG.lldz (m := 540) rfl rfl (by omega) (by decide) ?_
                  show qG none (d + 1) 101 109 [(2, 24), (2, 27), (2, 28), (1, qlor a (w 26 (3 * (64 * g + s)))), (9, 0), (1, b), (9, 0), (1, c), (9, 0), (0, ((g : Nat) : Int)), (1, qland x (wrl (x - 1))), (9, 0), (0, ((i : Nat) : Int)), (0, ((3 * (64 * g + s) : Nat) : Int))] [(1, w 26 (3 * (64 * g + s) + 1)), (1, b)] w 142 Q9
                  refine qG.blk 5 (pc' := 118) (ls' := [(2, 24), (2, 27), (2, 28), (1, qlor a (w 26 (3 * (64 * g + s)))), (9, 0), (1, qlor b (w 26 (3 * (64 * g + s) + 1))), (9, 0), (1, c), (9, 0), (0, ((g : Nat) : Int)), (1, qland x (wrl (x - 1))), (9, 0), (0, ((i : Nat) : Int)), (0, ((3 * (64 * g + s) : Nat) : Int))]) (st' := [(2, w 24 5), (1, c)]) (w' := w) (n' := 142) rfl ?_
                  rw [show w 24 5 = 26 from zrefz hI rfl rfl]
                  refine qG.blk 3 (pc' := 122) (ls' := [(2, 24), (2, 27), (2, 28), (1, qlor a (w 26 (3 * (64 * g + s)))), (9, 0), (1, qlor b (w 26 (3 * (64 * g + s) + 1))), (9, 0), (1, c), (9, 0), (0, ((g : Nat) : Int)), (1, qland x (wrl (x - 1))), (9, 0), (0, ((i : Nat) : Int)), (0, ((3 * (64 * g + s) : Nat) : Int))]) (st' := [(0, wrp (((3 * (64 * g + s) : Nat) : Int) + 2)), (2, 26), (1, c)]) (w' := w) (n' := 142) rfl ?_
                  rw [show wrp (((3 * (64 * g + s) : Nat) : Int) + 2) = ((3 * (64 * g + s) + 2 : Nat) : Int) from by rw [wrp_id (by omega) (by omega)]; omega]
                  refine qG.lldz (m := 540) rfl rfl (by omega) (by decide) ?_
                  show qG none (d + 1) 101 123 [(2, 24), (2, 27), (2, 28), (1, qlor a (w 26 (3 * (64 * g + s)))), (9, 0), (1, qlor b (w 26 (3 * (64 * g + s) + 1))), (9, 0), (1, c), (9, 0), (0, ((g : Nat) : Int)), (1, qland x (wrl (x - 1))), (9, 0), (0, ((i : Nat) : Int)), (0, ((3 * (64 * g + s) : Nat) : Int))] [(1, w 26 (3 * (64 * g + s) + 2)), (1, c)] w 142 Q9
                  refine qG.blk 3 (pc' := 129) (ls' := [(2, 24), (2, 27), (2, 28), (1, qlor a (w 26 (3 * (64 * g + s)))), (9, 0), (1, qlor b (w 26 (3 * (64 * g + s) + 1))), (9, 0), (1, qlor c (w 26 (3 * (64 * g + s) + 2))), (9, 0), (0, ((g : Nat) : Int)), (1, qland x (wrl (x - 1))), (9, 0), (0, wrp (((i : Nat) : Int) + 1)), (0, ((3 * (64 * g + s) : Nat) : Int))]) (st' := []) (w' := w) (n' := 142) rfl ?_
                  rw [show wrp (((i : Nat) : Int) + 1) = ((i + 1 : Nat) : Int) from wrp_id (by omega) (by omega)]
                  refine qG.blk 1 (pc' := 33) (ls' := [(2, 24), (2, 27), (2, 28), (1, qlor a (w 26 (3 * (64 * g + s)))), (9, 0), (1, qlor b (w 26 (3 * (64 * g + s) + 1))), (9, 0), (1, qlor c (w 26 (3 * (64 * g + s) + 2))), (9, 0), (0, ((g : Nat) : Int)), (1, qland x (wrl (x - 1))), (9, 0), (0, ((i + 1 : Nat) : Int)), (0, ((3 * (64 * g + s) : Nat) : Int))]) (st' := []) (w' := w) (n' := 142) rfl ?_
                  exact ih33 _ (by omega) (i + 1) (qlor a (w 26 (3 * (64 * g + s)))) (qlor b (w 26 (3 * (64 * g + s) + 1))) (qlor c (w 26 (3 * (64 * g + s) + 2))) (qland x (wrl (x - 1))) ((0, ((3 * (64 * g + s) : Nat) : Int))) rfl (⟨by omega, by first | exact ha | exact qlorz _ _, by first | exact hb | exact qlorz _ _, by first | exact hc | exact qlorz _ _, qlandz _ _⟩)
                · skip
                  refine qG.blk 1 (pc' := 129) (ls' := [(2, 24), (2, 27), (2, 28), (1, a), (9, 0), (1, b), (9, 0), (1, c), (9, 0), (0, ((g : Nat) : Int)), (1, qland x (wrl (x - 1))), (9, 0), (0, wrp (((i : Nat) : Int) + 1)), (0, ((3 * (64 * g + s) : Nat) : Int))]) (st' := []) (w' := w) (n' := 142) rfl ?_
                  rw [show wrp (((i : Nat) : Int) + 1) = ((i + 1 : Nat) : Int) from wrp_id (by omega) (by omega)]
                  refine qG.blk 1 (pc' := 33) (ls' := [(2, 24), (2, 27), (2, 28), (1, a), (9, 0), (1, b), (9, 0), (1, c), (9, 0), (0, ((g : Nat) : Int)), (1, qland x (wrl (x - 1))), (9, 0), (0, ((i + 1 : Nat) : Int)), (0, ((3 * (64 * g + s) : Nat) : Int))]) (st' := []) (w' := w) (n' := 142) rfl ?_
                  exact ih33 _ (by omega) (i + 1) (a) (b) (c) (qland x (wrl (x - 1))) ((0, ((3 * (64 * g + s) : Nat) : Int))) rfl (⟨by omega, by first | exact ha | exact qlorz _ _, by first | exact hb | exact qlorz _ _, by first | exact hc | exact qlorz _ _, qlandz _ _⟩)
          · skip
            refine qG.blk 1 (pc' := 135) (ls' := [(2, 24), (2, 27), (2, 28), (1, a), (9, 0), (1, b), (9, 0), (1, c), (9, 0), (0, wrp (((g : Nat) : Int) + 1)), (1, x), (9, 0), (0, ((i : Nat) : Int)), l13]) (st' := []) (w' := w) (n' := 142) rfl ?_
            rw [show wrp (((g : Nat) : Int) + 1) = ((g + 1 : Nat) : Int) from wrp_id (by omega) (by omega)]
            refine qG.blk 1 (pc' := 11) (ls' := [(2, 24), (2, 27), (2, 28), (1, a), (9, 0), (1, b), (9, 0), (1, c), (9, 0), (0, ((g + 1 : Nat) : Int)), (1, x), (9, 0), (0, ((i : Nat) : Int)), l13]) (st' := []) (w' := w) (n' := 142) rfl ?_
            exact ih11 _ (by omega) (g + 1) (a) (b) (c) ((1, x)) ((0, ((i : Nat) : Int))) (l13) rfl (⟨by omega, ha, hb, hc⟩)
        exact L33 _ (0) (a) (b) (c) (w 27 g) (l13) rfl (⟨Nat.zero_le _, ha, hb, hc, arrz hI rfl rfl⟩)
      · exfalso; omega
    · skip
      refine qG.blk 4 (pc' := 144) (ls' := [(2, 24), (2, 27), (2, 28), (1, a), (9, 0), (1, b), (9, 0), (1, c), (9, 0), (0, ((g : Nat) : Int)), l10, (9, 0), l12, l13]) (st' := [(1, c), (1, b), (1, a), (2, 28)]) (w' := w) (n' := 142) rfl ?_
      refine qG.call (t := 105) (na := 4) (sk := 0) (md := 0) (ls1 := [(2, 28), (1, a), (9, 0), (1, b), (9, 0), (1, c), (9, 0)]) (r1 := []) rfl rfl rfl rfl rfl (AW.use (c := C_putRow28.2) (as := [(2, 28), (1, a), (1, b), (1, c)]) (m := [28]) T_putRow28 (AW.rf hI) (show 1 ≤ d by omega) ⟨⟨rfl, by decide, by decide⟩, ⟨rfl, i64l ha, i64u ha⟩, ⟨rfl, i64l hb, i64u hb⟩, ⟨rfl, i64l hc, i64u hc⟩, trivial⟩ rfl rfl (by decide +kernel)) ?_
      rintro _ w0 _ ⟨x7, rfl, -, -, hA7, rfl, -⟩
      show qG none (d + 1) 101 147 [(2, 24), (2, 27), (2, 28), (1, a), (9, 0), (1, b), (9, 0), (1, c), (9, 0), (0, ((g : Nat) : Int)), l10, (9, 0), l12, l13] [] w0 142 Q9
      refine qG.retv rfl rfl ?_
      subst hQ9
      exact ⟨rfl, rfl, hA7⟩
  exact L11 _ (0) (0) (0) (0) ((9, 0)) ((9, 0)) ((9, 0)) rfl (⟨Nat.zero_le _, ⟨by decide, by decide⟩, ⟨by decide, by decide⟩, ⟨by decide, by decide⟩⟩)
noncomputable def C_spread_27_28 : Nat × yC := (101, (5, [(2, 24, 24), (2, 27, 27), (2, 28, 28)], (9, 0, 0), [28], [], [], [], 0, []))
theorem T_spread_27_28 {w0 : qW} : yCOK w0 zgf zga zra zSp zgh C_spread_27_28.1 C_spread_27_28.2 := by
  intro d as w hd hm hI hn hp
  have e : as = [(2, 24), (2, 27), (2, 28)] := args3r hm
  subst e
  refine qG.mono (K_spreadZ27_28 hd w hI) ?_
  rintro _ w' _ ⟨rfl, rfl, hA⟩
  exact ⟨⟨rfl, Int.le_refl 0, Int.le_refl 0⟩, hA.1, rfl, hA.2, fun e he => (by cases he), fun z => (by cases z)⟩
theorem K_spreadZ28_27 {d : Nat} (hd : 5 ≤ d) (w : qW) (hI : yInv zgf zga zra zSp w) : qG none d 101 0 [(2, 24), (2, 28), (2, 27), (9, 0), (9, 0), (9, 0), (9, 0), (9, 0), (9, 0), (9, 0), (9, 0), (9, 0), (9, 0), (9, 0)] [] w 142 (fun (r : qV) (w1 : qW) (n1 : Nat) => r = (9, 0) ∧ n1 = 142 ∧ AW [27] w w1) := by
  generalize hQ9 : (fun (r : qV) (w1 : qW) (n1 : Nat) => r = (9, 0) ∧ n1 = 142 ∧ AW [27] w w1) = Q9
  obtain ⟨N5, hN5⟩ : ∃ N : Int, N = 540 := ⟨_, rfl⟩
  obtain ⟨d, rfl⟩ : ∃ d9, d = d9 + 1 := ⟨d - 1, by omega⟩
  refine qG.blk 8 (pc' := 11) (ls' := [(2, 24), (2, 28), (2, 27), (1, 0), (9, 0), (1, 0), (9, 0), (1, 0), (9, 0), (0, 0), (9, 0), (9, 0), (9, 0), (9, 0)]) (st' := []) (w' := w) (n' := 142) rfl ?_
  have L11 : ∀ (m9 : Nat) (g : Nat) (a b c : Int) (l10 l12 l13 : qV), 3 - g = m9 → (g ≤ 3 ∧ qi64 a ∧ qi64 b ∧ qi64 c) → qG none (d + 1) 101 11 [(2, 24), (2, 28), (2, 27), (1, a), (9, 0), (1, b), (9, 0), (1, c), (9, 0), (0, ((g : Nat) : Int)), l10, (9, 0), l12, l13] [] w 142 Q9 := by
    intro m9
    induction m9 using Nat.strongRecOn with
    | ind m9 ih11 =>
    intro g a b c l10 l12 l13 hm11 hI11
    obtain ⟨hg3, ha, hb, hc⟩ := hI11
    refine qG.blk 2 (pc' := 14) (ls' := [(2, 24), (2, 28), (2, 27), (1, a), (9, 0), (1, b), (9, 0), (1, c), (9, 0), (0, ((g : Nat) : Int)), l10, (9, 0), l12, l13]) (st' := [(0, 3), (0, ((g : Nat) : Int))]) (w' := w) (n' := 142) rfl ?_
    refine qG.br (P := ((g : Nat) : Int) < 3) (pc1 := 17) (pc2 := 138) (st1 := []) rfl (fun hg => ?_) (fun hg => ?_)
    · skip
      refine qG.blk 3 (pc' := 21) (ls' := [(2, 24), (2, 28), (2, 27), (1, a), (9, 0), (1, b), (9, 0), (1, c), (9, 0), (0, ((g : Nat) : Int)), l10, (9, 0), l12, l13]) (st' := [(0, 3), (0, ((g : Nat) : Int))]) (w' := w) (n' := 142) rfl ?_
      refine qG.br (P := ((g : Nat) : Int) < 3) (pc1 := 24) (pc2 := 138) (st1 := []) rfl (fun hgl => ?_) (fun hgl => ?_)
      · skip
        refine qG.blk 2 (pc' := 27) (ls' := [(2, 24), (2, 28), (2, 27), (1, a), (9, 0), (1, b), (9, 0), (1, c), (9, 0), (0, ((g : Nat) : Int)), l10, (9, 0), l12, l13]) (st' := [(0, ((g : Nat) : Int)), (2, 28)]) (w' := w) (n' := 142) rfl ?_
        refine qG.ar (P := 0 ≤ ((g : Nat) : Int) ∧ ((g : Nat) : Int) < ((3 : Nat) : Int)) (P2 := 0 < (28 : Int) ∧ (28 : Int) ≤ ((142 : Nat) : Int)) (pc' := 28) (ls' := [(2, 24), (2, 28), (2, 27), (1, a), (9, 0), (1, b), (9, 0), (1, c), (9, 0), (0, ((g : Nat) : Int)), l10, (9, 0), l12, l13]) (st' := [(1, w 28 g)]) (w' := w) (n' := 142) rfl (by omega) (by decide) ?_
        refine qG.blk 3 (pc' := 33) (ls' := [(2, 24), (2, 28), (2, 27), (1, a), (9, 0), (1, b), (9, 0), (1, c), (9, 0), (0, ((g : Nat) : Int)), (1, w 28 g), (9, 0), (0, 0), l13]) (st' := []) (w' := w) (n' := 142) rfl ?_
        have L33 : ∀ (m9 : Nat) (i : Nat) (a b c x : Int) (l13 : qV), 64 - i = m9 → (i ≤ 64 ∧ qi64 a ∧ qi64 b ∧ qi64 c ∧ qi64 x) → qG none (d + 1) 101 33 [(2, 24), (2, 28), (2, 27), (1, a), (9, 0), (1, b), (9, 0), (1, c), (9, 0), (0, ((g : Nat) : Int)), (1, x), (9, 0), (0, ((i : Nat) : Int)), l13] [] w 142 Q9 := by
          intro m9
          induction m9 using Nat.strongRecOn with
          | ind m9 ih33 =>
          intro i a b c x l13 hm33 hI33
          obtain ⟨hi64, ha, hb, hc, hx⟩ := hI33
          refine qG.blk 2 (pc' := 37) (ls' := [(2, 24), (2, 28), (2, 27), (1, a), (9, 0), (1, b), (9, 0), (1, c), (9, 0), (0, ((g : Nat) : Int)), (1, x), (9, 0), (0, ((i : Nat) : Int)), l13]) (st' := [(0, 64), (0, ((i : Nat) : Int))]) (w' := w) (n' := 142) rfl ?_
          refine qG.br (P := ((i : Nat) : Int) < 64) (pc1 := 40) (pc2 := 132) (st1 := []) rfl (fun hi65 => ?_) (fun hi65 => ?_)
          · skip
            refine qG.blk 3 (pc' := 44) (ls' := [(2, 24), (2, 28), (2, 27), (1, a), (9, 0), (1, b), (9, 0), (1, c), (9, 0), (0, ((g : Nat) : Int)), (1, x), (9, 0), (0, ((i : Nat) : Int)), l13]) (st' := [(0, qcmp x 0)]) (w' := w) (n' := 142) rfl ?_
            refine qG.br (P := qcmp x 0 = 0) (pc1 := 132) (pc2 := 47) (st1 := []) rfl (fun hx0 => ?_) (fun hx0 => ?_)
            · skip
              refine qG.blk 1 (pc' := 135) (ls' := [(2, 24), (2, 28), (2, 27), (1, a), (9, 0), (1, b), (9, 0), (1, c), (9, 0), (0, wrp (((g : Nat) : Int) + 1)), (1, x), (9, 0), (0, ((i : Nat) : Int)), l13]) (st' := []) (w' := w) (n' := 142) rfl ?_
              rw [show wrp (((g : Nat) : Int) + 1) = ((g + 1 : Nat) : Int) from wrp_id (by omega) (by omega)]
              refine qG.blk 1 (pc' := 11) (ls' := [(2, 24), (2, 28), (2, 27), (1, a), (9, 0), (1, b), (9, 0), (1, c), (9, 0), (0, ((g + 1 : Nat) : Int)), (1, x), (9, 0), (0, ((i : Nat) : Int)), l13]) (st' := []) (w' := w) (n' := 142) rfl ?_
              exact ih11 _ (by omega) (g + 1) (a) (b) (c) ((1, x)) ((0, ((i : Nat) : Int))) (l13) rfl (⟨by omega, ha, hb, hc⟩)
            · skip
              refine qG.blk 4 (pc' := 53) (ls' := [(2, 24), (2, 28), (2, 27), (1, a), (9, 0), (1, b), (9, 0), (1, c), (9, 0), (0, ((g : Nat) : Int)), (1, x), (9, 0), (0, ((i : Nat) : Int)), l13]) (st' := [(0, wrp (64 * ((g : Nat) : Int))), (0, 3)]) (w' := w) (n' := 142) rfl ?_
              rw [show wrp (64 * ((g : Nat) : Int)) = ((64 * g : Nat) : Int) from by rw [wrp_id (by omega) (by omega)]; omega]
              refine qG.blk 1 (pc' := 55) (ls' := [(2, 24), (2, 28), (2, 27), (1, a), (9, 0), (1, b), (9, 0), (1, c), (9, 0), (0, ((g : Nat) : Int)), (1, x), (9, 0), (0, ((i : Nat) : Int)), l13]) (st' := [(1, x), (0, ((64 * g : Nat) : Int)), (0, 3)]) (w' := w) (n' := 142) rfl ?_
              refine qG.call (t := 303) (na := 1) (sk := 0) (md := 0) (ls1 := [(1, x), (9, 0), (9, 0)]) (r1 := [(0, ((64 * g : Nat) : Int)), (0, 3)]) rfl rfl rfl rfl rfl (AW.use (c := C_nTZL.2) (as := [(1, x)]) (m := []) T_nTZL (AW.rf hI) (show 2 ≤ d by omega) ⟨⟨rfl, i64l hx, i64u hx⟩, trivial⟩ rfl rfl (by decide +kernel)) ?_
              rintro _ w7 _ ⟨x7, rfl, hl7, hu7, hA7, rfl, -⟩
              have e7 := hA7.nilz
              rw [e7]
              have hl7 : (0 : Int) ≤ x7 := hl7
              have hu7 : x7 ≤ (64 : Int) := hu7
              obtain ⟨s, rfl⟩ : ∃ s : Nat, x7 = (s : Int) := ⟨x7.toNat, by omega⟩
              show qG none (d + 1) 101 58 [(2, 24), (2, 28), (2, 27), (1, a), (9, 0), (1, b), (9, 0), (1, c), (9, 0), (0, ((g : Nat) : Int)), (1, x), (9, 0), (0, ((i : Nat) : Int)), l13] [(0, ((s : Nat) : Int)), (0, ((64 * g : Nat) : Int)), (0, 3)] w 142 Q9
              refine qG.blk 1 (pc' := 59) (ls' := [(2, 24), (2, 28), (2, 27), (1, a), (9, 0), (1, b), (9, 0), (1, c), (9, 0), (0, ((g : Nat) : Int)), (1, x), (9, 0), (0, ((i : Nat) : Int)), l13]) (st' := [(0, wrp (((64 * g : Nat) : Int) + ((s : Nat) : Int))), (0, 3)]) (w' := w) (n' := 142) rfl ?_
              rw [show wrp (((64 * g : Nat) : Int) + ((s : Nat) : Int)) = ((64 * g + s : Nat) : Int) from by rw [wrp_id (by omega) (by omega)]; omega]
              refine qG.blk 1 (pc' := 60) (ls' := [(2, 24), (2, 28), (2, 27), (1, a), (9, 0), (1, b), (9, 0), (1, c), (9, 0), (0, ((g : Nat) : Int)), (1, x), (9, 0), (0, ((i : Nat) : Int)), l13]) (st' := [(0, wrp (3 * ((64 * g + s : Nat) : Int)))]) (w' := w) (n' := 142) rfl ?_
              rw [show wrp (3 * ((64 * g + s : Nat) : Int)) = ((3 * (64 * g + s) : Nat) : Int) from by rw [wrp_id (by omega) (by omega)]; omega]
              refine qG.blk 5 (pc' := 68) (ls' := [(2, 24), (2, 28), (2, 27), (1, a), (9, 0), (1, b), (9, 0), (1, c), (9, 0), (0, ((g : Nat) : Int)), (1, x), (9, 0), (0, ((i : Nat) : Int)), (0, ((3 * (64 * g + s) : Nat) : Int))]) (st' := [(1, wrl (x - 1)), (1, x)]) (w' := w) (n' := 142) rfl ?_
              refine qG.blk 3 (pc' := 73) (ls' := [(2, 24), (2, 28), (2, 27), (1, a), (9, 0), (1, b), (9, 0), (1, c), (9, 0), (0, ((g : Nat) : Int)), (1, qland x (wrl (x - 1))), (9, 0), (0, ((i : Nat) : Int)), (0, ((3 * (64 * g + s) : Nat) : Int))]) (st' := [(0, ((3 * (64 * g + s) : Nat) : Int))]) (w' := w) (n' := 142) rfl ?_
              refine qG.br (P := ((3 * (64 * g + s) : Nat) : Int) < 0) (pc1 := 126) (pc2 := 76) (st1 := []) rfl (fun hr0 => ?_) (fun hr0 => ?_)
              · exfalso; omega
              · skip
                refine qG.blk 3 (pc' := 80) (ls' := [(2, 24), (2, 28), (2, 27), (1, a), (9, 0), (1, b), (9, 0), (1, c), (9, 0), (0, ((g : Nat) : Int)), (1, qland x (wrl (x - 1))), (9, 0), (0, ((i : Nat) : Int)), (0, ((3 * (64 * g + s) : Nat) : Int))]) (st' := [(0, wrp (((3 * (64 * g + s) : Nat) : Int) + 2))]) (w' := w) (n' := 142) rfl ?_
                rw [show wrp (((3 * (64 * g + s) : Nat) : Int) + 2) = ((3 * (64 * g + s) + 2 : Nat) : Int) from by rw [wrp_id (by omega) (by omega)]; omega]
                refine qG.blk 2 (pc' := 84) (ls' := [(2, 24), (2, 28), (2, 27), (1, a), (9, 0), (1, b), (9, 0), (1, c), (9, 0), (0, ((g : Nat) : Int)), (1, qland x (wrl (x - 1))), (9, 0), (0, ((i : Nat) : Int)), (0, ((3 * (64 * g + s) : Nat) : Int))]) (st' := [(2, w 24 5), (0, ((3 * (64 * g + s) + 2 : Nat) : Int))]) (w' := w) (n' := 142) rfl ?_
                rw [show w 24 5 = 26 from zrefz hI rfl rfl]
                refine qG.blk 1 (pc' := 85) (ls' := [(2, 24), (2, 28), (2, 27), (1, a), (9, 0), (1, b), (9, 0), (1, c), (9, 0), (0, ((g : Nat) : Int)), (1, qland x (wrl (x - 1))), (9, 0), (0, ((i : Nat) : Int)), (0, ((3 * (64 * g + s) : Nat) : Int))]) (st' := [(0, 540), (0, ((3 * (64 * g + s) + 2 : Nat) : Int))]) (w' := w) (n' := 142) rfl ?_
                rw [show (540 : Int) = N5 from hN5.symm]
                refine qG.br (P := ((3 * (64 * g + s) + 2 : Nat) : Int) < N5) (pc1 := 88) (pc2 := 126) (st1 := []) rfl (fun h540 => ?_) (fun h540 => ?_)
                · skip
                  refine qG.blk 3 (pc' := 93) (ls' := [(2, 24), (2, 28), (2, 27), (1, a), (9, 0), (1, b), (9, 0), (1, c), (9, 0), (0, ((g : Nat) : Int)), (1, qland x (wrl (x - 1))), (9, 0), (0, ((i : Nat) : Int)), (0, ((3 * (64 * g + s) : Nat) : Int))]) (st' := [(2, w 24 5), (1, a)]) (w' := w) (n' := 142) rfl ?_
                  rw [show w 24 5 = 26 from zrefz hI rfl rfl]
                  refine qG.blk 1 (pc' := 95) (ls' := [(2, 24), (2, 28), (2, 27), (1, a), (9, 0), (1, b), (9, 0), (1, c), (9, 0), (0, ((g : Nat) : Int)), (1, qland x (wrl (x - 1))), (9, 0), (0, ((i : Nat) : Int)), (0, ((3 * (64 * g + s) : Nat) : Int))]) (st' := [(0, ((3 * (64 * g + s) : Nat) : Int)), (2, 26), (1, a)]) (w' := w) (n' := 142) rfl ?_
                  refine qG.lldz (m := 540) rfl rfl (by omega) (by decide) ?_
                  show qG none (d + 1) 101 96 [(2, 24), (2, 28), (2, 27), (1, a), (9, 0), (1, b), (9, 0), (1, c), (9, 0), (0, ((g : Nat) : Int)), (1, qland x (wrl (x - 1))), (9, 0), (0, ((i : Nat) : Int)), (0, ((3 * (64 * g + s) : Nat) : Int))] [(1, w 26 (3 * (64 * g + s))), (1, a)] w 142 Q9
                  refine qG.blk 5 (pc' := 104) (ls' := [(2, 24), (2, 28), (2, 27), (1, qlor a (w 26 (3 * (64 * g + s)))), (9, 0), (1, b), (9, 0), (1, c), (9, 0), (0, ((g : Nat) : Int)), (1, qland x (wrl (x - 1))), (9, 0), (0, ((i : Nat) : Int)), (0, ((3 * (64 * g + s) : Nat) : Int))]) (st' := [(2, w 24 5), (1, b)]) (w' := w) (n' := 142) rfl ?_
                  rw [show w 24 5 = 26 from zrefz hI rfl rfl]
                  refine qG.blk 3 (pc' := 108) (ls' := [(2, 24), (2, 28), (2, 27), (1, qlor a (w 26 (3 * (64 * g + s)))), (9, 0), (1, b), (9, 0), (1, c), (9, 0), (0, ((g : Nat) : Int)), (1, qland x (wrl (x - 1))), (9, 0), (0, ((i : Nat) : Int)), (0, ((3 * (64 * g + s) : Nat) : Int))]) (st' := [(0, wrp (((3 * (64 * g + s) : Nat) : Int) + 1)), (2, 26), (1, b)]) (w' := w) (n' := 142) rfl ?_
                  rw [show wrp (((3 * (64 * g + s) : Nat) : Int) + 1) = ((3 * (64 * g + s) + 1 : Nat) : Int) from by rw [wrp_id (by omega) (by omega)]; omega]
                  refine qG.lldz (m := 540) rfl rfl (by omega) (by decide) ?_
                  show qG none (d + 1) 101 109 [(2, 24), (2, 28), (2, 27), (1, qlor a (w 26 (3 * (64 * g + s)))), (9, 0), (1, b), (9, 0), (1, c), (9, 0), (0, ((g : Nat) : Int)), (1, qland x (wrl (x - 1))), (9, 0), (0, ((i : Nat) : Int)), (0, ((3 * (64 * g + s) : Nat) : Int))] [(1, w 26 (3 * (64 * g + s) + 1)), (1, b)] w 142 Q9
                  refine qG.blk 5 (pc' := 118) (ls' := [(2, 24), (2, 28), (2, 27), (1, qlor a (w 26 (3 * (64 * g + s)))), (9, 0), (1, qlor b (w 26 (3 * (64 * g + s) + 1))), (9, 0), (1, c), (9, 0), (0, ((g : Nat) : Int)), (1, qland x (wrl (x - 1))), (9, 0), (0, ((i : Nat) : Int)), (0, ((3 * (64 * g + s) : Nat) : Int))]) (st' := [(2, w 24 5), (1, c)]) (w' := w) (n' := 142) rfl ?_
                  rw [show w 24 5 = 26 from zrefz hI rfl rfl]
                  refine qG.blk 3 (pc' := 122) (ls' := [(2, 24), (2, 28), (2, 27), (1, qlor a (w 26 (3 * (64 * g + s)))), (9, 0), (1, qlor b (w 26 (3 * (64 * g + s) + 1))), (9, 0), (1, c), (9, 0), (0, ((g : Nat) : Int)), (1, qland x (wrl (x - 1))), (9, 0), (0, ((i : Nat) : Int)), (0, ((3 * (64 * g + s) : Nat) : Int))]) (st' := [(0, wrp (((3 * (64 * g + s) : Nat) : Int) + 2)), (2, 26), (1, c)]) (w' := w) (n' := 142) rfl ?_
                  rw [show wrp (((3 * (64 * g + s) : Nat) : Int) + 2) = ((3 * (64 * g + s) + 2 : Nat) : Int) from by rw [wrp_id (by omega) (by omega)]; omega]
                  refine qG.lldz (m := 540) rfl rfl (by omega) (by decide) ?_
                  show qG none (d + 1) 101 123 [(2, 24), (2, 28), (2, 27), (1, qlor a (w 26 (3 * (64 * g + s)))), (9, 0), (1, qlor b (w 26 (3 * (64 * g + s) + 1))), (9, 0), (1, c), (9, 0), (0, ((g : Nat) : Int)), (1, qland x (wrl (x - 1))), (9, 0), (0, ((i : Nat) : Int)), (0, ((3 * (64 * g + s) : Nat) : Int))] [(1, w 26 (3 * (64 * g + s) + 2)), (1, c)] w 142 Q9
                  refine qG.blk 3 (pc' := 129) (ls' := [(2, 24), (2, 28), (2, 27), (1, qlor a (w 26 (3 * (64 * g + s)))), (9, 0), (1, qlor b (w 26 (3 * (64 * g + s) + 1))), (9, 0), (1, qlor c (w 26 (3 * (64 * g + s) + 2))), (9, 0), (0, ((g : Nat) : Int)), (1, qland x (wrl (x - 1))), (9, 0), (0, wrp (((i : Nat) : Int) + 1)), (0, ((3 * (64 * g + s) : Nat) : Int))]) (st' := []) (w' := w) (n' := 142) rfl ?_
                  rw [show wrp (((i : Nat) : Int) + 1) = ((i + 1 : Nat) : Int) from wrp_id (by omega) (by omega)]
                  refine qG.blk 1 (pc' := 33) (ls' := [(2, 24), (2, 28), (2, 27), (1, qlor a (w 26 (3 * (64 * g + s)))), (9, 0), (1, qlor b (w 26 (3 * (64 * g + s) + 1))), (9, 0), (1, qlor c (w 26 (3 * (64 * g + s) + 2))), (9, 0), (0, ((g : Nat) : Int)), (1, qland x (wrl (x - 1))), (9, 0), (0, ((i + 1 : Nat) : Int)), (0, ((3 * (64 * g + s) : Nat) : Int))]) (st' := []) (w' := w) (n' := 142) rfl ?_
                  exact ih33 _ (by omega) (i + 1) (qlor a (w 26 (3 * (64 * g + s)))) (qlor b (w 26 (3 * (64 * g + s) + 1))) (qlor c (w 26 (3 * (64 * g + s) + 2))) (qland x (wrl (x - 1))) ((0, ((3 * (64 * g + s) : Nat) : Int))) rfl (⟨by omega, by first | exact ha | exact qlorz _ _, by first | exact hb | exact qlorz _ _, by first | exact hc | exact qlorz _ _, qlandz _ _⟩)
                · skip
                  refine qG.blk 1 (pc' := 129) (ls' := [(2, 24), (2, 28), (2, 27), (1, a), (9, 0), (1, b), (9, 0), (1, c), (9, 0), (0, ((g : Nat) : Int)), (1, qland x (wrl (x - 1))), (9, 0), (0, wrp (((i : Nat) : Int) + 1)), (0, ((3 * (64 * g + s) : Nat) : Int))]) (st' := []) (w' := w) (n' := 142) rfl ?_
                  rw [show wrp (((i : Nat) : Int) + 1) = ((i + 1 : Nat) : Int) from wrp_id (by omega) (by omega)]
                  refine qG.blk 1 (pc' := 33) (ls' := [(2, 24), (2, 28), (2, 27), (1, a), (9, 0), (1, b), (9, 0), (1, c), (9, 0), (0, ((g : Nat) : Int)), (1, qland x (wrl (x - 1))), (9, 0), (0, ((i + 1 : Nat) : Int)), (0, ((3 * (64 * g + s) : Nat) : Int))]) (st' := []) (w' := w) (n' := 142) rfl ?_
                  exact ih33 _ (by omega) (i + 1) (a) (b) (c) (qland x (wrl (x - 1))) ((0, ((3 * (64 * g + s) : Nat) : Int))) rfl (⟨by omega, by first | exact ha | exact qlorz _ _, by first | exact hb | exact qlorz _ _, by first | exact hc | exact qlorz _ _, qlandz _ _⟩)
          · skip
            refine qG.blk 1 (pc' := 135) (ls' := [(2, 24), (2, 28), (2, 27), (1, a), (9, 0), (1, b), (9, 0), (1, c), (9, 0), (0, wrp (((g : Nat) : Int) + 1)), (1, x), (9, 0), (0, ((i : Nat) : Int)), l13]) (st' := []) (w' := w) (n' := 142) rfl ?_
            rw [show wrp (((g : Nat) : Int) + 1) = ((g + 1 : Nat) : Int) from wrp_id (by omega) (by omega)]
            refine qG.blk 1 (pc' := 11) (ls' := [(2, 24), (2, 28), (2, 27), (1, a), (9, 0), (1, b), (9, 0), (1, c), (9, 0), (0, ((g + 1 : Nat) : Int)), (1, x), (9, 0), (0, ((i : Nat) : Int)), l13]) (st' := []) (w' := w) (n' := 142) rfl ?_
            exact ih11 _ (by omega) (g + 1) (a) (b) (c) ((1, x)) ((0, ((i : Nat) : Int))) (l13) rfl (⟨by omega, ha, hb, hc⟩)
        exact L33 _ (0) (a) (b) (c) (w 28 g) (l13) rfl (⟨Nat.zero_le _, ha, hb, hc, arrz hI rfl rfl⟩)
      · exfalso; omega
    · skip
      refine qG.blk 4 (pc' := 144) (ls' := [(2, 24), (2, 28), (2, 27), (1, a), (9, 0), (1, b), (9, 0), (1, c), (9, 0), (0, ((g : Nat) : Int)), l10, (9, 0), l12, l13]) (st' := [(1, c), (1, b), (1, a), (2, 27)]) (w' := w) (n' := 142) rfl ?_
      refine qG.call (t := 105) (na := 4) (sk := 0) (md := 0) (ls1 := [(2, 27), (1, a), (9, 0), (1, b), (9, 0), (1, c), (9, 0)]) (r1 := []) rfl rfl rfl rfl rfl (AW.use (c := C_putRow27.2) (as := [(2, 27), (1, a), (1, b), (1, c)]) (m := [27]) T_putRow27 (AW.rf hI) (show 1 ≤ d by omega) ⟨⟨rfl, by decide, by decide⟩, ⟨rfl, i64l ha, i64u ha⟩, ⟨rfl, i64l hb, i64u hb⟩, ⟨rfl, i64l hc, i64u hc⟩, trivial⟩ rfl rfl (by decide +kernel)) ?_
      rintro _ w0 _ ⟨x7, rfl, -, -, hA7, rfl, -⟩
      show qG none (d + 1) 101 147 [(2, 24), (2, 28), (2, 27), (1, a), (9, 0), (1, b), (9, 0), (1, c), (9, 0), (0, ((g : Nat) : Int)), l10, (9, 0), l12, l13] [] w0 142 Q9
      refine qG.retv rfl rfl ?_
      subst hQ9
      exact ⟨rfl, rfl, hA7⟩
  exact L11 _ (0) (0) (0) (0) ((9, 0)) ((9, 0)) ((9, 0)) rfl (⟨Nat.zero_le _, ⟨by decide, by decide⟩, ⟨by decide, by decide⟩, ⟨by decide, by decide⟩⟩)
noncomputable def C_spread_28_27 : Nat × yC := (101, (5, [(2, 24, 24), (2, 28, 28), (2, 27, 27)], (9, 0, 0), [27], [], [], [], 0, []))
theorem T_spread_28_27 {w0 : qW} : yCOK w0 zgf zga zra zSp zgh C_spread_28_27.1 C_spread_28_27.2 := by
  intro d as w hd hm hI hn hp
  have e : as = [(2, 24), (2, 28), (2, 27)] := args3r hm
  subst e
  refine qG.mono (K_spreadZ28_27 hd w hI) ?_
  rintro _ w' _ ⟨rfl, rfl, hA⟩
  exact ⟨⟨rfl, Int.le_refl 0, Int.le_refl 0⟩, hA.1, rfl, hA.2, fun e he => (by cases he), fun z => (by cases z)⟩
theorem K_spreadZ34_27 {d : Nat} (hd : 5 ≤ d) (w : qW) (hI : yInv zgf zga zra zSp w) : qG none d 101 0 [(2, 24), (2, 34), (2, 27), (9, 0), (9, 0), (9, 0), (9, 0), (9, 0), (9, 0), (9, 0), (9, 0), (9, 0), (9, 0), (9, 0)] [] w 142 (fun (r : qV) (w1 : qW) (n1 : Nat) => r = (9, 0) ∧ n1 = 142 ∧ AW [27] w w1) := by
  generalize hQ9 : (fun (r : qV) (w1 : qW) (n1 : Nat) => r = (9, 0) ∧ n1 = 142 ∧ AW [27] w w1) = Q9
  obtain ⟨N5, hN5⟩ : ∃ N : Int, N = 540 := ⟨_, rfl⟩
  obtain ⟨d, rfl⟩ : ∃ d9, d = d9 + 1 := ⟨d - 1, by omega⟩
  refine qG.blk 8 (pc' := 11) (ls' := [(2, 24), (2, 34), (2, 27), (1, 0), (9, 0), (1, 0), (9, 0), (1, 0), (9, 0), (0, 0), (9, 0), (9, 0), (9, 0), (9, 0)]) (st' := []) (w' := w) (n' := 142) rfl ?_
  have L11 : ∀ (m9 : Nat) (g : Nat) (a b c : Int) (l10 l12 l13 : qV), 3 - g = m9 → (g ≤ 3 ∧ qi64 a ∧ qi64 b ∧ qi64 c) → qG none (d + 1) 101 11 [(2, 24), (2, 34), (2, 27), (1, a), (9, 0), (1, b), (9, 0), (1, c), (9, 0), (0, ((g : Nat) : Int)), l10, (9, 0), l12, l13] [] w 142 Q9 := by
    intro m9
    induction m9 using Nat.strongRecOn with
    | ind m9 ih11 =>
    intro g a b c l10 l12 l13 hm11 hI11
    obtain ⟨hg3, ha, hb, hc⟩ := hI11
    refine qG.blk 2 (pc' := 14) (ls' := [(2, 24), (2, 34), (2, 27), (1, a), (9, 0), (1, b), (9, 0), (1, c), (9, 0), (0, ((g : Nat) : Int)), l10, (9, 0), l12, l13]) (st' := [(0, 3), (0, ((g : Nat) : Int))]) (w' := w) (n' := 142) rfl ?_
    refine qG.br (P := ((g : Nat) : Int) < 3) (pc1 := 17) (pc2 := 138) (st1 := []) rfl (fun hg => ?_) (fun hg => ?_)
    · skip
      refine qG.blk 3 (pc' := 21) (ls' := [(2, 24), (2, 34), (2, 27), (1, a), (9, 0), (1, b), (9, 0), (1, c), (9, 0), (0, ((g : Nat) : Int)), l10, (9, 0), l12, l13]) (st' := [(0, 3), (0, ((g : Nat) : Int))]) (w' := w) (n' := 142) rfl ?_
      refine qG.br (P := ((g : Nat) : Int) < 3) (pc1 := 24) (pc2 := 138) (st1 := []) rfl (fun hgl => ?_) (fun hgl => ?_)
      · skip
        refine qG.blk 2 (pc' := 27) (ls' := [(2, 24), (2, 34), (2, 27), (1, a), (9, 0), (1, b), (9, 0), (1, c), (9, 0), (0, ((g : Nat) : Int)), l10, (9, 0), l12, l13]) (st' := [(0, ((g : Nat) : Int)), (2, 34)]) (w' := w) (n' := 142) rfl ?_
        refine qG.ar (P := 0 ≤ ((g : Nat) : Int) ∧ ((g : Nat) : Int) < ((3 : Nat) : Int)) (P2 := 0 < (34 : Int) ∧ (34 : Int) ≤ ((142 : Nat) : Int)) (pc' := 28) (ls' := [(2, 24), (2, 34), (2, 27), (1, a), (9, 0), (1, b), (9, 0), (1, c), (9, 0), (0, ((g : Nat) : Int)), l10, (9, 0), l12, l13]) (st' := [(1, w 34 g)]) (w' := w) (n' := 142) rfl (by omega) (by decide) ?_
        refine qG.blk 3 (pc' := 33) (ls' := [(2, 24), (2, 34), (2, 27), (1, a), (9, 0), (1, b), (9, 0), (1, c), (9, 0), (0, ((g : Nat) : Int)), (1, w 34 g), (9, 0), (0, 0), l13]) (st' := []) (w' := w) (n' := 142) rfl ?_
        have L33 : ∀ (m9 : Nat) (i : Nat) (a b c x : Int) (l13 : qV), 64 - i = m9 → (i ≤ 64 ∧ qi64 a ∧ qi64 b ∧ qi64 c ∧ qi64 x) → qG none (d + 1) 101 33 [(2, 24), (2, 34), (2, 27), (1, a), (9, 0), (1, b), (9, 0), (1, c), (9, 0), (0, ((g : Nat) : Int)), (1, x), (9, 0), (0, ((i : Nat) : Int)), l13] [] w 142 Q9 := by
          intro m9
          induction m9 using Nat.strongRecOn with
          | ind m9 ih33 =>
          intro i a b c x l13 hm33 hI33
          obtain ⟨hi64, ha, hb, hc, hx⟩ := hI33
          refine qG.blk 2 (pc' := 37) (ls' := [(2, 24), (2, 34), (2, 27), (1, a), (9, 0), (1, b), (9, 0), (1, c), (9, 0), (0, ((g : Nat) : Int)), (1, x), (9, 0), (0, ((i : Nat) : Int)), l13]) (st' := [(0, 64), (0, ((i : Nat) : Int))]) (w' := w) (n' := 142) rfl ?_
          refine qG.br (P := ((i : Nat) : Int) < 64) (pc1 := 40) (pc2 := 132) (st1 := []) rfl (fun hi65 => ?_) (fun hi65 => ?_)
          · skip
            refine qG.blk 3 (pc' := 44) (ls' := [(2, 24), (2, 34), (2, 27), (1, a), (9, 0), (1, b), (9, 0), (1, c), (9, 0), (0, ((g : Nat) : Int)), (1, x), (9, 0), (0, ((i : Nat) : Int)), l13]) (st' := [(0, qcmp x 0)]) (w' := w) (n' := 142) rfl ?_
            refine qG.br (P := qcmp x 0 = 0) (pc1 := 132) (pc2 := 47) (st1 := []) rfl (fun hx0 => ?_) (fun hx0 => ?_)
            · skip
              refine qG.blk 1 (pc' := 135) (ls' := [(2, 24), (2, 34), (2, 27), (1, a), (9, 0), (1, b), (9, 0), (1, c), (9, 0), (0, wrp (((g : Nat) : Int) + 1)), (1, x), (9, 0), (0, ((i : Nat) : Int)), l13]) (st' := []) (w' := w) (n' := 142) rfl ?_
              rw [show wrp (((g : Nat) : Int) + 1) = ((g + 1 : Nat) : Int) from wrp_id (by omega) (by omega)]
              refine qG.blk 1 (pc' := 11) (ls' := [(2, 24), (2, 34), (2, 27), (1, a), (9, 0), (1, b), (9, 0), (1, c), (9, 0), (0, ((g + 1 : Nat) : Int)), (1, x), (9, 0), (0, ((i : Nat) : Int)), l13]) (st' := []) (w' := w) (n' := 142) rfl ?_
              exact ih11 _ (by omega) (g + 1) (a) (b) (c) ((1, x)) ((0, ((i : Nat) : Int))) (l13) rfl (⟨by omega, ha, hb, hc⟩)
            · skip
              refine qG.blk 4 (pc' := 53) (ls' := [(2, 24), (2, 34), (2, 27), (1, a), (9, 0), (1, b), (9, 0), (1, c), (9, 0), (0, ((g : Nat) : Int)), (1, x), (9, 0), (0, ((i : Nat) : Int)), l13]) (st' := [(0, wrp (64 * ((g : Nat) : Int))), (0, 3)]) (w' := w) (n' := 142) rfl ?_
              rw [show wrp (64 * ((g : Nat) : Int)) = ((64 * g : Nat) : Int) from by rw [wrp_id (by omega) (by omega)]; omega]
              refine qG.blk 1 (pc' := 55) (ls' := [(2, 24), (2, 34), (2, 27), (1, a), (9, 0), (1, b), (9, 0), (1, c), (9, 0), (0, ((g : Nat) : Int)), (1, x), (9, 0), (0, ((i : Nat) : Int)), l13]) (st' := [(1, x), (0, ((64 * g : Nat) : Int)), (0, 3)]) (w' := w) (n' := 142) rfl ?_
              refine qG.call (t := 303) (na := 1) (sk := 0) (md := 0) (ls1 := [(1, x), (9, 0), (9, 0)]) (r1 := [(0, ((64 * g : Nat) : Int)), (0, 3)]) rfl rfl rfl rfl rfl (AW.use (c := C_nTZL.2) (as := [(1, x)]) (m := []) T_nTZL (AW.rf hI) (show 2 ≤ d by omega) ⟨⟨rfl, i64l hx, i64u hx⟩, trivial⟩ rfl rfl (by decide +kernel)) ?_
              rintro _ w7 _ ⟨x7, rfl, hl7, hu7, hA7, rfl, -⟩
              have e7 := hA7.nilz
              rw [e7]
              have hl7 : (0 : Int) ≤ x7 := hl7
              have hu7 : x7 ≤ (64 : Int) := hu7
              obtain ⟨s, rfl⟩ : ∃ s : Nat, x7 = (s : Int) := ⟨x7.toNat, by omega⟩
              show qG none (d + 1) 101 58 [(2, 24), (2, 34), (2, 27), (1, a), (9, 0), (1, b), (9, 0), (1, c), (9, 0), (0, ((g : Nat) : Int)), (1, x), (9, 0), (0, ((i : Nat) : Int)), l13] [(0, ((s : Nat) : Int)), (0, ((64 * g : Nat) : Int)), (0, 3)] w 142 Q9
              refine qG.blk 1 (pc' := 59) (ls' := [(2, 24), (2, 34), (2, 27), (1, a), (9, 0), (1, b), (9, 0), (1, c), (9, 0), (0, ((g : Nat) : Int)), (1, x), (9, 0), (0, ((i : Nat) : Int)), l13]) (st' := [(0, wrp (((64 * g : Nat) : Int) + ((s : Nat) : Int))), (0, 3)]) (w' := w) (n' := 142) rfl ?_
              rw [show wrp (((64 * g : Nat) : Int) + ((s : Nat) : Int)) = ((64 * g + s : Nat) : Int) from by rw [wrp_id (by omega) (by omega)]; omega]
              refine qG.blk 1 (pc' := 60) (ls' := [(2, 24), (2, 34), (2, 27), (1, a), (9, 0), (1, b), (9, 0), (1, c), (9, 0), (0, ((g : Nat) : Int)), (1, x), (9, 0), (0, ((i : Nat) : Int)), l13]) (st' := [(0, wrp (3 * ((64 * g + s : Nat) : Int)))]) (w' := w) (n' := 142) rfl ?_
              rw [show wrp (3 * ((64 * g + s : Nat) : Int)) = ((3 * (64 * g + s) : Nat) : Int) from by rw [wrp_id (by omega) (by omega)]; omega]
              refine qG.blk 5 (pc' := 68) (ls' := [(2, 24), (2, 34), (2, 27), (1, a), (9, 0), (1, b), (9, 0), (1, c), (9, 0), (0, ((g : Nat) : Int)), (1, x), (9, 0), (0, ((i : Nat) : Int)), (0, ((3 * (64 * g + s) : Nat) : Int))]) (st' := [(1, wrl (x - 1)), (1, x)]) (w' := w) (n' := 142) rfl ?_
              refine qG.blk 3 (pc' := 73) (ls' := [(2, 24), (2, 34), (2, 27), (1, a), (9, 0), (1, b), (9, 0), (1, c), (9, 0), (0, ((g : Nat) : Int)), (1, qland x (wrl (x - 1))), (9, 0), (0, ((i : Nat) : Int)), (0, ((3 * (64 * g + s) : Nat) : Int))]) (st' := [(0, ((3 * (64 * g + s) : Nat) : Int))]) (w' := w) (n' := 142) rfl ?_
              refine qG.br (P := ((3 * (64 * g + s) : Nat) : Int) < 0) (pc1 := 126) (pc2 := 76) (st1 := []) rfl (fun hr0 => ?_) (fun hr0 => ?_)
              · exfalso; omega
              · skip
                refine qG.blk 3 (pc' := 80) (ls' := [(2, 24), (2, 34), (2, 27), (1, a), (9, 0), (1, b), (9, 0), (1, c), (9, 0), (0, ((g : Nat) : Int)), (1, qland x (wrl (x - 1))), (9, 0), (0, ((i : Nat) : Int)), (0, ((3 * (64 * g + s) : Nat) : Int))]) (st' := [(0, wrp (((3 * (64 * g + s) : Nat) : Int) + 2))]) (w' := w) (n' := 142) rfl ?_
                rw [show wrp (((3 * (64 * g + s) : Nat) : Int) + 2) = ((3 * (64 * g + s) + 2 : Nat) : Int) from by rw [wrp_id (by omega) (by omega)]; omega]
                refine qG.blk 2 (pc' := 84) (ls' := [(2, 24), (2, 34), (2, 27), (1, a), (9, 0), (1, b), (9, 0), (1, c), (9, 0), (0, ((g : Nat) : Int)), (1, qland x (wrl (x - 1))), (9, 0), (0, ((i : Nat) : Int)), (0, ((3 * (64 * g + s) : Nat) : Int))]) (st' := [(2, w 24 5), (0, ((3 * (64 * g + s) + 2 : Nat) : Int))]) (w' := w) (n' := 142) rfl ?_
                rw [show w 24 5 = 26 from zrefz hI rfl rfl]
                refine qG.blk 1 (pc' := 85) (ls' := [(2, 24), (2, 34), (2, 27), (1, a), (9, 0), (1, b), (9, 0), (1, c), (9, 0), (0, ((g : Nat) : Int)), (1, qland x (wrl (x - 1))), (9, 0), (0, ((i : Nat) : Int)), (0, ((3 * (64 * g + s) : Nat) : Int))]) (st' := [(0, 540), (0, ((3 * (64 * g + s) + 2 : Nat) : Int))]) (w' := w) (n' := 142) rfl ?_
                rw [show (540 : Int) = N5 from hN5.symm]
                refine qG.br (P := ((3 * (64 * g + s) + 2 : Nat) : Int) < N5) (pc1 := 88) (pc2 := 126) (st1 := []) rfl (fun h540 => ?_) (fun h540 => ?_)
                · skip
                  refine qG.blk 3 (pc' := 93) (ls' := [(2, 24), (2, 34), (2, 27), (1, a), (9, 0), (1, b), (9, 0), (1, c), (9, 0), (0, ((g : Nat) : Int)), (1, qland x (wrl (x - 1))), (9, 0), (0, ((i : Nat) : Int)), (0, ((3 * (64 * g + s) : Nat) : Int))]) (st' := [(2, w 24 5), (1, a)]) (w' := w) (n' := 142) rfl ?_
                  rw [show w 24 5 = 26 from zrefz hI rfl rfl]
                  refine qG.blk 1 (pc' := 95) (ls' := [(2, 24), (2, 34), (2, 27), (1, a), (9, 0), (1, b), (9, 0), (1, c), (9, 0), (0, ((g : Nat) : Int)), (1, qland x (wrl (x - 1))), (9, 0), (0, ((i : Nat) : Int)), (0, ((3 * (64 * g + s) : Nat) : Int))]) (st' := [(0, ((3 * (64 * g + s) : Nat) : Int)), (2, 26), (1, a)]) (w' := w) (n' := 142) rfl ?_
                  refine qG.lldz (m := 540) rfl rfl (by omega) (by decide) ?_
                  show qG none (d + 1) 101 96 [(2, 24), (2, 34), (2, 27), (1, a), (9, 0), (1, b), (9, 0), (1, c), (9, 0), (0, ((g : Nat) : Int)), (1, qland x (wrl (x - 1))), (9, 0), (0, ((i : Nat) : Int)), (0, ((3 * (64 * g + s) : Nat) : Int))] [(1, w 26 (3 * (64 * g + s))), (1, a)] w 142 Q9
                  refine qG.blk 5 (pc' := 104) (ls' := [(2, 24), (2, 34), (2, 27), (1, qlor a (w 26 (3 * (64 * g + s)))), (9, 0), (1, b), (9, 0), (1, c), (9, 0), (0, ((g : Nat) : Int)), (1, qland x (wrl (x - 1))), (9, 0), (0, ((i : Nat) : Int)), (0, ((3 * (64 * g + s) : Nat) : Int))]) (st' := [(2, w 24 5), (1, b)]) (w' := w) (n' := 142) rfl ?_
                  rw [show w 24 5 = 26 from zrefz hI rfl rfl]
                  refine qG.blk 3 (pc' := 108) (ls' := [(2, 24), (2, 34), (2, 27), (1, qlor a (w 26 (3 * (64 * g + s)))), (9, 0), (1, b), (9, 0), (1, c), (9, 0), (0, ((g : Nat) : Int)), (1, qland x (wrl (x - 1))), (9, 0), (0, ((i : Nat) : Int)), (0, ((3 * (64 * g + s) : Nat) : Int))]) (st' := [(0, wrp (((3 * (64 * g + s) : Nat) : Int) + 1)), (2, 26), (1, b)]) (w' := w) (n' := 142) rfl ?_
                  rw [show wrp (((3 * (64 * g + s) : Nat) : Int) + 1) = ((3 * (64 * g + s) + 1 : Nat) : Int) from by rw [wrp_id (by omega) (by omega)]; omega]
                  refine qG.lldz (m := 540) rfl rfl (by omega) (by decide) ?_
                  show qG none (d + 1) 101 109 [(2, 24), (2, 34), (2, 27), (1, qlor a (w 26 (3 * (64 * g + s)))), (9, 0), (1, b), (9, 0), (1, c), (9, 0), (0, ((g : Nat) : Int)), (1, qland x (wrl (x - 1))), (9, 0), (0, ((i : Nat) : Int)), (0, ((3 * (64 * g + s) : Nat) : Int))] [(1, w 26 (3 * (64 * g + s) + 1)), (1, b)] w 142 Q9
                  refine qG.blk 5 (pc' := 118) (ls' := [(2, 24), (2, 34), (2, 27), (1, qlor a (w 26 (3 * (64 * g + s)))), (9, 0), (1, qlor b (w 26 (3 * (64 * g + s) + 1))), (9, 0), (1, c), (9, 0), (0, ((g : Nat) : Int)), (1, qland x (wrl (x - 1))), (9, 0), (0, ((i : Nat) : Int)), (0, ((3 * (64 * g + s) : Nat) : Int))]) (st' := [(2, w 24 5), (1, c)]) (w' := w) (n' := 142) rfl ?_
                  rw [show w 24 5 = 26 from zrefz hI rfl rfl]
                  refine qG.blk 3 (pc' := 122) (ls' := [(2, 24), (2, 34), (2, 27), (1, qlor a (w 26 (3 * (64 * g + s)))), (9, 0), (1, qlor b (w 26 (3 * (64 * g + s) + 1))), (9, 0), (1, c), (9, 0), (0, ((g : Nat) : Int)), (1, qland x (wrl (x - 1))), (9, 0), (0, ((i : Nat) : Int)), (0, ((3 * (64 * g + s) : Nat) : Int))]) (st' := [(0, wrp (((3 * (64 * g + s) : Nat) : Int) + 2)), (2, 26), (1, c)]) (w' := w) (n' := 142) rfl ?_
                  rw [show wrp (((3 * (64 * g + s) : Nat) : Int) + 2) = ((3 * (64 * g + s) + 2 : Nat) : Int) from by rw [wrp_id (by omega) (by omega)]; omega]
                  refine qG.lldz (m := 540) rfl rfl (by omega) (by decide) ?_
                  show qG none (d + 1) 101 123 [(2, 24), (2, 34), (2, 27), (1, qlor a (w 26 (3 * (64 * g + s)))), (9, 0), (1, qlor b (w 26 (3 * (64 * g + s) + 1))), (9, 0), (1, c), (9, 0), (0, ((g : Nat) : Int)), (1, qland x (wrl (x - 1))), (9, 0), (0, ((i : Nat) : Int)), (0, ((3 * (64 * g + s) : Nat) : Int))] [(1, w 26 (3 * (64 * g + s) + 2)), (1, c)] w 142 Q9
                  refine qG.blk 3 (pc' := 129) (ls' := [(2, 24), (2, 34), (2, 27), (1, qlor a (w 26 (3 * (64 * g + s)))), (9, 0), (1, qlor b (w 26 (3 * (64 * g + s) + 1))), (9, 0), (1, qlor c (w 26 (3 * (64 * g + s) + 2))), (9, 0), (0, ((g : Nat) : Int)), (1, qland x (wrl (x - 1))), (9, 0), (0, wrp (((i : Nat) : Int) + 1)), (0, ((3 * (64 * g + s) : Nat) : Int))]) (st' := []) (w' := w) (n' := 142) rfl ?_
                  rw [show wrp (((i : Nat) : Int) + 1) = ((i + 1 : Nat) : Int) from wrp_id (by omega) (by omega)]
                  refine qG.blk 1 (pc' := 33) (ls' := [(2, 24), (2, 34), (2, 27), (1, qlor a (w 26 (3 * (64 * g + s)))), (9, 0), (1, qlor b (w 26 (3 * (64 * g + s) + 1))), (9, 0), (1, qlor c (w 26 (3 * (64 * g + s) + 2))), (9, 0), (0, ((g : Nat) : Int)), (1, qland x (wrl (x - 1))), (9, 0), (0, ((i + 1 : Nat) : Int)), (0, ((3 * (64 * g + s) : Nat) : Int))]) (st' := []) (w' := w) (n' := 142) rfl ?_
                  exact ih33 _ (by omega) (i + 1) (qlor a (w 26 (3 * (64 * g + s)))) (qlor b (w 26 (3 * (64 * g + s) + 1))) (qlor c (w 26 (3 * (64 * g + s) + 2))) (qland x (wrl (x - 1))) ((0, ((3 * (64 * g + s) : Nat) : Int))) rfl (⟨by omega, by first | exact ha | exact qlorz _ _, by first | exact hb | exact qlorz _ _, by first | exact hc | exact qlorz _ _, qlandz _ _⟩)
                · skip
                  refine qG.blk 1 (pc' := 129) (ls' := [(2, 24), (2, 34), (2, 27), (1, a), (9, 0), (1, b), (9, 0), (1, c), (9, 0), (0, ((g : Nat) : Int)), (1, qland x (wrl (x - 1))), (9, 0), (0, wrp (((i : Nat) : Int) + 1)), (0, ((3 * (64 * g + s) : Nat) : Int))]) (st' := []) (w' := w) (n' := 142) rfl ?_
                  rw [show wrp (((i : Nat) : Int) + 1) = ((i + 1 : Nat) : Int) from wrp_id (by omega) (by omega)]
                  refine qG.blk 1 (pc' := 33) (ls' := [(2, 24), (2, 34), (2, 27), (1, a), (9, 0), (1, b), (9, 0), (1, c), (9, 0), (0, ((g : Nat) : Int)), (1, qland x (wrl (x - 1))), (9, 0), (0, ((i + 1 : Nat) : Int)), (0, ((3 * (64 * g + s) : Nat) : Int))]) (st' := []) (w' := w) (n' := 142) rfl ?_
                  exact ih33 _ (by omega) (i + 1) (a) (b) (c) (qland x (wrl (x - 1))) ((0, ((3 * (64 * g + s) : Nat) : Int))) rfl (⟨by omega, by first | exact ha | exact qlorz _ _, by first | exact hb | exact qlorz _ _, by first | exact hc | exact qlorz _ _, qlandz _ _⟩)
          · skip
            refine qG.blk 1 (pc' := 135) (ls' := [(2, 24), (2, 34), (2, 27), (1, a), (9, 0), (1, b), (9, 0), (1, c), (9, 0), (0, wrp (((g : Nat) : Int) + 1)), (1, x), (9, 0), (0, ((i : Nat) : Int)), l13]) (st' := []) (w' := w) (n' := 142) rfl ?_
            rw [show wrp (((g : Nat) : Int) + 1) = ((g + 1 : Nat) : Int) from wrp_id (by omega) (by omega)]
            refine qG.blk 1 (pc' := 11) (ls' := [(2, 24), (2, 34), (2, 27), (1, a), (9, 0), (1, b), (9, 0), (1, c), (9, 0), (0, ((g + 1 : Nat) : Int)), (1, x), (9, 0), (0, ((i : Nat) : Int)), l13]) (st' := []) (w' := w) (n' := 142) rfl ?_
            exact ih11 _ (by omega) (g + 1) (a) (b) (c) ((1, x)) ((0, ((i : Nat) : Int))) (l13) rfl (⟨by omega, ha, hb, hc⟩)
        exact L33 _ (0) (a) (b) (c) (w 34 g) (l13) rfl (⟨Nat.zero_le _, ha, hb, hc, arrz hI rfl rfl⟩)
      · exfalso; omega
    · skip
      refine qG.blk 4 (pc' := 144) (ls' := [(2, 24), (2, 34), (2, 27), (1, a), (9, 0), (1, b), (9, 0), (1, c), (9, 0), (0, ((g : Nat) : Int)), l10, (9, 0), l12, l13]) (st' := [(1, c), (1, b), (1, a), (2, 27)]) (w' := w) (n' := 142) rfl ?_
      refine qG.call (t := 105) (na := 4) (sk := 0) (md := 0) (ls1 := [(2, 27), (1, a), (9, 0), (1, b), (9, 0), (1, c), (9, 0)]) (r1 := []) rfl rfl rfl rfl rfl (AW.use (c := C_putRow27.2) (as := [(2, 27), (1, a), (1, b), (1, c)]) (m := [27]) T_putRow27 (AW.rf hI) (show 1 ≤ d by omega) ⟨⟨rfl, by decide, by decide⟩, ⟨rfl, i64l ha, i64u ha⟩, ⟨rfl, i64l hb, i64u hb⟩, ⟨rfl, i64l hc, i64u hc⟩, trivial⟩ rfl rfl (by decide +kernel)) ?_
      rintro _ w0 _ ⟨x7, rfl, -, -, hA7, rfl, -⟩
      show qG none (d + 1) 101 147 [(2, 24), (2, 34), (2, 27), (1, a), (9, 0), (1, b), (9, 0), (1, c), (9, 0), (0, ((g : Nat) : Int)), l10, (9, 0), l12, l13] [] w0 142 Q9
      refine qG.retv rfl rfl ?_
      subst hQ9
      exact ⟨rfl, rfl, hA7⟩
  exact L11 _ (0) (0) (0) (0) ((9, 0)) ((9, 0)) ((9, 0)) rfl (⟨Nat.zero_le _, ⟨by decide, by decide⟩, ⟨by decide, by decide⟩, ⟨by decide, by decide⟩⟩)
noncomputable def C_spread_34_27 : Nat × yC := (101, (5, [(2, 24, 24), (2, 34, 34), (2, 27, 27)], (9, 0, 0), [27], [], [], [], 0, []))
theorem T_spread_34_27 {w0 : qW} : yCOK w0 zgf zga zra zSp zgh C_spread_34_27.1 C_spread_34_27.2 := by
  intro d as w hd hm hI hn hp
  have e : as = [(2, 24), (2, 34), (2, 27)] := args3r hm
  subst e
  refine qG.mono (K_spreadZ34_27 hd w hI) ?_
  rintro _ w' _ ⟨rfl, rfl, hA⟩
  exact ⟨⟨rfl, Int.le_refl 0, Int.le_refl 0⟩, hA.1, rfl, hA.2, fun e he => (by cases he), fun z => (by cases z)⟩
theorem K_spreadZ35_27 {d : Nat} (hd : 5 ≤ d) (w : qW) (hI : yInv zgf zga zra zSp w) : qG none d 101 0 [(2, 24), (2, 35), (2, 27), (9, 0), (9, 0), (9, 0), (9, 0), (9, 0), (9, 0), (9, 0), (9, 0), (9, 0), (9, 0), (9, 0)] [] w 142 (fun (r : qV) (w1 : qW) (n1 : Nat) => r = (9, 0) ∧ n1 = 142 ∧ AW [27] w w1) := by
  generalize hQ9 : (fun (r : qV) (w1 : qW) (n1 : Nat) => r = (9, 0) ∧ n1 = 142 ∧ AW [27] w w1) = Q9
  obtain ⟨N5, hN5⟩ : ∃ N : Int, N = 540 := ⟨_, rfl⟩
  obtain ⟨d, rfl⟩ : ∃ d9, d = d9 + 1 := ⟨d - 1, by omega⟩
  refine qG.blk 8 (pc' := 11) (ls' := [(2, 24), (2, 35), (2, 27), (1, 0), (9, 0), (1, 0), (9, 0), (1, 0), (9, 0), (0, 0), (9, 0), (9, 0), (9, 0), (9, 0)]) (st' := []) (w' := w) (n' := 142) rfl ?_
  have L11 : ∀ (m9 : Nat) (g : Nat) (a b c : Int) (l10 l12 l13 : qV), 3 - g = m9 → (g ≤ 3 ∧ qi64 a ∧ qi64 b ∧ qi64 c) → qG none (d + 1) 101 11 [(2, 24), (2, 35), (2, 27), (1, a), (9, 0), (1, b), (9, 0), (1, c), (9, 0), (0, ((g : Nat) : Int)), l10, (9, 0), l12, l13] [] w 142 Q9 := by
    intro m9
    induction m9 using Nat.strongRecOn with
    | ind m9 ih11 =>
    intro g a b c l10 l12 l13 hm11 hI11
    obtain ⟨hg3, ha, hb, hc⟩ := hI11
    refine qG.blk 2 (pc' := 14) (ls' := [(2, 24), (2, 35), (2, 27), (1, a), (9, 0), (1, b), (9, 0), (1, c), (9, 0), (0, ((g : Nat) : Int)), l10, (9, 0), l12, l13]) (st' := [(0, 3), (0, ((g : Nat) : Int))]) (w' := w) (n' := 142) rfl ?_
    refine qG.br (P := ((g : Nat) : Int) < 3) (pc1 := 17) (pc2 := 138) (st1 := []) rfl (fun hg => ?_) (fun hg => ?_)
    · skip
      refine qG.blk 3 (pc' := 21) (ls' := [(2, 24), (2, 35), (2, 27), (1, a), (9, 0), (1, b), (9, 0), (1, c), (9, 0), (0, ((g : Nat) : Int)), l10, (9, 0), l12, l13]) (st' := [(0, 3), (0, ((g : Nat) : Int))]) (w' := w) (n' := 142) rfl ?_
      refine qG.br (P := ((g : Nat) : Int) < 3) (pc1 := 24) (pc2 := 138) (st1 := []) rfl (fun hgl => ?_) (fun hgl => ?_)
      · skip
        refine qG.blk 2 (pc' := 27) (ls' := [(2, 24), (2, 35), (2, 27), (1, a), (9, 0), (1, b), (9, 0), (1, c), (9, 0), (0, ((g : Nat) : Int)), l10, (9, 0), l12, l13]) (st' := [(0, ((g : Nat) : Int)), (2, 35)]) (w' := w) (n' := 142) rfl ?_
        refine qG.ar (P := 0 ≤ ((g : Nat) : Int) ∧ ((g : Nat) : Int) < ((3 : Nat) : Int)) (P2 := 0 < (35 : Int) ∧ (35 : Int) ≤ ((142 : Nat) : Int)) (pc' := 28) (ls' := [(2, 24), (2, 35), (2, 27), (1, a), (9, 0), (1, b), (9, 0), (1, c), (9, 0), (0, ((g : Nat) : Int)), l10, (9, 0), l12, l13]) (st' := [(1, w 35 g)]) (w' := w) (n' := 142) rfl (by omega) (by decide) ?_
        refine qG.blk 3 (pc' := 33) (ls' := [(2, 24), (2, 35), (2, 27), (1, a), (9, 0), (1, b), (9, 0), (1, c), (9, 0), (0, ((g : Nat) : Int)), (1, w 35 g), (9, 0), (0, 0), l13]) (st' := []) (w' := w) (n' := 142) rfl ?_
        have L33 : ∀ (m9 : Nat) (i : Nat) (a b c x : Int) (l13 : qV), 64 - i = m9 → (i ≤ 64 ∧ qi64 a ∧ qi64 b ∧ qi64 c ∧ qi64 x) → qG none (d + 1) 101 33 [(2, 24), (2, 35), (2, 27), (1, a), (9, 0), (1, b), (9, 0), (1, c), (9, 0), (0, ((g : Nat) : Int)), (1, x), (9, 0), (0, ((i : Nat) : Int)), l13] [] w 142 Q9 := by
          intro m9
          induction m9 using Nat.strongRecOn with
          | ind m9 ih33 =>
          intro i a b c x l13 hm33 hI33
          obtain ⟨hi64, ha, hb, hc, hx⟩ := hI33
          refine qG.blk 2 (pc' := 37) (ls' := [(2, 24), (2, 35), (2, 27), (1, a), (9, 0), (1, b), (9, 0), (1, c), (9, 0), (0, ((g : Nat) : Int)), (1, x), (9, 0), (0, ((i : Nat) : Int)), l13]) (st' := [(0, 64), (0, ((i : Nat) : Int))]) (w' := w) (n' := 142) rfl ?_
          refine qG.br (P := ((i : Nat) : Int) < 64) (pc1 := 40) (pc2 := 132) (st1 := []) rfl (fun hi65 => ?_) (fun hi65 => ?_)
          · skip
            refine qG.blk 3 (pc' := 44) (ls' := [(2, 24), (2, 35), (2, 27), (1, a), (9, 0), (1, b), (9, 0), (1, c), (9, 0), (0, ((g : Nat) : Int)), (1, x), (9, 0), (0, ((i : Nat) : Int)), l13]) (st' := [(0, qcmp x 0)]) (w' := w) (n' := 142) rfl ?_
            refine qG.br (P := qcmp x 0 = 0) (pc1 := 132) (pc2 := 47) (st1 := []) rfl (fun hx0 => ?_) (fun hx0 => ?_)
            · skip
              refine qG.blk 1 (pc' := 135) (ls' := [(2, 24), (2, 35), (2, 27), (1, a), (9, 0), (1, b), (9, 0), (1, c), (9, 0), (0, wrp (((g : Nat) : Int) + 1)), (1, x), (9, 0), (0, ((i : Nat) : Int)), l13]) (st' := []) (w' := w) (n' := 142) rfl ?_
              rw [show wrp (((g : Nat) : Int) + 1) = ((g + 1 : Nat) : Int) from wrp_id (by omega) (by omega)]
              refine qG.blk 1 (pc' := 11) (ls' := [(2, 24), (2, 35), (2, 27), (1, a), (9, 0), (1, b), (9, 0), (1, c), (9, 0), (0, ((g + 1 : Nat) : Int)), (1, x), (9, 0), (0, ((i : Nat) : Int)), l13]) (st' := []) (w' := w) (n' := 142) rfl ?_
              exact ih11 _ (by omega) (g + 1) (a) (b) (c) ((1, x)) ((0, ((i : Nat) : Int))) (l13) rfl (⟨by omega, ha, hb, hc⟩)
            · skip
              refine qG.blk 4 (pc' := 53) (ls' := [(2, 24), (2, 35), (2, 27), (1, a), (9, 0), (1, b), (9, 0), (1, c), (9, 0), (0, ((g : Nat) : Int)), (1, x), (9, 0), (0, ((i : Nat) : Int)), l13]) (st' := [(0, wrp (64 * ((g : Nat) : Int))), (0, 3)]) (w' := w) (n' := 142) rfl ?_
              rw [show wrp (64 * ((g : Nat) : Int)) = ((64 * g : Nat) : Int) from by rw [wrp_id (by omega) (by omega)]; omega]
              refine qG.blk 1 (pc' := 55) (ls' := [(2, 24), (2, 35), (2, 27), (1, a), (9, 0), (1, b), (9, 0), (1, c), (9, 0), (0, ((g : Nat) : Int)), (1, x), (9, 0), (0, ((i : Nat) : Int)), l13]) (st' := [(1, x), (0, ((64 * g : Nat) : Int)), (0, 3)]) (w' := w) (n' := 142) rfl ?_
              refine qG.call (t := 303) (na := 1) (sk := 0) (md := 0) (ls1 := [(1, x), (9, 0), (9, 0)]) (r1 := [(0, ((64 * g : Nat) : Int)), (0, 3)]) rfl rfl rfl rfl rfl (AW.use (c := C_nTZL.2) (as := [(1, x)]) (m := []) T_nTZL (AW.rf hI) (show 2 ≤ d by omega) ⟨⟨rfl, i64l hx, i64u hx⟩, trivial⟩ rfl rfl (by decide +kernel)) ?_
              rintro _ w7 _ ⟨x7, rfl, hl7, hu7, hA7, rfl, -⟩
              have e7 := hA7.nilz
              rw [e7]
              have hl7 : (0 : Int) ≤ x7 := hl7
              have hu7 : x7 ≤ (64 : Int) := hu7
              obtain ⟨s, rfl⟩ : ∃ s : Nat, x7 = (s : Int) := ⟨x7.toNat, by omega⟩
              show qG none (d + 1) 101 58 [(2, 24), (2, 35), (2, 27), (1, a), (9, 0), (1, b), (9, 0), (1, c), (9, 0), (0, ((g : Nat) : Int)), (1, x), (9, 0), (0, ((i : Nat) : Int)), l13] [(0, ((s : Nat) : Int)), (0, ((64 * g : Nat) : Int)), (0, 3)] w 142 Q9
              refine qG.blk 1 (pc' := 59) (ls' := [(2, 24), (2, 35), (2, 27), (1, a), (9, 0), (1, b), (9, 0), (1, c), (9, 0), (0, ((g : Nat) : Int)), (1, x), (9, 0), (0, ((i : Nat) : Int)), l13]) (st' := [(0, wrp (((64 * g : Nat) : Int) + ((s : Nat) : Int))), (0, 3)]) (w' := w) (n' := 142) rfl ?_
              rw [show wrp (((64 * g : Nat) : Int) + ((s : Nat) : Int)) = ((64 * g + s : Nat) : Int) from by rw [wrp_id (by omega) (by omega)]; omega]
              refine qG.blk 1 (pc' := 60) (ls' := [(2, 24), (2, 35), (2, 27), (1, a), (9, 0), (1, b), (9, 0), (1, c), (9, 0), (0, ((g : Nat) : Int)), (1, x), (9, 0), (0, ((i : Nat) : Int)), l13]) (st' := [(0, wrp (3 * ((64 * g + s : Nat) : Int)))]) (w' := w) (n' := 142) rfl ?_
              rw [show wrp (3 * ((64 * g + s : Nat) : Int)) = ((3 * (64 * g + s) : Nat) : Int) from by rw [wrp_id (by omega) (by omega)]; omega]
              refine qG.blk 5 (pc' := 68) (ls' := [(2, 24), (2, 35), (2, 27), (1, a), (9, 0), (1, b), (9, 0), (1, c), (9, 0), (0, ((g : Nat) : Int)), (1, x), (9, 0), (0, ((i : Nat) : Int)), (0, ((3 * (64 * g + s) : Nat) : Int))]) (st' := [(1, wrl (x - 1)), (1, x)]) (w' := w) (n' := 142) rfl ?_
              refine qG.blk 3 (pc' := 73) (ls' := [(2, 24), (2, 35), (2, 27), (1, a), (9, 0), (1, b), (9, 0), (1, c), (9, 0), (0, ((g : Nat) : Int)), (1, qland x (wrl (x - 1))), (9, 0), (0, ((i : Nat) : Int)), (0, ((3 * (64 * g + s) : Nat) : Int))]) (st' := [(0, ((3 * (64 * g + s) : Nat) : Int))]) (w' := w) (n' := 142) rfl ?_
              refine qG.br (P := ((3 * (64 * g + s) : Nat) : Int) < 0) (pc1 := 126) (pc2 := 76) (st1 := []) rfl (fun hr0 => ?_) (fun hr0 => ?_)
              · exfalso; omega
              · skip
                refine qG.blk 3 (pc' := 80) (ls' := [(2, 24), (2, 35), (2, 27), (1, a), (9, 0), (1, b), (9, 0), (1, c), (9, 0), (0, ((g : Nat) : Int)), (1, qland x (wrl (x - 1))), (9, 0), (0, ((i : Nat) : Int)), (0, ((3 * (64 * g + s) : Nat) : Int))]) (st' := [(0, wrp (((3 * (64 * g + s) : Nat) : Int) + 2))]) (w' := w) (n' := 142) rfl ?_
                rw [show wrp (((3 * (64 * g + s) : Nat) : Int) + 2) = ((3 * (64 * g + s) + 2 : Nat) : Int) from by rw [wrp_id (by omega) (by omega)]; omega]
                refine qG.blk 2 (pc' := 84) (ls' := [(2, 24), (2, 35), (2, 27), (1, a), (9, 0), (1, b), (9, 0), (1, c), (9, 0), (0, ((g : Nat) : Int)), (1, qland x (wrl (x - 1))), (9, 0), (0, ((i : Nat) : Int)), (0, ((3 * (64 * g + s) : Nat) : Int))]) (st' := [(2, w 24 5), (0, ((3 * (64 * g + s) + 2 : Nat) : Int))]) (w' := w) (n' := 142) rfl ?_
                rw [show w 24 5 = 26 from zrefz hI rfl rfl]
                refine qG.blk 1 (pc' := 85) (ls' := [(2, 24), (2, 35), (2, 27), (1, a), (9, 0), (1, b), (9, 0), (1, c), (9, 0), (0, ((g : Nat) : Int)), (1, qland x (wrl (x - 1))), (9, 0), (0, ((i : Nat) : Int)), (0, ((3 * (64 * g + s) : Nat) : Int))]) (st' := [(0, 540), (0, ((3 * (64 * g + s) + 2 : Nat) : Int))]) (w' := w) (n' := 142) rfl ?_
                rw [show (540 : Int) = N5 from hN5.symm]
                refine qG.br (P := ((3 * (64 * g + s) + 2 : Nat) : Int) < N5) (pc1 := 88) (pc2 := 126) (st1 := []) rfl (fun h540 => ?_) (fun h540 => ?_)
                · skip
                  refine qG.blk 3 (pc' := 93) (ls' := [(2, 24), (2, 35), (2, 27), (1, a), (9, 0), (1, b), (9, 0), (1, c), (9, 0), (0, ((g : Nat) : Int)), (1, qland x (wrl (x - 1))), (9, 0), (0, ((i : Nat) : Int)), (0, ((3 * (64 * g + s) : Nat) : Int))]) (st' := [(2, w 24 5), (1, a)]) (w' := w) (n' := 142) rfl ?_
                  rw [show w 24 5 = 26 from zrefz hI rfl rfl]
                  refine qG.blk 1 (pc' := 95) (ls' := [(2, 24), (2, 35), (2, 27), (1, a), (9, 0), (1, b), (9, 0), (1, c), (9, 0), (0, ((g : Nat) : Int)), (1, qland x (wrl (x - 1))), (9, 0), (0, ((i : Nat) : Int)), (0, ((3 * (64 * g + s) : Nat) : Int))]) (st' := [(0, ((3 * (64 * g + s) : Nat) : Int)), (2, 26), (1, a)]) (w' := w) (n' := 142) rfl ?_
                  refine qG.lldz (m := 540) rfl rfl (by omega) (by decide) ?_
                  show qG none (d + 1) 101 96 [(2, 24), (2, 35), (2, 27), (1, a), (9, 0), (1, b), (9, 0), (1, c), (9, 0), (0, ((g : Nat) : Int)), (1, qland x (wrl (x - 1))), (9, 0), (0, ((i : Nat) : Int)), (0, ((3 * (64 * g + s) : Nat) : Int))] [(1, w 26 (3 * (64 * g + s))), (1, a)] w 142 Q9
                  refine qG.blk 5 (pc' := 104) (ls' := [(2, 24), (2, 35), (2, 27), (1, qlor a (w 26 (3 * (64 * g + s)))), (9, 0), (1, b), (9, 0), (1, c), (9, 0), (0, ((g : Nat) : Int)), (1, qland x (wrl (x - 1))), (9, 0), (0, ((i : Nat) : Int)), (0, ((3 * (64 * g + s) : Nat) : Int))]) (st' := [(2, w 24 5), (1, b)]) (w' := w) (n' := 142) rfl ?_
                  rw [show w 24 5 = 26 from zrefz hI rfl rfl]
                  refine qG.blk 3 (pc' := 108) (ls' := [(2, 24), (2, 35), (2, 27), (1, qlor a (w 26 (3 * (64 * g + s)))), (9, 0), (1, b), (9, 0), (1, c), (9, 0), (0, ((g : Nat) : Int)), (1, qland x (wrl (x - 1))), (9, 0), (0, ((i : Nat) : Int)), (0, ((3 * (64 * g + s) : Nat) : Int))]) (st' := [(0, wrp (((3 * (64 * g + s) : Nat) : Int) + 1)), (2, 26), (1, b)]) (w' := w) (n' := 142) rfl ?_
                  rw [show wrp (((3 * (64 * g + s) : Nat) : Int) + 1) = ((3 * (64 * g + s) + 1 : Nat) : Int) from by rw [wrp_id (by omega) (by omega)]; omega]
                  refine qG.lldz (m := 540) rfl rfl (by omega) (by decide) ?_
                  show qG none (d + 1) 101 109 [(2, 24), (2, 35), (2, 27), (1, qlor a (w 26 (3 * (64 * g + s)))), (9, 0), (1, b), (9, 0), (1, c), (9, 0), (0, ((g : Nat) : Int)), (1, qland x (wrl (x - 1))), (9, 0), (0, ((i : Nat) : Int)), (0, ((3 * (64 * g + s) : Nat) : Int))] [(1, w 26 (3 * (64 * g + s) + 1)), (1, b)] w 142 Q9
                  refine qG.blk 5 (pc' := 118) (ls' := [(2, 24), (2, 35), (2, 27), (1, qlor a (w 26 (3 * (64 * g + s)))), (9, 0), (1, qlor b (w 26 (3 * (64 * g + s) + 1))), (9, 0), (1, c), (9, 0), (0, ((g : Nat) : Int)), (1, qland x (wrl (x - 1))), (9, 0), (0, ((i : Nat) : Int)), (0, ((3 * (64 * g + s) : Nat) : Int))]) (st' := [(2, w 24 5), (1, c)]) (w' := w) (n' := 142) rfl ?_
                  rw [show w 24 5 = 26 from zrefz hI rfl rfl]
                  refine qG.blk 3 (pc' := 122) (ls' := [(2, 24), (2, 35), (2, 27), (1, qlor a (w 26 (3 * (64 * g + s)))), (9, 0), (1, qlor b (w 26 (3 * (64 * g + s) + 1))), (9, 0), (1, c), (9, 0), (0, ((g : Nat) : Int)), (1, qland x (wrl (x - 1))), (9, 0), (0, ((i : Nat) : Int)), (0, ((3 * (64 * g + s) : Nat) : Int))]) (st' := [(0, wrp (((3 * (64 * g + s) : Nat) : Int) + 2)), (2, 26), (1, c)]) (w' := w) (n' := 142) rfl ?_
                  rw [show wrp (((3 * (64 * g + s) : Nat) : Int) + 2) = ((3 * (64 * g + s) + 2 : Nat) : Int) from by rw [wrp_id (by omega) (by omega)]; omega]
                  refine qG.lldz (m := 540) rfl rfl (by omega) (by decide) ?_
                  show qG none (d + 1) 101 123 [(2, 24), (2, 35), (2, 27), (1, qlor a (w 26 (3 * (64 * g + s)))), (9, 0), (1, qlor b (w 26 (3 * (64 * g + s) + 1))), (9, 0), (1, c), (9, 0), (0, ((g : Nat) : Int)), (1, qland x (wrl (x - 1))), (9, 0), (0, ((i : Nat) : Int)), (0, ((3 * (64 * g + s) : Nat) : Int))] [(1, w 26 (3 * (64 * g + s) + 2)), (1, c)] w 142 Q9
                  refine qG.blk 3 (pc' := 129) (ls' := [(2, 24), (2, 35), (2, 27), (1, qlor a (w 26 (3 * (64 * g + s)))), (9, 0), (1, qlor b (w 26 (3 * (64 * g + s) + 1))), (9, 0), (1, qlor c (w 26 (3 * (64 * g + s) + 2))), (9, 0), (0, ((g : Nat) : Int)), (1, qland x (wrl (x - 1))), (9, 0), (0, wrp (((i : Nat) : Int) + 1)), (0, ((3 * (64 * g + s) : Nat) : Int))]) (st' := []) (w' := w) (n' := 142) rfl ?_
                  rw [show wrp (((i : Nat) : Int) + 1) = ((i + 1 : Nat) : Int) from wrp_id (by omega) (by omega)]
                  refine qG.blk 1 (pc' := 33) (ls' := [(2, 24), (2, 35), (2, 27), (1, qlor a (w 26 (3 * (64 * g + s)))), (9, 0), (1, qlor b (w 26 (3 * (64 * g + s) + 1))), (9, 0), (1, qlor c (w 26 (3 * (64 * g + s) + 2))), (9, 0), (0, ((g : Nat) : Int)), (1, qland x (wrl (x - 1))), (9, 0), (0, ((i + 1 : Nat) : Int)), (0, ((3 * (64 * g + s) : Nat) : Int))]) (st' := []) (w' := w) (n' := 142) rfl ?_
                  exact ih33 _ (by omega) (i + 1) (qlor a (w 26 (3 * (64 * g + s)))) (qlor b (w 26 (3 * (64 * g + s) + 1))) (qlor c (w 26 (3 * (64 * g + s) + 2))) (qland x (wrl (x - 1))) ((0, ((3 * (64 * g + s) : Nat) : Int))) rfl (⟨by omega, by first | exact ha | exact qlorz _ _, by first | exact hb | exact qlorz _ _, by first | exact hc | exact qlorz _ _, qlandz _ _⟩)
                · skip
                  refine qG.blk 1 (pc' := 129) (ls' := [(2, 24), (2, 35), (2, 27), (1, a), (9, 0), (1, b), (9, 0), (1, c), (9, 0), (0, ((g : Nat) : Int)), (1, qland x (wrl (x - 1))), (9, 0), (0, wrp (((i : Nat) : Int) + 1)), (0, ((3 * (64 * g + s) : Nat) : Int))]) (st' := []) (w' := w) (n' := 142) rfl ?_
                  rw [show wrp (((i : Nat) : Int) + 1) = ((i + 1 : Nat) : Int) from wrp_id (by omega) (by omega)]
                  refine qG.blk 1 (pc' := 33) (ls' := [(2, 24), (2, 35), (2, 27), (1, a), (9, 0), (1, b), (9, 0), (1, c), (9, 0), (0, ((g : Nat) : Int)), (1, qland x (wrl (x - 1))), (9, 0), (0, ((i + 1 : Nat) : Int)), (0, ((3 * (64 * g + s) : Nat) : Int))]) (st' := []) (w' := w) (n' := 142) rfl ?_
                  exact ih33 _ (by omega) (i + 1) (a) (b) (c) (qland x (wrl (x - 1))) ((0, ((3 * (64 * g + s) : Nat) : Int))) rfl (⟨by omega, by first | exact ha | exact qlorz _ _, by first | exact hb | exact qlorz _ _, by first | exact hc | exact qlorz _ _, qlandz _ _⟩)
          · skip
            refine qG.blk 1 (pc' := 135) (ls' := [(2, 24), (2, 35), (2, 27), (1, a), (9, 0), (1, b), (9, 0), (1, c), (9, 0), (0, wrp (((g : Nat) : Int) + 1)), (1, x), (9, 0), (0, ((i : Nat) : Int)), l13]) (st' := []) (w' := w) (n' := 142) rfl ?_
            rw [show wrp (((g : Nat) : Int) + 1) = ((g + 1 : Nat) : Int) from wrp_id (by omega) (by omega)]
            refine qG.blk 1 (pc' := 11) (ls' := [(2, 24), (2, 35), (2, 27), (1, a), (9, 0), (1, b), (9, 0), (1, c), (9, 0), (0, ((g + 1 : Nat) : Int)), (1, x), (9, 0), (0, ((i : Nat) : Int)), l13]) (st' := []) (w' := w) (n' := 142) rfl ?_
            exact ih11 _ (by omega) (g + 1) (a) (b) (c) ((1, x)) ((0, ((i : Nat) : Int))) (l13) rfl (⟨by omega, ha, hb, hc⟩)
        exact L33 _ (0) (a) (b) (c) (w 35 g) (l13) rfl (⟨Nat.zero_le _, ha, hb, hc, arrz hI rfl rfl⟩)
      · exfalso; omega
    · skip
      refine qG.blk 4 (pc' := 144) (ls' := [(2, 24), (2, 35), (2, 27), (1, a), (9, 0), (1, b), (9, 0), (1, c), (9, 0), (0, ((g : Nat) : Int)), l10, (9, 0), l12, l13]) (st' := [(1, c), (1, b), (1, a), (2, 27)]) (w' := w) (n' := 142) rfl ?_
      refine qG.call (t := 105) (na := 4) (sk := 0) (md := 0) (ls1 := [(2, 27), (1, a), (9, 0), (1, b), (9, 0), (1, c), (9, 0)]) (r1 := []) rfl rfl rfl rfl rfl (AW.use (c := C_putRow27.2) (as := [(2, 27), (1, a), (1, b), (1, c)]) (m := [27]) T_putRow27 (AW.rf hI) (show 1 ≤ d by omega) ⟨⟨rfl, by decide, by decide⟩, ⟨rfl, i64l ha, i64u ha⟩, ⟨rfl, i64l hb, i64u hb⟩, ⟨rfl, i64l hc, i64u hc⟩, trivial⟩ rfl rfl (by decide +kernel)) ?_
      rintro _ w0 _ ⟨x7, rfl, -, -, hA7, rfl, -⟩
      show qG none (d + 1) 101 147 [(2, 24), (2, 35), (2, 27), (1, a), (9, 0), (1, b), (9, 0), (1, c), (9, 0), (0, ((g : Nat) : Int)), l10, (9, 0), l12, l13] [] w0 142 Q9
      refine qG.retv rfl rfl ?_
      subst hQ9
      exact ⟨rfl, rfl, hA7⟩
  exact L11 _ (0) (0) (0) (0) ((9, 0)) ((9, 0)) ((9, 0)) rfl (⟨Nat.zero_le _, ⟨by decide, by decide⟩, ⟨by decide, by decide⟩, ⟨by decide, by decide⟩⟩)
noncomputable def C_spread_35_27 : Nat × yC := (101, (5, [(2, 24, 24), (2, 35, 35), (2, 27, 27)], (9, 0, 0), [27], [], [], [], 0, []))
theorem T_spread_35_27 {w0 : qW} : yCOK w0 zgf zga zra zSp zgh C_spread_35_27.1 C_spread_35_27.2 := by
  intro d as w hd hm hI hn hp
  have e : as = [(2, 24), (2, 35), (2, 27)] := args3r hm
  subst e
  refine qG.mono (K_spreadZ35_27 hd w hI) ?_
  rintro _ w' _ ⟨rfl, rfl, hA⟩
  exact ⟨⟨rfl, Int.le_refl 0, Int.le_refl 0⟩, hA.1, rfl, hA.2, fun e he => (by cases he), fun z => (by cases z)⟩
theorem K_spreadZ36_27 {d : Nat} (hd : 5 ≤ d) (w : qW) (hI : yInv zgf zga zra zSp w) : qG none d 101 0 [(2, 24), (2, 36), (2, 27), (9, 0), (9, 0), (9, 0), (9, 0), (9, 0), (9, 0), (9, 0), (9, 0), (9, 0), (9, 0), (9, 0)] [] w 142 (fun (r : qV) (w1 : qW) (n1 : Nat) => r = (9, 0) ∧ n1 = 142 ∧ AW [27] w w1) := by
  generalize hQ9 : (fun (r : qV) (w1 : qW) (n1 : Nat) => r = (9, 0) ∧ n1 = 142 ∧ AW [27] w w1) = Q9
  obtain ⟨N5, hN5⟩ : ∃ N : Int, N = 540 := ⟨_, rfl⟩
  obtain ⟨d, rfl⟩ : ∃ d9, d = d9 + 1 := ⟨d - 1, by omega⟩
  refine qG.blk 8 (pc' := 11) (ls' := [(2, 24), (2, 36), (2, 27), (1, 0), (9, 0), (1, 0), (9, 0), (1, 0), (9, 0), (0, 0), (9, 0), (9, 0), (9, 0), (9, 0)]) (st' := []) (w' := w) (n' := 142) rfl ?_
  have L11 : ∀ (m9 : Nat) (g : Nat) (a b c : Int) (l10 l12 l13 : qV), 3 - g = m9 → (g ≤ 3 ∧ qi64 a ∧ qi64 b ∧ qi64 c) → qG none (d + 1) 101 11 [(2, 24), (2, 36), (2, 27), (1, a), (9, 0), (1, b), (9, 0), (1, c), (9, 0), (0, ((g : Nat) : Int)), l10, (9, 0), l12, l13] [] w 142 Q9 := by
    intro m9
    induction m9 using Nat.strongRecOn with
    | ind m9 ih11 =>
    intro g a b c l10 l12 l13 hm11 hI11
    obtain ⟨hg3, ha, hb, hc⟩ := hI11
    refine qG.blk 2 (pc' := 14) (ls' := [(2, 24), (2, 36), (2, 27), (1, a), (9, 0), (1, b), (9, 0), (1, c), (9, 0), (0, ((g : Nat) : Int)), l10, (9, 0), l12, l13]) (st' := [(0, 3), (0, ((g : Nat) : Int))]) (w' := w) (n' := 142) rfl ?_
    refine qG.br (P := ((g : Nat) : Int) < 3) (pc1 := 17) (pc2 := 138) (st1 := []) rfl (fun hg => ?_) (fun hg => ?_)
    · skip
      refine qG.blk 3 (pc' := 21) (ls' := [(2, 24), (2, 36), (2, 27), (1, a), (9, 0), (1, b), (9, 0), (1, c), (9, 0), (0, ((g : Nat) : Int)), l10, (9, 0), l12, l13]) (st' := [(0, 3), (0, ((g : Nat) : Int))]) (w' := w) (n' := 142) rfl ?_
      refine qG.br (P := ((g : Nat) : Int) < 3) (pc1 := 24) (pc2 := 138) (st1 := []) rfl (fun hgl => ?_) (fun hgl => ?_)
      · skip
        refine qG.blk 2 (pc' := 27) (ls' := [(2, 24), (2, 36), (2, 27), (1, a), (9, 0), (1, b), (9, 0), (1, c), (9, 0), (0, ((g : Nat) : Int)), l10, (9, 0), l12, l13]) (st' := [(0, ((g : Nat) : Int)), (2, 36)]) (w' := w) (n' := 142) rfl ?_
        refine qG.ar (P := 0 ≤ ((g : Nat) : Int) ∧ ((g : Nat) : Int) < ((3 : Nat) : Int)) (P2 := 0 < (36 : Int) ∧ (36 : Int) ≤ ((142 : Nat) : Int)) (pc' := 28) (ls' := [(2, 24), (2, 36), (2, 27), (1, a), (9, 0), (1, b), (9, 0), (1, c), (9, 0), (0, ((g : Nat) : Int)), l10, (9, 0), l12, l13]) (st' := [(1, w 36 g)]) (w' := w) (n' := 142) rfl (by omega) (by decide) ?_
        refine qG.blk 3 (pc' := 33) (ls' := [(2, 24), (2, 36), (2, 27), (1, a), (9, 0), (1, b), (9, 0), (1, c), (9, 0), (0, ((g : Nat) : Int)), (1, w 36 g), (9, 0), (0, 0), l13]) (st' := []) (w' := w) (n' := 142) rfl ?_
        have L33 : ∀ (m9 : Nat) (i : Nat) (a b c x : Int) (l13 : qV), 64 - i = m9 → (i ≤ 64 ∧ qi64 a ∧ qi64 b ∧ qi64 c ∧ qi64 x) → qG none (d + 1) 101 33 [(2, 24), (2, 36), (2, 27), (1, a), (9, 0), (1, b), (9, 0), (1, c), (9, 0), (0, ((g : Nat) : Int)), (1, x), (9, 0), (0, ((i : Nat) : Int)), l13] [] w 142 Q9 := by
          intro m9
          induction m9 using Nat.strongRecOn with
          | ind m9 ih33 =>
          intro i a b c x l13 hm33 hI33
          obtain ⟨hi64, ha, hb, hc, hx⟩ := hI33
          refine qG.blk 2 (pc' := 37) (ls' := [(2, 24), (2, 36), (2, 27), (1, a), (9, 0), (1, b), (9, 0), (1, c), (9, 0), (0, ((g : Nat) : Int)), (1, x), (9, 0), (0, ((i : Nat) : Int)), l13]) (st' := [(0, 64), (0, ((i : Nat) : Int))]) (w' := w) (n' := 142) rfl ?_
          refine qG.br (P := ((i : Nat) : Int) < 64) (pc1 := 40) (pc2 := 132) (st1 := []) rfl (fun hi65 => ?_) (fun hi65 => ?_)
          · skip
            refine qG.blk 3 (pc' := 44) (ls' := [(2, 24), (2, 36), (2, 27), (1, a), (9, 0), (1, b), (9, 0), (1, c), (9, 0), (0, ((g : Nat) : Int)), (1, x), (9, 0), (0, ((i : Nat) : Int)), l13]) (st' := [(0, qcmp x 0)]) (w' := w) (n' := 142) rfl ?_
            refine qG.br (P := qcmp x 0 = 0) (pc1 := 132) (pc2 := 47) (st1 := []) rfl (fun hx0 => ?_) (fun hx0 => ?_)
            · skip
              refine qG.blk 1 (pc' := 135) (ls' := [(2, 24), (2, 36), (2, 27), (1, a), (9, 0), (1, b), (9, 0), (1, c), (9, 0), (0, wrp (((g : Nat) : Int) + 1)), (1, x), (9, 0), (0, ((i : Nat) : Int)), l13]) (st' := []) (w' := w) (n' := 142) rfl ?_
              rw [show wrp (((g : Nat) : Int) + 1) = ((g + 1 : Nat) : Int) from wrp_id (by omega) (by omega)]
              refine qG.blk 1 (pc' := 11) (ls' := [(2, 24), (2, 36), (2, 27), (1, a), (9, 0), (1, b), (9, 0), (1, c), (9, 0), (0, ((g + 1 : Nat) : Int)), (1, x), (9, 0), (0, ((i : Nat) : Int)), l13]) (st' := []) (w' := w) (n' := 142) rfl ?_
              exact ih11 _ (by omega) (g + 1) (a) (b) (c) ((1, x)) ((0, ((i : Nat) : Int))) (l13) rfl (⟨by omega, ha, hb, hc⟩)
            · skip
              refine qG.blk 4 (pc' := 53) (ls' := [(2, 24), (2, 36), (2, 27), (1, a), (9, 0), (1, b), (9, 0), (1, c), (9, 0), (0, ((g : Nat) : Int)), (1, x), (9, 0), (0, ((i : Nat) : Int)), l13]) (st' := [(0, wrp (64 * ((g : Nat) : Int))), (0, 3)]) (w' := w) (n' := 142) rfl ?_
              rw [show wrp (64 * ((g : Nat) : Int)) = ((64 * g : Nat) : Int) from by rw [wrp_id (by omega) (by omega)]; omega]
              refine qG.blk 1 (pc' := 55) (ls' := [(2, 24), (2, 36), (2, 27), (1, a), (9, 0), (1, b), (9, 0), (1, c), (9, 0), (0, ((g : Nat) : Int)), (1, x), (9, 0), (0, ((i : Nat) : Int)), l13]) (st' := [(1, x), (0, ((64 * g : Nat) : Int)), (0, 3)]) (w' := w) (n' := 142) rfl ?_
              refine qG.call (t := 303) (na := 1) (sk := 0) (md := 0) (ls1 := [(1, x), (9, 0), (9, 0)]) (r1 := [(0, ((64 * g : Nat) : Int)), (0, 3)]) rfl rfl rfl rfl rfl (AW.use (c := C_nTZL.2) (as := [(1, x)]) (m := []) T_nTZL (AW.rf hI) (show 2 ≤ d by omega) ⟨⟨rfl, i64l hx, i64u hx⟩, trivial⟩ rfl rfl (by decide +kernel)) ?_
              rintro _ w7 _ ⟨x7, rfl, hl7, hu7, hA7, rfl, -⟩
              have e7 := hA7.nilz
              rw [e7]
              have hl7 : (0 : Int) ≤ x7 := hl7
              have hu7 : x7 ≤ (64 : Int) := hu7
              obtain ⟨s, rfl⟩ : ∃ s : Nat, x7 = (s : Int) := ⟨x7.toNat, by omega⟩
              show qG none (d + 1) 101 58 [(2, 24), (2, 36), (2, 27), (1, a), (9, 0), (1, b), (9, 0), (1, c), (9, 0), (0, ((g : Nat) : Int)), (1, x), (9, 0), (0, ((i : Nat) : Int)), l13] [(0, ((s : Nat) : Int)), (0, ((64 * g : Nat) : Int)), (0, 3)] w 142 Q9
              refine qG.blk 1 (pc' := 59) (ls' := [(2, 24), (2, 36), (2, 27), (1, a), (9, 0), (1, b), (9, 0), (1, c), (9, 0), (0, ((g : Nat) : Int)), (1, x), (9, 0), (0, ((i : Nat) : Int)), l13]) (st' := [(0, wrp (((64 * g : Nat) : Int) + ((s : Nat) : Int))), (0, 3)]) (w' := w) (n' := 142) rfl ?_
              rw [show wrp (((64 * g : Nat) : Int) + ((s : Nat) : Int)) = ((64 * g + s : Nat) : Int) from by rw [wrp_id (by omega) (by omega)]; omega]
              refine qG.blk 1 (pc' := 60) (ls' := [(2, 24), (2, 36), (2, 27), (1, a), (9, 0), (1, b), (9, 0), (1, c), (9, 0), (0, ((g : Nat) : Int)), (1, x), (9, 0), (0, ((i : Nat) : Int)), l13]) (st' := [(0, wrp (3 * ((64 * g + s : Nat) : Int)))]) (w' := w) (n' := 142) rfl ?_
              rw [show wrp (3 * ((64 * g + s : Nat) : Int)) = ((3 * (64 * g + s) : Nat) : Int) from by rw [wrp_id (by omega) (by omega)]; omega]
              refine qG.blk 5 (pc' := 68) (ls' := [(2, 24), (2, 36), (2, 27), (1, a), (9, 0), (1, b), (9, 0), (1, c), (9, 0), (0, ((g : Nat) : Int)), (1, x), (9, 0), (0, ((i : Nat) : Int)), (0, ((3 * (64 * g + s) : Nat) : Int))]) (st' := [(1, wrl (x - 1)), (1, x)]) (w' := w) (n' := 142) rfl ?_
              refine qG.blk 3 (pc' := 73) (ls' := [(2, 24), (2, 36), (2, 27), (1, a), (9, 0), (1, b), (9, 0), (1, c), (9, 0), (0, ((g : Nat) : Int)), (1, qland x (wrl (x - 1))), (9, 0), (0, ((i : Nat) : Int)), (0, ((3 * (64 * g + s) : Nat) : Int))]) (st' := [(0, ((3 * (64 * g + s) : Nat) : Int))]) (w' := w) (n' := 142) rfl ?_
              refine qG.br (P := ((3 * (64 * g + s) : Nat) : Int) < 0) (pc1 := 126) (pc2 := 76) (st1 := []) rfl (fun hr0 => ?_) (fun hr0 => ?_)
              · exfalso; omega
              · skip
                refine qG.blk 3 (pc' := 80) (ls' := [(2, 24), (2, 36), (2, 27), (1, a), (9, 0), (1, b), (9, 0), (1, c), (9, 0), (0, ((g : Nat) : Int)), (1, qland x (wrl (x - 1))), (9, 0), (0, ((i : Nat) : Int)), (0, ((3 * (64 * g + s) : Nat) : Int))]) (st' := [(0, wrp (((3 * (64 * g + s) : Nat) : Int) + 2))]) (w' := w) (n' := 142) rfl ?_
                rw [show wrp (((3 * (64 * g + s) : Nat) : Int) + 2) = ((3 * (64 * g + s) + 2 : Nat) : Int) from by rw [wrp_id (by omega) (by omega)]; omega]
                refine qG.blk 2 (pc' := 84) (ls' := [(2, 24), (2, 36), (2, 27), (1, a), (9, 0), (1, b), (9, 0), (1, c), (9, 0), (0, ((g : Nat) : Int)), (1, qland x (wrl (x - 1))), (9, 0), (0, ((i : Nat) : Int)), (0, ((3 * (64 * g + s) : Nat) : Int))]) (st' := [(2, w 24 5), (0, ((3 * (64 * g + s) + 2 : Nat) : Int))]) (w' := w) (n' := 142) rfl ?_
                rw [show w 24 5 = 26 from zrefz hI rfl rfl]
                refine qG.blk 1 (pc' := 85) (ls' := [(2, 24), (2, 36), (2, 27), (1, a), (9, 0), (1, b), (9, 0), (1, c), (9, 0), (0, ((g : Nat) : Int)), (1, qland x (wrl (x - 1))), (9, 0), (0, ((i : Nat) : Int)), (0, ((3 * (64 * g + s) : Nat) : Int))]) (st' := [(0, 540), (0, ((3 * (64 * g + s) + 2 : Nat) : Int))]) (w' := w) (n' := 142) rfl ?_
                rw [show (540 : Int) = N5 from hN5.symm]
                refine qG.br (P := ((3 * (64 * g + s) + 2 : Nat) : Int) < N5) (pc1 := 88) (pc2 := 126) (st1 := []) rfl (fun h540 => ?_) (fun h540 => ?_)
                · skip
                  refine qG.blk 3 (pc' := 93) (ls' := [(2, 24), (2, 36), (2, 27), (1, a), (9, 0), (1, b), (9, 0), (1, c), (9, 0), (0, ((g : Nat) : Int)), (1, qland x (wrl (x - 1))), (9, 0), (0, ((i : Nat) : Int)), (0, ((3 * (64 * g + s) : Nat) : Int))]) (st' := [(2, w 24 5), (1, a)]) (w' := w) (n' := 142) rfl ?_
                  rw [show w 24 5 = 26 from zrefz hI rfl rfl]
                  refine qG.blk 1 (pc' := 95) (ls' := [(2, 24), (2, 36), (2, 27), (1, a), (9, 0), (1, b), (9, 0), (1, c), (9, 0), (0, ((g : Nat) : Int)), (1, qland x (wrl (x - 1))), (9, 0), (0, ((i : Nat) : Int)), (0, ((3 * (64 * g + s) : Nat) : Int))]) (st' := [(0, ((3 * (64 * g + s) : Nat) : Int)), (2, 26), (1, a)]) (w' := w) (n' := 142) rfl ?_
                  refine qG.lldz (m := 540) rfl rfl (by omega) (by decide) ?_
                  show qG none (d + 1) 101 96 [(2, 24), (2, 36), (2, 27), (1, a), (9, 0), (1, b), (9, 0), (1, c), (9, 0), (0, ((g : Nat) : Int)), (1, qland x (wrl (x - 1))), (9, 0), (0, ((i : Nat) : Int)), (0, ((3 * (64 * g + s) : Nat) : Int))] [(1, w 26 (3 * (64 * g + s))), (1, a)] w 142 Q9
                  refine qG.blk 5 (pc' := 104) (ls' := [(2, 24), (2, 36), (2, 27), (1, qlor a (w 26 (3 * (64 * g + s)))), (9, 0), (1, b), (9, 0), (1, c), (9, 0), (0, ((g : Nat) : Int)), (1, qland x (wrl (x - 1))), (9, 0), (0, ((i : Nat) : Int)), (0, ((3 * (64 * g + s) : Nat) : Int))]) (st' := [(2, w 24 5), (1, b)]) (w' := w) (n' := 142) rfl ?_
                  rw [show w 24 5 = 26 from zrefz hI rfl rfl]
                  refine qG.blk 3 (pc' := 108) (ls' := [(2, 24), (2, 36), (2, 27), (1, qlor a (w 26 (3 * (64 * g + s)))), (9, 0), (1, b), (9, 0), (1, c), (9, 0), (0, ((g : Nat) : Int)), (1, qland x (wrl (x - 1))), (9, 0), (0, ((i : Nat) : Int)), (0, ((3 * (64 * g + s) : Nat) : Int))]) (st' := [(0, wrp (((3 * (64 * g + s) : Nat) : Int) + 1)), (2, 26), (1, b)]) (w' := w) (n' := 142) rfl ?_
                  rw [show wrp (((3 * (64 * g + s) : Nat) : Int) + 1) = ((3 * (64 * g + s) + 1 : Nat) : Int) from by rw [wrp_id (by omega) (by omega)]; omega]
                  refine qG.lldz (m := 540) rfl rfl (by omega) (by decide) ?_
                  show qG none (d + 1) 101 109 [(2, 24), (2, 36), (2, 27), (1, qlor a (w 26 (3 * (64 * g + s)))), (9, 0), (1, b), (9, 0), (1, c), (9, 0), (0, ((g : Nat) : Int)), (1, qland x (wrl (x - 1))), (9, 0), (0, ((i : Nat) : Int)), (0, ((3 * (64 * g + s) : Nat) : Int))] [(1, w 26 (3 * (64 * g + s) + 1)), (1, b)] w 142 Q9
                  refine qG.blk 5 (pc' := 118) (ls' := [(2, 24), (2, 36), (2, 27), (1, qlor a (w 26 (3 * (64 * g + s)))), (9, 0), (1, qlor b (w 26 (3 * (64 * g + s) + 1))), (9, 0), (1, c), (9, 0), (0, ((g : Nat) : Int)), (1, qland x (wrl (x - 1))), (9, 0), (0, ((i : Nat) : Int)), (0, ((3 * (64 * g + s) : Nat) : Int))]) (st' := [(2, w 24 5), (1, c)]) (w' := w) (n' := 142) rfl ?_
                  rw [show w 24 5 = 26 from zrefz hI rfl rfl]
                  refine qG.blk 3 (pc' := 122) (ls' := [(2, 24), (2, 36), (2, 27), (1, qlor a (w 26 (3 * (64 * g + s)))), (9, 0), (1, qlor b (w 26 (3 * (64 * g + s) + 1))), (9, 0), (1, c), (9, 0), (0, ((g : Nat) : Int)), (1, qland x (wrl (x - 1))), (9, 0), (0, ((i : Nat) : Int)), (0, ((3 * (64 * g + s) : Nat) : Int))]) (st' := [(0, wrp (((3 * (64 * g + s) : Nat) : Int) + 2)), (2, 26), (1, c)]) (w' := w) (n' := 142) rfl ?_
                  rw [show wrp (((3 * (64 * g + s) : Nat) : Int) + 2) = ((3 * (64 * g + s) + 2 : Nat) : Int) from by rw [wrp_id (by omega) (by omega)]; omega]
                  refine qG.lldz (m := 540) rfl rfl (by omega) (by decide) ?_
                  show qG none (d + 1) 101 123 [(2, 24), (2, 36), (2, 27), (1, qlor a (w 26 (3 * (64 * g + s)))), (9, 0), (1, qlor b (w 26 (3 * (64 * g + s) + 1))), (9, 0), (1, c), (9, 0), (0, ((g : Nat) : Int)), (1, qland x (wrl (x - 1))), (9, 0), (0, ((i : Nat) : Int)), (0, ((3 * (64 * g + s) : Nat) : Int))] [(1, w 26 (3 * (64 * g + s) + 2)), (1, c)] w 142 Q9
                  refine qG.blk 3 (pc' := 129) (ls' := [(2, 24), (2, 36), (2, 27), (1, qlor a (w 26 (3 * (64 * g + s)))), (9, 0), (1, qlor b (w 26 (3 * (64 * g + s) + 1))), (9, 0), (1, qlor c (w 26 (3 * (64 * g + s) + 2))), (9, 0), (0, ((g : Nat) : Int)), (1, qland x (wrl (x - 1))), (9, 0), (0, wrp (((i : Nat) : Int) + 1)), (0, ((3 * (64 * g + s) : Nat) : Int))]) (st' := []) (w' := w) (n' := 142) rfl ?_
                  rw [show wrp (((i : Nat) : Int) + 1) = ((i + 1 : Nat) : Int) from wrp_id (by omega) (by omega)]
                  refine qG.blk 1 (pc' := 33) (ls' := [(2, 24), (2, 36), (2, 27), (1, qlor a (w 26 (3 * (64 * g + s)))), (9, 0), (1, qlor b (w 26 (3 * (64 * g + s) + 1))), (9, 0), (1, qlor c (w 26 (3 * (64 * g + s) + 2))), (9, 0), (0, ((g : Nat) : Int)), (1, qland x (wrl (x - 1))), (9, 0), (0, ((i + 1 : Nat) : Int)), (0, ((3 * (64 * g + s) : Nat) : Int))]) (st' := []) (w' := w) (n' := 142) rfl ?_
                  exact ih33 _ (by omega) (i + 1) (qlor a (w 26 (3 * (64 * g + s)))) (qlor b (w 26 (3 * (64 * g + s) + 1))) (qlor c (w 26 (3 * (64 * g + s) + 2))) (qland x (wrl (x - 1))) ((0, ((3 * (64 * g + s) : Nat) : Int))) rfl (⟨by omega, by first | exact ha | exact qlorz _ _, by first | exact hb | exact qlorz _ _, by first | exact hc | exact qlorz _ _, qlandz _ _⟩)
                · skip
                  refine qG.blk 1 (pc' := 129) (ls' := [(2, 24), (2, 36), (2, 27), (1, a), (9, 0), (1, b), (9, 0), (1, c), (9, 0), (0, ((g : Nat) : Int)), (1, qland x (wrl (x - 1))), (9, 0), (0, wrp (((i : Nat) : Int) + 1)), (0, ((3 * (64 * g + s) : Nat) : Int))]) (st' := []) (w' := w) (n' := 142) rfl ?_
                  rw [show wrp (((i : Nat) : Int) + 1) = ((i + 1 : Nat) : Int) from wrp_id (by omega) (by omega)]
                  refine qG.blk 1 (pc' := 33) (ls' := [(2, 24), (2, 36), (2, 27), (1, a), (9, 0), (1, b), (9, 0), (1, c), (9, 0), (0, ((g : Nat) : Int)), (1, qland x (wrl (x - 1))), (9, 0), (0, ((i + 1 : Nat) : Int)), (0, ((3 * (64 * g + s) : Nat) : Int))]) (st' := []) (w' := w) (n' := 142) rfl ?_
                  exact ih33 _ (by omega) (i + 1) (a) (b) (c) (qland x (wrl (x - 1))) ((0, ((3 * (64 * g + s) : Nat) : Int))) rfl (⟨by omega, by first | exact ha | exact qlorz _ _, by first | exact hb | exact qlorz _ _, by first | exact hc | exact qlorz _ _, qlandz _ _⟩)
          · skip
            refine qG.blk 1 (pc' := 135) (ls' := [(2, 24), (2, 36), (2, 27), (1, a), (9, 0), (1, b), (9, 0), (1, c), (9, 0), (0, wrp (((g : Nat) : Int) + 1)), (1, x), (9, 0), (0, ((i : Nat) : Int)), l13]) (st' := []) (w' := w) (n' := 142) rfl ?_
            rw [show wrp (((g : Nat) : Int) + 1) = ((g + 1 : Nat) : Int) from wrp_id (by omega) (by omega)]
            refine qG.blk 1 (pc' := 11) (ls' := [(2, 24), (2, 36), (2, 27), (1, a), (9, 0), (1, b), (9, 0), (1, c), (9, 0), (0, ((g + 1 : Nat) : Int)), (1, x), (9, 0), (0, ((i : Nat) : Int)), l13]) (st' := []) (w' := w) (n' := 142) rfl ?_
            exact ih11 _ (by omega) (g + 1) (a) (b) (c) ((1, x)) ((0, ((i : Nat) : Int))) (l13) rfl (⟨by omega, ha, hb, hc⟩)
        exact L33 _ (0) (a) (b) (c) (w 36 g) (l13) rfl (⟨Nat.zero_le _, ha, hb, hc, arrz hI rfl rfl⟩)
      · exfalso; omega
    · skip
      refine qG.blk 4 (pc' := 144) (ls' := [(2, 24), (2, 36), (2, 27), (1, a), (9, 0), (1, b), (9, 0), (1, c), (9, 0), (0, ((g : Nat) : Int)), l10, (9, 0), l12, l13]) (st' := [(1, c), (1, b), (1, a), (2, 27)]) (w' := w) (n' := 142) rfl ?_
      refine qG.call (t := 105) (na := 4) (sk := 0) (md := 0) (ls1 := [(2, 27), (1, a), (9, 0), (1, b), (9, 0), (1, c), (9, 0)]) (r1 := []) rfl rfl rfl rfl rfl (AW.use (c := C_putRow27.2) (as := [(2, 27), (1, a), (1, b), (1, c)]) (m := [27]) T_putRow27 (AW.rf hI) (show 1 ≤ d by omega) ⟨⟨rfl, by decide, by decide⟩, ⟨rfl, i64l ha, i64u ha⟩, ⟨rfl, i64l hb, i64u hb⟩, ⟨rfl, i64l hc, i64u hc⟩, trivial⟩ rfl rfl (by decide +kernel)) ?_
      rintro _ w0 _ ⟨x7, rfl, -, -, hA7, rfl, -⟩
      show qG none (d + 1) 101 147 [(2, 24), (2, 36), (2, 27), (1, a), (9, 0), (1, b), (9, 0), (1, c), (9, 0), (0, ((g : Nat) : Int)), l10, (9, 0), l12, l13] [] w0 142 Q9
      refine qG.retv rfl rfl ?_
      subst hQ9
      exact ⟨rfl, rfl, hA7⟩
  exact L11 _ (0) (0) (0) (0) ((9, 0)) ((9, 0)) ((9, 0)) rfl (⟨Nat.zero_le _, ⟨by decide, by decide⟩, ⟨by decide, by decide⟩, ⟨by decide, by decide⟩⟩)
noncomputable def C_spread_36_27 : Nat × yC := (101, (5, [(2, 24, 24), (2, 36, 36), (2, 27, 27)], (9, 0, 0), [27], [], [], [], 0, []))
theorem T_spread_36_27 {w0 : qW} : yCOK w0 zgf zga zra zSp zgh C_spread_36_27.1 C_spread_36_27.2 := by
  intro d as w hd hm hI hn hp
  have e : as = [(2, 24), (2, 36), (2, 27)] := args3r hm
  subst e
  refine qG.mono (K_spreadZ36_27 hd w hI) ?_
  rintro _ w' _ ⟨rfl, rfl, hA⟩
  exact ⟨⟨rfl, Int.le_refl 0, Int.le_refl 0⟩, hA.1, rfl, hA.2, fun e he => (by cases he), fun z => (by cases z)⟩
theorem K_spreadZ37_27 {d : Nat} (hd : 5 ≤ d) (w : qW) (hI : yInv zgf zga zra zSp w) : qG none d 101 0 [(2, 24), (2, 37), (2, 27), (9, 0), (9, 0), (9, 0), (9, 0), (9, 0), (9, 0), (9, 0), (9, 0), (9, 0), (9, 0), (9, 0)] [] w 142 (fun (r : qV) (w1 : qW) (n1 : Nat) => r = (9, 0) ∧ n1 = 142 ∧ AW [27] w w1) := by
  generalize hQ9 : (fun (r : qV) (w1 : qW) (n1 : Nat) => r = (9, 0) ∧ n1 = 142 ∧ AW [27] w w1) = Q9
  obtain ⟨N5, hN5⟩ : ∃ N : Int, N = 540 := ⟨_, rfl⟩
  obtain ⟨d, rfl⟩ : ∃ d9, d = d9 + 1 := ⟨d - 1, by omega⟩
  refine qG.blk 8 (pc' := 11) (ls' := [(2, 24), (2, 37), (2, 27), (1, 0), (9, 0), (1, 0), (9, 0), (1, 0), (9, 0), (0, 0), (9, 0), (9, 0), (9, 0), (9, 0)]) (st' := []) (w' := w) (n' := 142) rfl ?_
  have L11 : ∀ (m9 : Nat) (g : Nat) (a b c : Int) (l10 l12 l13 : qV), 3 - g = m9 → (g ≤ 3 ∧ qi64 a ∧ qi64 b ∧ qi64 c) → qG none (d + 1) 101 11 [(2, 24), (2, 37), (2, 27), (1, a), (9, 0), (1, b), (9, 0), (1, c), (9, 0), (0, ((g : Nat) : Int)), l10, (9, 0), l12, l13] [] w 142 Q9 := by
    intro m9
    induction m9 using Nat.strongRecOn with
    | ind m9 ih11 =>
    intro g a b c l10 l12 l13 hm11 hI11
    obtain ⟨hg3, ha, hb, hc⟩ := hI11
    refine qG.blk 2 (pc' := 14) (ls' := [(2, 24), (2, 37), (2, 27), (1, a), (9, 0), (1, b), (9, 0), (1, c), (9, 0), (0, ((g : Nat) : Int)), l10, (9, 0), l12, l13]) (st' := [(0, 3), (0, ((g : Nat) : Int))]) (w' := w) (n' := 142) rfl ?_
    refine qG.br (P := ((g : Nat) : Int) < 3) (pc1 := 17) (pc2 := 138) (st1 := []) rfl (fun hg => ?_) (fun hg => ?_)
    · skip
      refine qG.blk 3 (pc' := 21) (ls' := [(2, 24), (2, 37), (2, 27), (1, a), (9, 0), (1, b), (9, 0), (1, c), (9, 0), (0, ((g : Nat) : Int)), l10, (9, 0), l12, l13]) (st' := [(0, 3), (0, ((g : Nat) : Int))]) (w' := w) (n' := 142) rfl ?_
      refine qG.br (P := ((g : Nat) : Int) < 3) (pc1 := 24) (pc2 := 138) (st1 := []) rfl (fun hgl => ?_) (fun hgl => ?_)
      · skip
        refine qG.blk 2 (pc' := 27) (ls' := [(2, 24), (2, 37), (2, 27), (1, a), (9, 0), (1, b), (9, 0), (1, c), (9, 0), (0, ((g : Nat) : Int)), l10, (9, 0), l12, l13]) (st' := [(0, ((g : Nat) : Int)), (2, 37)]) (w' := w) (n' := 142) rfl ?_
        refine qG.ar (P := 0 ≤ ((g : Nat) : Int) ∧ ((g : Nat) : Int) < ((3 : Nat) : Int)) (P2 := 0 < (37 : Int) ∧ (37 : Int) ≤ ((142 : Nat) : Int)) (pc' := 28) (ls' := [(2, 24), (2, 37), (2, 27), (1, a), (9, 0), (1, b), (9, 0), (1, c), (9, 0), (0, ((g : Nat) : Int)), l10, (9, 0), l12, l13]) (st' := [(1, w 37 g)]) (w' := w) (n' := 142) rfl (by omega) (by decide) ?_
        refine qG.blk 3 (pc' := 33) (ls' := [(2, 24), (2, 37), (2, 27), (1, a), (9, 0), (1, b), (9, 0), (1, c), (9, 0), (0, ((g : Nat) : Int)), (1, w 37 g), (9, 0), (0, 0), l13]) (st' := []) (w' := w) (n' := 142) rfl ?_
        have L33 : ∀ (m9 : Nat) (i : Nat) (a b c x : Int) (l13 : qV), 64 - i = m9 → (i ≤ 64 ∧ qi64 a ∧ qi64 b ∧ qi64 c ∧ qi64 x) → qG none (d + 1) 101 33 [(2, 24), (2, 37), (2, 27), (1, a), (9, 0), (1, b), (9, 0), (1, c), (9, 0), (0, ((g : Nat) : Int)), (1, x), (9, 0), (0, ((i : Nat) : Int)), l13] [] w 142 Q9 := by
          intro m9
          induction m9 using Nat.strongRecOn with
          | ind m9 ih33 =>
          intro i a b c x l13 hm33 hI33
          obtain ⟨hi64, ha, hb, hc, hx⟩ := hI33
          refine qG.blk 2 (pc' := 37) (ls' := [(2, 24), (2, 37), (2, 27), (1, a), (9, 0), (1, b), (9, 0), (1, c), (9, 0), (0, ((g : Nat) : Int)), (1, x), (9, 0), (0, ((i : Nat) : Int)), l13]) (st' := [(0, 64), (0, ((i : Nat) : Int))]) (w' := w) (n' := 142) rfl ?_
          refine qG.br (P := ((i : Nat) : Int) < 64) (pc1 := 40) (pc2 := 132) (st1 := []) rfl (fun hi65 => ?_) (fun hi65 => ?_)
          · skip
            refine qG.blk 3 (pc' := 44) (ls' := [(2, 24), (2, 37), (2, 27), (1, a), (9, 0), (1, b), (9, 0), (1, c), (9, 0), (0, ((g : Nat) : Int)), (1, x), (9, 0), (0, ((i : Nat) : Int)), l13]) (st' := [(0, qcmp x 0)]) (w' := w) (n' := 142) rfl ?_
            refine qG.br (P := qcmp x 0 = 0) (pc1 := 132) (pc2 := 47) (st1 := []) rfl (fun hx0 => ?_) (fun hx0 => ?_)
            · skip
              refine qG.blk 1 (pc' := 135) (ls' := [(2, 24), (2, 37), (2, 27), (1, a), (9, 0), (1, b), (9, 0), (1, c), (9, 0), (0, wrp (((g : Nat) : Int) + 1)), (1, x), (9, 0), (0, ((i : Nat) : Int)), l13]) (st' := []) (w' := w) (n' := 142) rfl ?_
              rw [show wrp (((g : Nat) : Int) + 1) = ((g + 1 : Nat) : Int) from wrp_id (by omega) (by omega)]
              refine qG.blk 1 (pc' := 11) (ls' := [(2, 24), (2, 37), (2, 27), (1, a), (9, 0), (1, b), (9, 0), (1, c), (9, 0), (0, ((g + 1 : Nat) : Int)), (1, x), (9, 0), (0, ((i : Nat) : Int)), l13]) (st' := []) (w' := w) (n' := 142) rfl ?_
              exact ih11 _ (by omega) (g + 1) (a) (b) (c) ((1, x)) ((0, ((i : Nat) : Int))) (l13) rfl (⟨by omega, ha, hb, hc⟩)
            · skip
              refine qG.blk 4 (pc' := 53) (ls' := [(2, 24), (2, 37), (2, 27), (1, a), (9, 0), (1, b), (9, 0), (1, c), (9, 0), (0, ((g : Nat) : Int)), (1, x), (9, 0), (0, ((i : Nat) : Int)), l13]) (st' := [(0, wrp (64 * ((g : Nat) : Int))), (0, 3)]) (w' := w) (n' := 142) rfl ?_
              rw [show wrp (64 * ((g : Nat) : Int)) = ((64 * g : Nat) : Int) from by rw [wrp_id (by omega) (by omega)]; omega]
              refine qG.blk 1 (pc' := 55) (ls' := [(2, 24), (2, 37), (2, 27), (1, a), (9, 0), (1, b), (9, 0), (1, c), (9, 0), (0, ((g : Nat) : Int)), (1, x), (9, 0), (0, ((i : Nat) : Int)), l13]) (st' := [(1, x), (0, ((64 * g : Nat) : Int)), (0, 3)]) (w' := w) (n' := 142) rfl ?_
              refine qG.call (t := 303) (na := 1) (sk := 0) (md := 0) (ls1 := [(1, x), (9, 0), (9, 0)]) (r1 := [(0, ((64 * g : Nat) : Int)), (0, 3)]) rfl rfl rfl rfl rfl (AW.use (c := C_nTZL.2) (as := [(1, x)]) (m := []) T_nTZL (AW.rf hI) (show 2 ≤ d by omega) ⟨⟨rfl, i64l hx, i64u hx⟩, trivial⟩ rfl rfl (by decide +kernel)) ?_
              rintro _ w7 _ ⟨x7, rfl, hl7, hu7, hA7, rfl, -⟩
              have e7 := hA7.nilz
              rw [e7]
              have hl7 : (0 : Int) ≤ x7 := hl7
              have hu7 : x7 ≤ (64 : Int) := hu7
              obtain ⟨s, rfl⟩ : ∃ s : Nat, x7 = (s : Int) := ⟨x7.toNat, by omega⟩
              show qG none (d + 1) 101 58 [(2, 24), (2, 37), (2, 27), (1, a), (9, 0), (1, b), (9, 0), (1, c), (9, 0), (0, ((g : Nat) : Int)), (1, x), (9, 0), (0, ((i : Nat) : Int)), l13] [(0, ((s : Nat) : Int)), (0, ((64 * g : Nat) : Int)), (0, 3)] w 142 Q9
              refine qG.blk 1 (pc' := 59) (ls' := [(2, 24), (2, 37), (2, 27), (1, a), (9, 0), (1, b), (9, 0), (1, c), (9, 0), (0, ((g : Nat) : Int)), (1, x), (9, 0), (0, ((i : Nat) : Int)), l13]) (st' := [(0, wrp (((64 * g : Nat) : Int) + ((s : Nat) : Int))), (0, 3)]) (w' := w) (n' := 142) rfl ?_
              rw [show wrp (((64 * g : Nat) : Int) + ((s : Nat) : Int)) = ((64 * g + s : Nat) : Int) from by rw [wrp_id (by omega) (by omega)]; omega]
              refine qG.blk 1 (pc' := 60) (ls' := [(2, 24), (2, 37), (2, 27), (1, a), (9, 0), (1, b), (9, 0), (1, c), (9, 0), (0, ((g : Nat) : Int)), (1, x), (9, 0), (0, ((i : Nat) : Int)), l13]) (st' := [(0, wrp (3 * ((64 * g + s : Nat) : Int)))]) (w' := w) (n' := 142) rfl ?_
              rw [show wrp (3 * ((64 * g + s : Nat) : Int)) = ((3 * (64 * g + s) : Nat) : Int) from by rw [wrp_id (by omega) (by omega)]; omega]
              refine qG.blk 5 (pc' := 68) (ls' := [(2, 24), (2, 37), (2, 27), (1, a), (9, 0), (1, b), (9, 0), (1, c), (9, 0), (0, ((g : Nat) : Int)), (1, x), (9, 0), (0, ((i : Nat) : Int)), (0, ((3 * (64 * g + s) : Nat) : Int))]) (st' := [(1, wrl (x - 1)), (1, x)]) (w' := w) (n' := 142) rfl ?_
              refine qG.blk 3 (pc' := 73) (ls' := [(2, 24), (2, 37), (2, 27), (1, a), (9, 0), (1, b), (9, 0), (1, c), (9, 0), (0, ((g : Nat) : Int)), (1, qland x (wrl (x - 1))), (9, 0), (0, ((i : Nat) : Int)), (0, ((3 * (64 * g + s) : Nat) : Int))]) (st' := [(0, ((3 * (64 * g + s) : Nat) : Int))]) (w' := w) (n' := 142) rfl ?_
              refine qG.br (P := ((3 * (64 * g + s) : Nat) : Int) < 0) (pc1 := 126) (pc2 := 76) (st1 := []) rfl (fun hr0 => ?_) (fun hr0 => ?_)
              · exfalso; omega
              · skip
                refine qG.blk 3 (pc' := 80) (ls' := [(2, 24), (2, 37), (2, 27), (1, a), (9, 0), (1, b), (9, 0), (1, c), (9, 0), (0, ((g : Nat) : Int)), (1, qland x (wrl (x - 1))), (9, 0), (0, ((i : Nat) : Int)), (0, ((3 * (64 * g + s) : Nat) : Int))]) (st' := [(0, wrp (((3 * (64 * g + s) : Nat) : Int) + 2))]) (w' := w) (n' := 142) rfl ?_
                rw [show wrp (((3 * (64 * g + s) : Nat) : Int) + 2) = ((3 * (64 * g + s) + 2 : Nat) : Int) from by rw [wrp_id (by omega) (by omega)]; omega]
                refine qG.blk 2 (pc' := 84) (ls' := [(2, 24), (2, 37), (2, 27), (1, a), (9, 0), (1, b), (9, 0), (1, c), (9, 0), (0, ((g : Nat) : Int)), (1, qland x (wrl (x - 1))), (9, 0), (0, ((i : Nat) : Int)), (0, ((3 * (64 * g + s) : Nat) : Int))]) (st' := [(2, w 24 5), (0, ((3 * (64 * g + s) + 2 : Nat) : Int))]) (w' := w) (n' := 142) rfl ?_
                rw [show w 24 5 = 26 from zrefz hI rfl rfl]
                refine qG.blk 1 (pc' := 85) (ls' := [(2, 24), (2, 37), (2, 27), (1, a), (9, 0), (1, b), (9, 0), (1, c), (9, 0), (0, ((g : Nat) : Int)), (1, qland x (wrl (x - 1))), (9, 0), (0, ((i : Nat) : Int)), (0, ((3 * (64 * g + s) : Nat) : Int))]) (st' := [(0, 540), (0, ((3 * (64 * g + s) + 2 : Nat) : Int))]) (w' := w) (n' := 142) rfl ?_
                rw [show (540 : Int) = N5 from hN5.symm]
                refine qG.br (P := ((3 * (64 * g + s) + 2 : Nat) : Int) < N5) (pc1 := 88) (pc2 := 126) (st1 := []) rfl (fun h540 => ?_) (fun h540 => ?_)
                · skip
                  refine qG.blk 3 (pc' := 93) (ls' := [(2, 24), (2, 37), (2, 27), (1, a), (9, 0), (1, b), (9, 0), (1, c), (9, 0), (0, ((g : Nat) : Int)), (1, qland x (wrl (x - 1))), (9, 0), (0, ((i : Nat) : Int)), (0, ((3 * (64 * g + s) : Nat) : Int))]) (st' := [(2, w 24 5), (1, a)]) (w' := w) (n' := 142) rfl ?_
                  rw [show w 24 5 = 26 from zrefz hI rfl rfl]
                  refine qG.blk 1 (pc' := 95) (ls' := [(2, 24), (2, 37), (2, 27), (1, a), (9, 0), (1, b), (9, 0), (1, c), (9, 0), (0, ((g : Nat) : Int)), (1, qland x (wrl (x - 1))), (9, 0), (0, ((i : Nat) : Int)), (0, ((3 * (64 * g + s) : Nat) : Int))]) (st' := [(0, ((3 * (64 * g + s) : Nat) : Int)), (2, 26), (1, a)]) (w' := w) (n' := 142) rfl ?_
                  refine qG.lldz (m := 540) rfl rfl (by omega) (by decide) ?_
                  show qG none (d + 1) 101 96 [(2, 24), (2, 37), (2, 27), (1, a), (9, 0), (1, b), (9, 0), (1, c), (9, 0), (0, ((g : Nat) : Int)), (1, qland x (wrl (x - 1))), (9, 0), (0, ((i : Nat) : Int)), (0, ((3 * (64 * g + s) : Nat) : Int))] [(1, w 26 (3 * (64 * g + s))), (1, a)] w 142 Q9
                  refine qG.blk 5 (pc' := 104) (ls' := [(2, 24), (2, 37), (2, 27), (1, qlor a (w 26 (3 * (64 * g + s)))), (9, 0), (1, b), (9, 0), (1, c), (9, 0), (0, ((g : Nat) : Int)), (1, qland x (wrl (x - 1))), (9, 0), (0, ((i : Nat) : Int)), (0, ((3 * (64 * g + s) : Nat) : Int))]) (st' := [(2, w 24 5), (1, b)]) (w' := w) (n' := 142) rfl ?_
                  rw [show w 24 5 = 26 from zrefz hI rfl rfl]
                  refine qG.blk 3 (pc' := 108) (ls' := [(2, 24), (2, 37), (2, 27), (1, qlor a (w 26 (3 * (64 * g + s)))), (9, 0), (1, b), (9, 0), (1, c), (9, 0), (0, ((g : Nat) : Int)), (1, qland x (wrl (x - 1))), (9, 0), (0, ((i : Nat) : Int)), (0, ((3 * (64 * g + s) : Nat) : Int))]) (st' := [(0, wrp (((3 * (64 * g + s) : Nat) : Int) + 1)), (2, 26), (1, b)]) (w' := w) (n' := 142) rfl ?_
                  rw [show wrp (((3 * (64 * g + s) : Nat) : Int) + 1) = ((3 * (64 * g + s) + 1 : Nat) : Int) from by rw [wrp_id (by omega) (by omega)]; omega]
                  refine qG.lldz (m := 540) rfl rfl (by omega) (by decide) ?_
                  show qG none (d + 1) 101 109 [(2, 24), (2, 37), (2, 27), (1, qlor a (w 26 (3 * (64 * g + s)))), (9, 0), (1, b), (9, 0), (1, c), (9, 0), (0, ((g : Nat) : Int)), (1, qland x (wrl (x - 1))), (9, 0), (0, ((i : Nat) : Int)), (0, ((3 * (64 * g + s) : Nat) : Int))] [(1, w 26 (3 * (64 * g + s) + 1)), (1, b)] w 142 Q9
                  refine qG.blk 5 (pc' := 118) (ls' := [(2, 24), (2, 37), (2, 27), (1, qlor a (w 26 (3 * (64 * g + s)))), (9, 0), (1, qlor b (w 26 (3 * (64 * g + s) + 1))), (9, 0), (1, c), (9, 0), (0, ((g : Nat) : Int)), (1, qland x (wrl (x - 1))), (9, 0), (0, ((i : Nat) : Int)), (0, ((3 * (64 * g + s) : Nat) : Int))]) (st' := [(2, w 24 5), (1, c)]) (w' := w) (n' := 142) rfl ?_
                  rw [show w 24 5 = 26 from zrefz hI rfl rfl]
                  refine qG.blk 3 (pc' := 122) (ls' := [(2, 24), (2, 37), (2, 27), (1, qlor a (w 26 (3 * (64 * g + s)))), (9, 0), (1, qlor b (w 26 (3 * (64 * g + s) + 1))), (9, 0), (1, c), (9, 0), (0, ((g : Nat) : Int)), (1, qland x (wrl (x - 1))), (9, 0), (0, ((i : Nat) : Int)), (0, ((3 * (64 * g + s) : Nat) : Int))]) (st' := [(0, wrp (((3 * (64 * g + s) : Nat) : Int) + 2)), (2, 26), (1, c)]) (w' := w) (n' := 142) rfl ?_
                  rw [show wrp (((3 * (64 * g + s) : Nat) : Int) + 2) = ((3 * (64 * g + s) + 2 : Nat) : Int) from by rw [wrp_id (by omega) (by omega)]; omega]
                  refine qG.lldz (m := 540) rfl rfl (by omega) (by decide) ?_
                  show qG none (d + 1) 101 123 [(2, 24), (2, 37), (2, 27), (1, qlor a (w 26 (3 * (64 * g + s)))), (9, 0), (1, qlor b (w 26 (3 * (64 * g + s) + 1))), (9, 0), (1, c), (9, 0), (0, ((g : Nat) : Int)), (1, qland x (wrl (x - 1))), (9, 0), (0, ((i : Nat) : Int)), (0, ((3 * (64 * g + s) : Nat) : Int))] [(1, w 26 (3 * (64 * g + s) + 2)), (1, c)] w 142 Q9
                  refine qG.blk 3 (pc' := 129) (ls' := [(2, 24), (2, 37), (2, 27), (1, qlor a (w 26 (3 * (64 * g + s)))), (9, 0), (1, qlor b (w 26 (3 * (64 * g + s) + 1))), (9, 0), (1, qlor c (w 26 (3 * (64 * g + s) + 2))), (9, 0), (0, ((g : Nat) : Int)), (1, qland x (wrl (x - 1))), (9, 0), (0, wrp (((i : Nat) : Int) + 1)), (0, ((3 * (64 * g + s) : Nat) : Int))]) (st' := []) (w' := w) (n' := 142) rfl ?_
                  rw [show wrp (((i : Nat) : Int) + 1) = ((i + 1 : Nat) : Int) from wrp_id (by omega) (by omega)]
                  refine qG.blk 1 (pc' := 33) (ls' := [(2, 24), (2, 37), (2, 27), (1, qlor a (w 26 (3 * (64 * g + s)))), (9, 0), (1, qlor b (w 26 (3 * (64 * g + s) + 1))), (9, 0), (1, qlor c (w 26 (3 * (64 * g + s) + 2))), (9, 0), (0, ((g : Nat) : Int)), (1, qland x (wrl (x - 1))), (9, 0), (0, ((i + 1 : Nat) : Int)), (0, ((3 * (64 * g + s) : Nat) : Int))]) (st' := []) (w' := w) (n' := 142) rfl ?_
                  exact ih33 _ (by omega) (i + 1) (qlor a (w 26 (3 * (64 * g + s)))) (qlor b (w 26 (3 * (64 * g + s) + 1))) (qlor c (w 26 (3 * (64 * g + s) + 2))) (qland x (wrl (x - 1))) ((0, ((3 * (64 * g + s) : Nat) : Int))) rfl (⟨by omega, by first | exact ha | exact qlorz _ _, by first | exact hb | exact qlorz _ _, by first | exact hc | exact qlorz _ _, qlandz _ _⟩)
                · skip
                  refine qG.blk 1 (pc' := 129) (ls' := [(2, 24), (2, 37), (2, 27), (1, a), (9, 0), (1, b), (9, 0), (1, c), (9, 0), (0, ((g : Nat) : Int)), (1, qland x (wrl (x - 1))), (9, 0), (0, wrp (((i : Nat) : Int) + 1)), (0, ((3 * (64 * g + s) : Nat) : Int))]) (st' := []) (w' := w) (n' := 142) rfl ?_
                  rw [show wrp (((i : Nat) : Int) + 1) = ((i + 1 : Nat) : Int) from wrp_id (by omega) (by omega)]
                  refine qG.blk 1 (pc' := 33) (ls' := [(2, 24), (2, 37), (2, 27), (1, a), (9, 0), (1, b), (9, 0), (1, c), (9, 0), (0, ((g : Nat) : Int)), (1, qland x (wrl (x - 1))), (9, 0), (0, ((i + 1 : Nat) : Int)), (0, ((3 * (64 * g + s) : Nat) : Int))]) (st' := []) (w' := w) (n' := 142) rfl ?_
                  exact ih33 _ (by omega) (i + 1) (a) (b) (c) (qland x (wrl (x - 1))) ((0, ((3 * (64 * g + s) : Nat) : Int))) rfl (⟨by omega, by first | exact ha | exact qlorz _ _, by first | exact hb | exact qlorz _ _, by first | exact hc | exact qlorz _ _, qlandz _ _⟩)
          · skip
            refine qG.blk 1 (pc' := 135) (ls' := [(2, 24), (2, 37), (2, 27), (1, a), (9, 0), (1, b), (9, 0), (1, c), (9, 0), (0, wrp (((g : Nat) : Int) + 1)), (1, x), (9, 0), (0, ((i : Nat) : Int)), l13]) (st' := []) (w' := w) (n' := 142) rfl ?_
            rw [show wrp (((g : Nat) : Int) + 1) = ((g + 1 : Nat) : Int) from wrp_id (by omega) (by omega)]
            refine qG.blk 1 (pc' := 11) (ls' := [(2, 24), (2, 37), (2, 27), (1, a), (9, 0), (1, b), (9, 0), (1, c), (9, 0), (0, ((g + 1 : Nat) : Int)), (1, x), (9, 0), (0, ((i : Nat) : Int)), l13]) (st' := []) (w' := w) (n' := 142) rfl ?_
            exact ih11 _ (by omega) (g + 1) (a) (b) (c) ((1, x)) ((0, ((i : Nat) : Int))) (l13) rfl (⟨by omega, ha, hb, hc⟩)
        exact L33 _ (0) (a) (b) (c) (w 37 g) (l13) rfl (⟨Nat.zero_le _, ha, hb, hc, arrz hI rfl rfl⟩)
      · exfalso; omega
    · skip
      refine qG.blk 4 (pc' := 144) (ls' := [(2, 24), (2, 37), (2, 27), (1, a), (9, 0), (1, b), (9, 0), (1, c), (9, 0), (0, ((g : Nat) : Int)), l10, (9, 0), l12, l13]) (st' := [(1, c), (1, b), (1, a), (2, 27)]) (w' := w) (n' := 142) rfl ?_
      refine qG.call (t := 105) (na := 4) (sk := 0) (md := 0) (ls1 := [(2, 27), (1, a), (9, 0), (1, b), (9, 0), (1, c), (9, 0)]) (r1 := []) rfl rfl rfl rfl rfl (AW.use (c := C_putRow27.2) (as := [(2, 27), (1, a), (1, b), (1, c)]) (m := [27]) T_putRow27 (AW.rf hI) (show 1 ≤ d by omega) ⟨⟨rfl, by decide, by decide⟩, ⟨rfl, i64l ha, i64u ha⟩, ⟨rfl, i64l hb, i64u hb⟩, ⟨rfl, i64l hc, i64u hc⟩, trivial⟩ rfl rfl (by decide +kernel)) ?_
      rintro _ w0 _ ⟨x7, rfl, -, -, hA7, rfl, -⟩
      show qG none (d + 1) 101 147 [(2, 24), (2, 37), (2, 27), (1, a), (9, 0), (1, b), (9, 0), (1, c), (9, 0), (0, ((g : Nat) : Int)), l10, (9, 0), l12, l13] [] w0 142 Q9
      refine qG.retv rfl rfl ?_
      subst hQ9
      exact ⟨rfl, rfl, hA7⟩
  exact L11 _ (0) (0) (0) (0) ((9, 0)) ((9, 0)) ((9, 0)) rfl (⟨Nat.zero_le _, ⟨by decide, by decide⟩, ⟨by decide, by decide⟩, ⟨by decide, by decide⟩⟩)
noncomputable def C_spread_37_27 : Nat × yC := (101, (5, [(2, 24, 24), (2, 37, 37), (2, 27, 27)], (9, 0, 0), [27], [], [], [], 0, []))
theorem T_spread_37_27 {w0 : qW} : yCOK w0 zgf zga zra zSp zgh C_spread_37_27.1 C_spread_37_27.2 := by
  intro d as w hd hm hI hn hp
  have e : as = [(2, 24), (2, 37), (2, 27)] := args3r hm
  subst e
  refine qG.mono (K_spreadZ37_27 hd w hI) ?_
  rintro _ w' _ ⟨rfl, rfl, hA⟩
  exact ⟨⟨rfl, Int.le_refl 0, Int.le_refl 0⟩, hA.1, rfl, hA.2, fun e he => (by cases he), fun z => (by cases z)⟩
theorem K_spreadZ27_35 {d : Nat} (hd : 5 ≤ d) (w : qW) (hI : yInv zgf zga zra zSp w) : qG none d 101 0 [(2, 24), (2, 27), (2, 35), (9, 0), (9, 0), (9, 0), (9, 0), (9, 0), (9, 0), (9, 0), (9, 0), (9, 0), (9, 0), (9, 0)] [] w 142 (fun (r : qV) (w1 : qW) (n1 : Nat) => r = (9, 0) ∧ n1 = 142 ∧ AW [35] w w1) := by
  generalize hQ9 : (fun (r : qV) (w1 : qW) (n1 : Nat) => r = (9, 0) ∧ n1 = 142 ∧ AW [35] w w1) = Q9
  obtain ⟨N5, hN5⟩ : ∃ N : Int, N = 540 := ⟨_, rfl⟩
  obtain ⟨d, rfl⟩ : ∃ d9, d = d9 + 1 := ⟨d - 1, by omega⟩
  refine qG.blk 8 (pc' := 11) (ls' := [(2, 24), (2, 27), (2, 35), (1, 0), (9, 0), (1, 0), (9, 0), (1, 0), (9, 0), (0, 0), (9, 0), (9, 0), (9, 0), (9, 0)]) (st' := []) (w' := w) (n' := 142) rfl ?_
  have L11 : ∀ (m9 : Nat) (g : Nat) (a b c : Int) (l10 l12 l13 : qV), 3 - g = m9 → (g ≤ 3 ∧ qi64 a ∧ qi64 b ∧ qi64 c) → qG none (d + 1) 101 11 [(2, 24), (2, 27), (2, 35), (1, a), (9, 0), (1, b), (9, 0), (1, c), (9, 0), (0, ((g : Nat) : Int)), l10, (9, 0), l12, l13] [] w 142 Q9 := by
    intro m9
    induction m9 using Nat.strongRecOn with
    | ind m9 ih11 =>
    intro g a b c l10 l12 l13 hm11 hI11
    obtain ⟨hg3, ha, hb, hc⟩ := hI11
    refine qG.blk 2 (pc' := 14) (ls' := [(2, 24), (2, 27), (2, 35), (1, a), (9, 0), (1, b), (9, 0), (1, c), (9, 0), (0, ((g : Nat) : Int)), l10, (9, 0), l12, l13]) (st' := [(0, 3), (0, ((g : Nat) : Int))]) (w' := w) (n' := 142) rfl ?_
    refine qG.br (P := ((g : Nat) : Int) < 3) (pc1 := 17) (pc2 := 138) (st1 := []) rfl (fun hg => ?_) (fun hg => ?_)
    · skip
      refine qG.blk 3 (pc' := 21) (ls' := [(2, 24), (2, 27), (2, 35), (1, a), (9, 0), (1, b), (9, 0), (1, c), (9, 0), (0, ((g : Nat) : Int)), l10, (9, 0), l12, l13]) (st' := [(0, 3), (0, ((g : Nat) : Int))]) (w' := w) (n' := 142) rfl ?_
      refine qG.br (P := ((g : Nat) : Int) < 3) (pc1 := 24) (pc2 := 138) (st1 := []) rfl (fun hgl => ?_) (fun hgl => ?_)
      · skip
        refine qG.blk 2 (pc' := 27) (ls' := [(2, 24), (2, 27), (2, 35), (1, a), (9, 0), (1, b), (9, 0), (1, c), (9, 0), (0, ((g : Nat) : Int)), l10, (9, 0), l12, l13]) (st' := [(0, ((g : Nat) : Int)), (2, 27)]) (w' := w) (n' := 142) rfl ?_
        refine qG.ar (P := 0 ≤ ((g : Nat) : Int) ∧ ((g : Nat) : Int) < ((3 : Nat) : Int)) (P2 := 0 < (27 : Int) ∧ (27 : Int) ≤ ((142 : Nat) : Int)) (pc' := 28) (ls' := [(2, 24), (2, 27), (2, 35), (1, a), (9, 0), (1, b), (9, 0), (1, c), (9, 0), (0, ((g : Nat) : Int)), l10, (9, 0), l12, l13]) (st' := [(1, w 27 g)]) (w' := w) (n' := 142) rfl (by omega) (by decide) ?_
        refine qG.blk 3 (pc' := 33) (ls' := [(2, 24), (2, 27), (2, 35), (1, a), (9, 0), (1, b), (9, 0), (1, c), (9, 0), (0, ((g : Nat) : Int)), (1, w 27 g), (9, 0), (0, 0), l13]) (st' := []) (w' := w) (n' := 142) rfl ?_
        have L33 : ∀ (m9 : Nat) (i : Nat) (a b c x : Int) (l13 : qV), 64 - i = m9 → (i ≤ 64 ∧ qi64 a ∧ qi64 b ∧ qi64 c ∧ qi64 x) → qG none (d + 1) 101 33 [(2, 24), (2, 27), (2, 35), (1, a), (9, 0), (1, b), (9, 0), (1, c), (9, 0), (0, ((g : Nat) : Int)), (1, x), (9, 0), (0, ((i : Nat) : Int)), l13] [] w 142 Q9 := by
          intro m9
          induction m9 using Nat.strongRecOn with
          | ind m9 ih33 =>
          intro i a b c x l13 hm33 hI33
          obtain ⟨hi64, ha, hb, hc, hx⟩ := hI33
          refine qG.blk 2 (pc' := 37) (ls' := [(2, 24), (2, 27), (2, 35), (1, a), (9, 0), (1, b), (9, 0), (1, c), (9, 0), (0, ((g : Nat) : Int)), (1, x), (9, 0), (0, ((i : Nat) : Int)), l13]) (st' := [(0, 64), (0, ((i : Nat) : Int))]) (w' := w) (n' := 142) rfl ?_
          refine qG.br (P := ((i : Nat) : Int) < 64) (pc1 := 40) (pc2 := 132) (st1 := []) rfl (fun hi65 => ?_) (fun hi65 => ?_)
          · skip
            refine qG.blk 3 (pc' := 44) (ls' := [(2, 24), (2, 27), (2, 35), (1, a), (9, 0), (1, b), (9, 0), (1, c), (9, 0), (0, ((g : Nat) : Int)), (1, x), (9, 0), (0, ((i : Nat) : Int)), l13]) (st' := [(0, qcmp x 0)]) (w' := w) (n' := 142) rfl ?_
            refine qG.br (P := qcmp x 0 = 0) (pc1 := 132) (pc2 := 47) (st1 := []) rfl (fun hx0 => ?_) (fun hx0 => ?_)
            · skip
              refine qG.blk 1 (pc' := 135) (ls' := [(2, 24), (2, 27), (2, 35), (1, a), (9, 0), (1, b), (9, 0), (1, c), (9, 0), (0, wrp (((g : Nat) : Int) + 1)), (1, x), (9, 0), (0, ((i : Nat) : Int)), l13]) (st' := []) (w' := w) (n' := 142) rfl ?_
              rw [show wrp (((g : Nat) : Int) + 1) = ((g + 1 : Nat) : Int) from wrp_id (by omega) (by omega)]
              refine qG.blk 1 (pc' := 11) (ls' := [(2, 24), (2, 27), (2, 35), (1, a), (9, 0), (1, b), (9, 0), (1, c), (9, 0), (0, ((g + 1 : Nat) : Int)), (1, x), (9, 0), (0, ((i : Nat) : Int)), l13]) (st' := []) (w' := w) (n' := 142) rfl ?_
              exact ih11 _ (by omega) (g + 1) (a) (b) (c) ((1, x)) ((0, ((i : Nat) : Int))) (l13) rfl (⟨by omega, ha, hb, hc⟩)
            · skip
              refine qG.blk 4 (pc' := 53) (ls' := [(2, 24), (2, 27), (2, 35), (1, a), (9, 0), (1, b), (9, 0), (1, c), (9, 0), (0, ((g : Nat) : Int)), (1, x), (9, 0), (0, ((i : Nat) : Int)), l13]) (st' := [(0, wrp (64 * ((g : Nat) : Int))), (0, 3)]) (w' := w) (n' := 142) rfl ?_
              rw [show wrp (64 * ((g : Nat) : Int)) = ((64 * g : Nat) : Int) from by rw [wrp_id (by omega) (by omega)]; omega]
              refine qG.blk 1 (pc' := 55) (ls' := [(2, 24), (2, 27), (2, 35), (1, a), (9, 0), (1, b), (9, 0), (1, c), (9, 0), (0, ((g : Nat) : Int)), (1, x), (9, 0), (0, ((i : Nat) : Int)), l13]) (st' := [(1, x), (0, ((64 * g : Nat) : Int)), (0, 3)]) (w' := w) (n' := 142) rfl ?_
              refine qG.call (t := 303) (na := 1) (sk := 0) (md := 0) (ls1 := [(1, x), (9, 0), (9, 0)]) (r1 := [(0, ((64 * g : Nat) : Int)), (0, 3)]) rfl rfl rfl rfl rfl (AW.use (c := C_nTZL.2) (as := [(1, x)]) (m := []) T_nTZL (AW.rf hI) (show 2 ≤ d by omega) ⟨⟨rfl, i64l hx, i64u hx⟩, trivial⟩ rfl rfl (by decide +kernel)) ?_
              rintro _ w7 _ ⟨x7, rfl, hl7, hu7, hA7, rfl, -⟩
              have e7 := hA7.nilz
              rw [e7]
              have hl7 : (0 : Int) ≤ x7 := hl7
              have hu7 : x7 ≤ (64 : Int) := hu7
              obtain ⟨s, rfl⟩ : ∃ s : Nat, x7 = (s : Int) := ⟨x7.toNat, by omega⟩
              show qG none (d + 1) 101 58 [(2, 24), (2, 27), (2, 35), (1, a), (9, 0), (1, b), (9, 0), (1, c), (9, 0), (0, ((g : Nat) : Int)), (1, x), (9, 0), (0, ((i : Nat) : Int)), l13] [(0, ((s : Nat) : Int)), (0, ((64 * g : Nat) : Int)), (0, 3)] w 142 Q9
              refine qG.blk 1 (pc' := 59) (ls' := [(2, 24), (2, 27), (2, 35), (1, a), (9, 0), (1, b), (9, 0), (1, c), (9, 0), (0, ((g : Nat) : Int)), (1, x), (9, 0), (0, ((i : Nat) : Int)), l13]) (st' := [(0, wrp (((64 * g : Nat) : Int) + ((s : Nat) : Int))), (0, 3)]) (w' := w) (n' := 142) rfl ?_
              rw [show wrp (((64 * g : Nat) : Int) + ((s : Nat) : Int)) = ((64 * g + s : Nat) : Int) from by rw [wrp_id (by omega) (by omega)]; omega]
              refine qG.blk 1 (pc' := 60) (ls' := [(2, 24), (2, 27), (2, 35), (1, a), (9, 0), (1, b), (9, 0), (1, c), (9, 0), (0, ((g : Nat) : Int)), (1, x), (9, 0), (0, ((i : Nat) : Int)), l13]) (st' := [(0, wrp (3 * ((64 * g + s : Nat) : Int)))]) (w' := w) (n' := 142) rfl ?_
              rw [show wrp (3 * ((64 * g + s : Nat) : Int)) = ((3 * (64 * g + s) : Nat) : Int) from by rw [wrp_id (by omega) (by omega)]; omega]
              refine qG.blk 5 (pc' := 68) (ls' := [(2, 24), (2, 27), (2, 35), (1, a), (9, 0), (1, b), (9, 0), (1, c), (9, 0), (0, ((g : Nat) : Int)), (1, x), (9, 0), (0, ((i : Nat) : Int)), (0, ((3 * (64 * g + s) : Nat) : Int))]) (st' := [(1, wrl (x - 1)), (1, x)]) (w' := w) (n' := 142) rfl ?_
              refine qG.blk 3 (pc' := 73) (ls' := [(2, 24), (2, 27), (2, 35), (1, a), (9, 0), (1, b), (9, 0), (1, c), (9, 0), (0, ((g : Nat) : Int)), (1, qland x (wrl (x - 1))), (9, 0), (0, ((i : Nat) : Int)), (0, ((3 * (64 * g + s) : Nat) : Int))]) (st' := [(0, ((3 * (64 * g + s) : Nat) : Int))]) (w' := w) (n' := 142) rfl ?_
              refine qG.br (P := ((3 * (64 * g + s) : Nat) : Int) < 0) (pc1 := 126) (pc2 := 76) (st1 := []) rfl (fun hr0 => ?_) (fun hr0 => ?_)
              · exfalso; omega
              · skip
                refine qG.blk 3 (pc' := 80) (ls' := [(2, 24), (2, 27), (2, 35), (1, a), (9, 0), (1, b), (9, 0), (1, c), (9, 0), (0, ((g : Nat) : Int)), (1, qland x (wrl (x - 1))), (9, 0), (0, ((i : Nat) : Int)), (0, ((3 * (64 * g + s) : Nat) : Int))]) (st' := [(0, wrp (((3 * (64 * g + s) : Nat) : Int) + 2))]) (w' := w) (n' := 142) rfl ?_
                rw [show wrp (((3 * (64 * g + s) : Nat) : Int) + 2) = ((3 * (64 * g + s) + 2 : Nat) : Int) from by rw [wrp_id (by omega) (by omega)]; omega]
                refine qG.blk 2 (pc' := 84) (ls' := [(2, 24), (2, 27), (2, 35), (1, a), (9, 0), (1, b), (9, 0), (1, c), (9, 0), (0, ((g : Nat) : Int)), (1, qland x (wrl (x - 1))), (9, 0), (0, ((i : Nat) : Int)), (0, ((3 * (64 * g + s) : Nat) : Int))]) (st' := [(2, w 24 5), (0, ((3 * (64 * g + s) + 2 : Nat) : Int))]) (w' := w) (n' := 142) rfl ?_
                rw [show w 24 5 = 26 from zrefz hI rfl rfl]
                refine qG.blk 1 (pc' := 85) (ls' := [(2, 24), (2, 27), (2, 35), (1, a), (9, 0), (1, b), (9, 0), (1, c), (9, 0), (0, ((g : Nat) : Int)), (1, qland x (wrl (x - 1))), (9, 0), (0, ((i : Nat) : Int)), (0, ((3 * (64 * g + s) : Nat) : Int))]) (st' := [(0, 540), (0, ((3 * (64 * g + s) + 2 : Nat) : Int))]) (w' := w) (n' := 142) rfl ?_
                rw [show (540 : Int) = N5 from hN5.symm]
                refine qG.br (P := ((3 * (64 * g + s) + 2 : Nat) : Int) < N5) (pc1 := 88) (pc2 := 126) (st1 := []) rfl (fun h540 => ?_) (fun h540 => ?_)
                · skip
                  refine qG.blk 3 (pc' := 93) (ls' := [(2, 24), (2, 27), (2, 35), (1, a), (9, 0), (1, b), (9, 0), (1, c), (9, 0), (0, ((g : Nat) : Int)), (1, qland x (wrl (x - 1))), (9, 0), (0, ((i : Nat) : Int)), (0, ((3 * (64 * g + s) : Nat) : Int))]) (st' := [(2, w 24 5), (1, a)]) (w' := w) (n' := 142) rfl ?_
                  rw [show w 24 5 = 26 from zrefz hI rfl rfl]
                  refine qG.blk 1 (pc' := 95) (ls' := [(2, 24), (2, 27), (2, 35), (1, a), (9, 0), (1, b), (9, 0), (1, c), (9, 0), (0, ((g : Nat) : Int)), (1, qland x (wrl (x - 1))), (9, 0), (0, ((i : Nat) : Int)), (0, ((3 * (64 * g + s) : Nat) : Int))]) (st' := [(0, ((3 * (64 * g + s) : Nat) : Int)), (2, 26), (1, a)]) (w' := w) (n' := 142) rfl ?_
                  refine qG.lldz (m := 540) rfl rfl (by omega) (by decide) ?_
                  show qG none (d + 1) 101 96 [(2, 24), (2, 27), (2, 35), (1, a), (9, 0), (1, b), (9, 0), (1, c), (9, 0), (0, ((g : Nat) : Int)), (1, qland x (wrl (x - 1))), (9, 0), (0, ((i : Nat) : Int)), (0, ((3 * (64 * g + s) : Nat) : Int))] [(1, w 26 (3 * (64 * g + s))), (1, a)] w 142 Q9
                  refine qG.blk 5 (pc' := 104) (ls' := [(2, 24), (2, 27), (2, 35), (1, qlor a (w 26 (3 * (64 * g + s)))), (9, 0), (1, b), (9, 0), (1, c), (9, 0), (0, ((g : Nat) : Int)), (1, qland x (wrl (x - 1))), (9, 0), (0, ((i : Nat) : Int)), (0, ((3 * (64 * g + s) : Nat) : Int))]) (st' := [(2, w 24 5), (1, b)]) (w' := w) (n' := 142) rfl ?_
                  rw [show w 24 5 = 26 from zrefz hI rfl rfl]
                  refine qG.blk 3 (pc' := 108) (ls' := [(2, 24), (2, 27), (2, 35), (1, qlor a (w 26 (3 * (64 * g + s)))), (9, 0), (1, b), (9, 0), (1, c), (9, 0), (0, ((g : Nat) : Int)), (1, qland x (wrl (x - 1))), (9, 0), (0, ((i : Nat) : Int)), (0, ((3 * (64 * g + s) : Nat) : Int))]) (st' := [(0, wrp (((3 * (64 * g + s) : Nat) : Int) + 1)), (2, 26), (1, b)]) (w' := w) (n' := 142) rfl ?_
                  rw [show wrp (((3 * (64 * g + s) : Nat) : Int) + 1) = ((3 * (64 * g + s) + 1 : Nat) : Int) from by rw [wrp_id (by omega) (by omega)]; omega]
                  refine qG.lldz (m := 540) rfl rfl (by omega) (by decide) ?_
                  show qG none (d + 1) 101 109 [(2, 24), (2, 27), (2, 35), (1, qlor a (w 26 (3 * (64 * g + s)))), (9, 0), (1, b), (9, 0), (1, c), (9, 0), (0, ((g : Nat) : Int)), (1, qland x (wrl (x - 1))), (9, 0), (0, ((i : Nat) : Int)), (0, ((3 * (64 * g + s) : Nat) : Int))] [(1, w 26 (3 * (64 * g + s) + 1)), (1, b)] w 142 Q9
                  refine qG.blk 5 (pc' := 118) (ls' := [(2, 24), (2, 27), (2, 35), (1, qlor a (w 26 (3 * (64 * g + s)))), (9, 0), (1, qlor b (w 26 (3 * (64 * g + s) + 1))), (9, 0), (1, c), (9, 0), (0, ((g : Nat) : Int)), (1, qland x (wrl (x - 1))), (9, 0), (0, ((i : Nat) : Int)), (0, ((3 * (64 * g + s) : Nat) : Int))]) (st' := [(2, w 24 5), (1, c)]) (w' := w) (n' := 142) rfl ?_
                  rw [show w 24 5 = 26 from zrefz hI rfl rfl]
                  refine qG.blk 3 (pc' := 122) (ls' := [(2, 24), (2, 27), (2, 35), (1, qlor a (w 26 (3 * (64 * g + s)))), (9, 0), (1, qlor b (w 26 (3 * (64 * g + s) + 1))), (9, 0), (1, c), (9, 0), (0, ((g : Nat) : Int)), (1, qland x (wrl (x - 1))), (9, 0), (0, ((i : Nat) : Int)), (0, ((3 * (64 * g + s) : Nat) : Int))]) (st' := [(0, wrp (((3 * (64 * g + s) : Nat) : Int) + 2)), (2, 26), (1, c)]) (w' := w) (n' := 142) rfl ?_
                  rw [show wrp (((3 * (64 * g + s) : Nat) : Int) + 2) = ((3 * (64 * g + s) + 2 : Nat) : Int) from by rw [wrp_id (by omega) (by omega)]; omega]
                  refine qG.lldz (m := 540) rfl rfl (by omega) (by decide) ?_
                  show qG none (d + 1) 101 123 [(2, 24), (2, 27), (2, 35), (1, qlor a (w 26 (3 * (64 * g + s)))), (9, 0), (1, qlor b (w 26 (3 * (64 * g + s) + 1))), (9, 0), (1, c), (9, 0), (0, ((g : Nat) : Int)), (1, qland x (wrl (x - 1))), (9, 0), (0, ((i : Nat) : Int)), (0, ((3 * (64 * g + s) : Nat) : Int))] [(1, w 26 (3 * (64 * g + s) + 2)), (1, c)] w 142 Q9
                  refine qG.blk 3 (pc' := 129) (ls' := [(2, 24), (2, 27), (2, 35), (1, qlor a (w 26 (3 * (64 * g + s)))), (9, 0), (1, qlor b (w 26 (3 * (64 * g + s) + 1))), (9, 0), (1, qlor c (w 26 (3 * (64 * g + s) + 2))), (9, 0), (0, ((g : Nat) : Int)), (1, qland x (wrl (x - 1))), (9, 0), (0, wrp (((i : Nat) : Int) + 1)), (0, ((3 * (64 * g + s) : Nat) : Int))]) (st' := []) (w' := w) (n' := 142) rfl ?_
                  rw [show wrp (((i : Nat) : Int) + 1) = ((i + 1 : Nat) : Int) from wrp_id (by omega) (by omega)]
                  refine qG.blk 1 (pc' := 33) (ls' := [(2, 24), (2, 27), (2, 35), (1, qlor a (w 26 (3 * (64 * g + s)))), (9, 0), (1, qlor b (w 26 (3 * (64 * g + s) + 1))), (9, 0), (1, qlor c (w 26 (3 * (64 * g + s) + 2))), (9, 0), (0, ((g : Nat) : Int)), (1, qland x (wrl (x - 1))), (9, 0), (0, ((i + 1 : Nat) : Int)), (0, ((3 * (64 * g + s) : Nat) : Int))]) (st' := []) (w' := w) (n' := 142) rfl ?_
                  exact ih33 _ (by omega) (i + 1) (qlor a (w 26 (3 * (64 * g + s)))) (qlor b (w 26 (3 * (64 * g + s) + 1))) (qlor c (w 26 (3 * (64 * g + s) + 2))) (qland x (wrl (x - 1))) ((0, ((3 * (64 * g + s) : Nat) : Int))) rfl (⟨by omega, by first | exact ha | exact qlorz _ _, by first | exact hb | exact qlorz _ _, by first | exact hc | exact qlorz _ _, qlandz _ _⟩)
                · skip
                  refine qG.blk 1 (pc' := 129) (ls' := [(2, 24), (2, 27), (2, 35), (1, a), (9, 0), (1, b), (9, 0), (1, c), (9, 0), (0, ((g : Nat) : Int)), (1, qland x (wrl (x - 1))), (9, 0), (0, wrp (((i : Nat) : Int) + 1)), (0, ((3 * (64 * g + s) : Nat) : Int))]) (st' := []) (w' := w) (n' := 142) rfl ?_
                  rw [show wrp (((i : Nat) : Int) + 1) = ((i + 1 : Nat) : Int) from wrp_id (by omega) (by omega)]
                  refine qG.blk 1 (pc' := 33) (ls' := [(2, 24), (2, 27), (2, 35), (1, a), (9, 0), (1, b), (9, 0), (1, c), (9, 0), (0, ((g : Nat) : Int)), (1, qland x (wrl (x - 1))), (9, 0), (0, ((i + 1 : Nat) : Int)), (0, ((3 * (64 * g + s) : Nat) : Int))]) (st' := []) (w' := w) (n' := 142) rfl ?_
                  exact ih33 _ (by omega) (i + 1) (a) (b) (c) (qland x (wrl (x - 1))) ((0, ((3 * (64 * g + s) : Nat) : Int))) rfl (⟨by omega, by first | exact ha | exact qlorz _ _, by first | exact hb | exact qlorz _ _, by first | exact hc | exact qlorz _ _, qlandz _ _⟩)
          · skip
            refine qG.blk 1 (pc' := 135) (ls' := [(2, 24), (2, 27), (2, 35), (1, a), (9, 0), (1, b), (9, 0), (1, c), (9, 0), (0, wrp (((g : Nat) : Int) + 1)), (1, x), (9, 0), (0, ((i : Nat) : Int)), l13]) (st' := []) (w' := w) (n' := 142) rfl ?_
            rw [show wrp (((g : Nat) : Int) + 1) = ((g + 1 : Nat) : Int) from wrp_id (by omega) (by omega)]
            refine qG.blk 1 (pc' := 11) (ls' := [(2, 24), (2, 27), (2, 35), (1, a), (9, 0), (1, b), (9, 0), (1, c), (9, 0), (0, ((g + 1 : Nat) : Int)), (1, x), (9, 0), (0, ((i : Nat) : Int)), l13]) (st' := []) (w' := w) (n' := 142) rfl ?_
            exact ih11 _ (by omega) (g + 1) (a) (b) (c) ((1, x)) ((0, ((i : Nat) : Int))) (l13) rfl (⟨by omega, ha, hb, hc⟩)
        exact L33 _ (0) (a) (b) (c) (w 27 g) (l13) rfl (⟨Nat.zero_le _, ha, hb, hc, arrz hI rfl rfl⟩)
      · exfalso; omega
    · skip
      refine qG.blk 4 (pc' := 144) (ls' := [(2, 24), (2, 27), (2, 35), (1, a), (9, 0), (1, b), (9, 0), (1, c), (9, 0), (0, ((g : Nat) : Int)), l10, (9, 0), l12, l13]) (st' := [(1, c), (1, b), (1, a), (2, 35)]) (w' := w) (n' := 142) rfl ?_
      refine qG.call (t := 105) (na := 4) (sk := 0) (md := 0) (ls1 := [(2, 35), (1, a), (9, 0), (1, b), (9, 0), (1, c), (9, 0)]) (r1 := []) rfl rfl rfl rfl rfl (AW.use (c := C_putRow35.2) (as := [(2, 35), (1, a), (1, b), (1, c)]) (m := [35]) T_putRow35 (AW.rf hI) (show 1 ≤ d by omega) ⟨⟨rfl, by decide, by decide⟩, ⟨rfl, i64l ha, i64u ha⟩, ⟨rfl, i64l hb, i64u hb⟩, ⟨rfl, i64l hc, i64u hc⟩, trivial⟩ rfl rfl (by decide +kernel)) ?_
      rintro _ w0 _ ⟨x7, rfl, -, -, hA7, rfl, -⟩
      show qG none (d + 1) 101 147 [(2, 24), (2, 27), (2, 35), (1, a), (9, 0), (1, b), (9, 0), (1, c), (9, 0), (0, ((g : Nat) : Int)), l10, (9, 0), l12, l13] [] w0 142 Q9
      refine qG.retv rfl rfl ?_
      subst hQ9
      exact ⟨rfl, rfl, hA7⟩
  exact L11 _ (0) (0) (0) (0) ((9, 0)) ((9, 0)) ((9, 0)) rfl (⟨Nat.zero_le _, ⟨by decide, by decide⟩, ⟨by decide, by decide⟩, ⟨by decide, by decide⟩⟩)
noncomputable def C_spread_27_35 : Nat × yC := (101, (5, [(2, 24, 24), (2, 27, 27), (2, 35, 35)], (9, 0, 0), [35], [], [], [], 0, []))
theorem T_spread_27_35 {w0 : qW} : yCOK w0 zgf zga zra zSp zgh C_spread_27_35.1 C_spread_27_35.2 := by
  intro d as w hd hm hI hn hp
  have e : as = [(2, 24), (2, 27), (2, 35)] := args3r hm
  subst e
  refine qG.mono (K_spreadZ27_35 hd w hI) ?_
  rintro _ w' _ ⟨rfl, rfl, hA⟩
  exact ⟨⟨rfl, Int.le_refl 0, Int.le_refl 0⟩, hA.1, rfl, hA.2, fun e he => (by cases he), fun z => (by cases z)⟩
theorem K_spreadZ27_36 {d : Nat} (hd : 5 ≤ d) (w : qW) (hI : yInv zgf zga zra zSp w) : qG none d 101 0 [(2, 24), (2, 27), (2, 36), (9, 0), (9, 0), (9, 0), (9, 0), (9, 0), (9, 0), (9, 0), (9, 0), (9, 0), (9, 0), (9, 0)] [] w 142 (fun (r : qV) (w1 : qW) (n1 : Nat) => r = (9, 0) ∧ n1 = 142 ∧ AW [36] w w1) := by
  generalize hQ9 : (fun (r : qV) (w1 : qW) (n1 : Nat) => r = (9, 0) ∧ n1 = 142 ∧ AW [36] w w1) = Q9
  obtain ⟨N5, hN5⟩ : ∃ N : Int, N = 540 := ⟨_, rfl⟩
  obtain ⟨d, rfl⟩ : ∃ d9, d = d9 + 1 := ⟨d - 1, by omega⟩
  refine qG.blk 8 (pc' := 11) (ls' := [(2, 24), (2, 27), (2, 36), (1, 0), (9, 0), (1, 0), (9, 0), (1, 0), (9, 0), (0, 0), (9, 0), (9, 0), (9, 0), (9, 0)]) (st' := []) (w' := w) (n' := 142) rfl ?_
  have L11 : ∀ (m9 : Nat) (g : Nat) (a b c : Int) (l10 l12 l13 : qV), 3 - g = m9 → (g ≤ 3 ∧ qi64 a ∧ qi64 b ∧ qi64 c) → qG none (d + 1) 101 11 [(2, 24), (2, 27), (2, 36), (1, a), (9, 0), (1, b), (9, 0), (1, c), (9, 0), (0, ((g : Nat) : Int)), l10, (9, 0), l12, l13] [] w 142 Q9 := by
    intro m9
    induction m9 using Nat.strongRecOn with
    | ind m9 ih11 =>
    intro g a b c l10 l12 l13 hm11 hI11
    obtain ⟨hg3, ha, hb, hc⟩ := hI11
    refine qG.blk 2 (pc' := 14) (ls' := [(2, 24), (2, 27), (2, 36), (1, a), (9, 0), (1, b), (9, 0), (1, c), (9, 0), (0, ((g : Nat) : Int)), l10, (9, 0), l12, l13]) (st' := [(0, 3), (0, ((g : Nat) : Int))]) (w' := w) (n' := 142) rfl ?_
    refine qG.br (P := ((g : Nat) : Int) < 3) (pc1 := 17) (pc2 := 138) (st1 := []) rfl (fun hg => ?_) (fun hg => ?_)
    · skip
      refine qG.blk 3 (pc' := 21) (ls' := [(2, 24), (2, 27), (2, 36), (1, a), (9, 0), (1, b), (9, 0), (1, c), (9, 0), (0, ((g : Nat) : Int)), l10, (9, 0), l12, l13]) (st' := [(0, 3), (0, ((g : Nat) : Int))]) (w' := w) (n' := 142) rfl ?_
      refine qG.br (P := ((g : Nat) : Int) < 3) (pc1 := 24) (pc2 := 138) (st1 := []) rfl (fun hgl => ?_) (fun hgl => ?_)
      · skip
        refine qG.blk 2 (pc' := 27) (ls' := [(2, 24), (2, 27), (2, 36), (1, a), (9, 0), (1, b), (9, 0), (1, c), (9, 0), (0, ((g : Nat) : Int)), l10, (9, 0), l12, l13]) (st' := [(0, ((g : Nat) : Int)), (2, 27)]) (w' := w) (n' := 142) rfl ?_
        refine qG.ar (P := 0 ≤ ((g : Nat) : Int) ∧ ((g : Nat) : Int) < ((3 : Nat) : Int)) (P2 := 0 < (27 : Int) ∧ (27 : Int) ≤ ((142 : Nat) : Int)) (pc' := 28) (ls' := [(2, 24), (2, 27), (2, 36), (1, a), (9, 0), (1, b), (9, 0), (1, c), (9, 0), (0, ((g : Nat) : Int)), l10, (9, 0), l12, l13]) (st' := [(1, w 27 g)]) (w' := w) (n' := 142) rfl (by omega) (by decide) ?_
        refine qG.blk 3 (pc' := 33) (ls' := [(2, 24), (2, 27), (2, 36), (1, a), (9, 0), (1, b), (9, 0), (1, c), (9, 0), (0, ((g : Nat) : Int)), (1, w 27 g), (9, 0), (0, 0), l13]) (st' := []) (w' := w) (n' := 142) rfl ?_
        have L33 : ∀ (m9 : Nat) (i : Nat) (a b c x : Int) (l13 : qV), 64 - i = m9 → (i ≤ 64 ∧ qi64 a ∧ qi64 b ∧ qi64 c ∧ qi64 x) → qG none (d + 1) 101 33 [(2, 24), (2, 27), (2, 36), (1, a), (9, 0), (1, b), (9, 0), (1, c), (9, 0), (0, ((g : Nat) : Int)), (1, x), (9, 0), (0, ((i : Nat) : Int)), l13] [] w 142 Q9 := by
          intro m9
          induction m9 using Nat.strongRecOn with
          | ind m9 ih33 =>
          intro i a b c x l13 hm33 hI33
          obtain ⟨hi64, ha, hb, hc, hx⟩ := hI33
          refine qG.blk 2 (pc' := 37) (ls' := [(2, 24), (2, 27), (2, 36), (1, a), (9, 0), (1, b), (9, 0), (1, c), (9, 0), (0, ((g : Nat) : Int)), (1, x), (9, 0), (0, ((i : Nat) : Int)), l13]) (st' := [(0, 64), (0, ((i : Nat) : Int))]) (w' := w) (n' := 142) rfl ?_
          refine qG.br (P := ((i : Nat) : Int) < 64) (pc1 := 40) (pc2 := 132) (st1 := []) rfl (fun hi65 => ?_) (fun hi65 => ?_)
          · skip
            refine qG.blk 3 (pc' := 44) (ls' := [(2, 24), (2, 27), (2, 36), (1, a), (9, 0), (1, b), (9, 0), (1, c), (9, 0), (0, ((g : Nat) : Int)), (1, x), (9, 0), (0, ((i : Nat) : Int)), l13]) (st' := [(0, qcmp x 0)]) (w' := w) (n' := 142) rfl ?_
            refine qG.br (P := qcmp x 0 = 0) (pc1 := 132) (pc2 := 47) (st1 := []) rfl (fun hx0 => ?_) (fun hx0 => ?_)
            · skip
              refine qG.blk 1 (pc' := 135) (ls' := [(2, 24), (2, 27), (2, 36), (1, a), (9, 0), (1, b), (9, 0), (1, c), (9, 0), (0, wrp (((g : Nat) : Int) + 1)), (1, x), (9, 0), (0, ((i : Nat) : Int)), l13]) (st' := []) (w' := w) (n' := 142) rfl ?_
              rw [show wrp (((g : Nat) : Int) + 1) = ((g + 1 : Nat) : Int) from wrp_id (by omega) (by omega)]
              refine qG.blk 1 (pc' := 11) (ls' := [(2, 24), (2, 27), (2, 36), (1, a), (9, 0), (1, b), (9, 0), (1, c), (9, 0), (0, ((g + 1 : Nat) : Int)), (1, x), (9, 0), (0, ((i : Nat) : Int)), l13]) (st' := []) (w' := w) (n' := 142) rfl ?_
              exact ih11 _ (by omega) (g + 1) (a) (b) (c) ((1, x)) ((0, ((i : Nat) : Int))) (l13) rfl (⟨by omega, ha, hb, hc⟩)
            · skip
              refine qG.blk 4 (pc' := 53) (ls' := [(2, 24), (2, 27), (2, 36), (1, a), (9, 0), (1, b), (9, 0), (1, c), (9, 0), (0, ((g : Nat) : Int)), (1, x), (9, 0), (0, ((i : Nat) : Int)), l13]) (st' := [(0, wrp (64 * ((g : Nat) : Int))), (0, 3)]) (w' := w) (n' := 142) rfl ?_
              rw [show wrp (64 * ((g : Nat) : Int)) = ((64 * g : Nat) : Int) from by rw [wrp_id (by omega) (by omega)]; omega]
              refine qG.blk 1 (pc' := 55) (ls' := [(2, 24), (2, 27), (2, 36), (1, a), (9, 0), (1, b), (9, 0), (1, c), (9, 0), (0, ((g : Nat) : Int)), (1, x), (9, 0), (0, ((i : Nat) : Int)), l13]) (st' := [(1, x), (0, ((64 * g : Nat) : Int)), (0, 3)]) (w' := w) (n' := 142) rfl ?_
              refine qG.call (t := 303) (na := 1) (sk := 0) (md := 0) (ls1 := [(1, x), (9, 0), (9, 0)]) (r1 := [(0, ((64 * g : Nat) : Int)), (0, 3)]) rfl rfl rfl rfl rfl (AW.use (c := C_nTZL.2) (as := [(1, x)]) (m := []) T_nTZL (AW.rf hI) (show 2 ≤ d by omega) ⟨⟨rfl, i64l hx, i64u hx⟩, trivial⟩ rfl rfl (by decide +kernel)) ?_
              rintro _ w7 _ ⟨x7, rfl, hl7, hu7, hA7, rfl, -⟩
              have e7 := hA7.nilz
              rw [e7]
              have hl7 : (0 : Int) ≤ x7 := hl7
              have hu7 : x7 ≤ (64 : Int) := hu7
              obtain ⟨s, rfl⟩ : ∃ s : Nat, x7 = (s : Int) := ⟨x7.toNat, by omega⟩
              show qG none (d + 1) 101 58 [(2, 24), (2, 27), (2, 36), (1, a), (9, 0), (1, b), (9, 0), (1, c), (9, 0), (0, ((g : Nat) : Int)), (1, x), (9, 0), (0, ((i : Nat) : Int)), l13] [(0, ((s : Nat) : Int)), (0, ((64 * g : Nat) : Int)), (0, 3)] w 142 Q9
              refine qG.blk 1 (pc' := 59) (ls' := [(2, 24), (2, 27), (2, 36), (1, a), (9, 0), (1, b), (9, 0), (1, c), (9, 0), (0, ((g : Nat) : Int)), (1, x), (9, 0), (0, ((i : Nat) : Int)), l13]) (st' := [(0, wrp (((64 * g : Nat) : Int) + ((s : Nat) : Int))), (0, 3)]) (w' := w) (n' := 142) rfl ?_
              rw [show wrp (((64 * g : Nat) : Int) + ((s : Nat) : Int)) = ((64 * g + s : Nat) : Int) from by rw [wrp_id (by omega) (by omega)]; omega]
              refine qG.blk 1 (pc' := 60) (ls' := [(2, 24), (2, 27), (2, 36), (1, a), (9, 0), (1, b), (9, 0), (1, c), (9, 0), (0, ((g : Nat) : Int)), (1, x), (9, 0), (0, ((i : Nat) : Int)), l13]) (st' := [(0, wrp (3 * ((64 * g + s : Nat) : Int)))]) (w' := w) (n' := 142) rfl ?_
              rw [show wrp (3 * ((64 * g + s : Nat) : Int)) = ((3 * (64 * g + s) : Nat) : Int) from by rw [wrp_id (by omega) (by omega)]; omega]
              refine qG.blk 5 (pc' := 68) (ls' := [(2, 24), (2, 27), (2, 36), (1, a), (9, 0), (1, b), (9, 0), (1, c), (9, 0), (0, ((g : Nat) : Int)), (1, x), (9, 0), (0, ((i : Nat) : Int)), (0, ((3 * (64 * g + s) : Nat) : Int))]) (st' := [(1, wrl (x - 1)), (1, x)]) (w' := w) (n' := 142) rfl ?_
              refine qG.blk 3 (pc' := 73) (ls' := [(2, 24), (2, 27), (2, 36), (1, a), (9, 0), (1, b), (9, 0), (1, c), (9, 0), (0, ((g : Nat) : Int)), (1, qland x (wrl (x - 1))), (9, 0), (0, ((i : Nat) : Int)), (0, ((3 * (64 * g + s) : Nat) : Int))]) (st' := [(0, ((3 * (64 * g + s) : Nat) : Int))]) (w' := w) (n' := 142) rfl ?_
              refine qG.br (P := ((3 * (64 * g + s) : Nat) : Int) < 0) (pc1 := 126) (pc2 := 76) (st1 := []) rfl (fun hr0 => ?_) (fun hr0 => ?_)
              · exfalso; omega
              · skip
                refine qG.blk 3 (pc' := 80) (ls' := [(2, 24), (2, 27), (2, 36), (1, a), (9, 0), (1, b), (9, 0), (1, c), (9, 0), (0, ((g : Nat) : Int)), (1, qland x (wrl (x - 1))), (9, 0), (0, ((i : Nat) : Int)), (0, ((3 * (64 * g + s) : Nat) : Int))]) (st' := [(0, wrp (((3 * (64 * g + s) : Nat) : Int) + 2))]) (w' := w) (n' := 142) rfl ?_
                rw [show wrp (((3 * (64 * g + s) : Nat) : Int) + 2) = ((3 * (64 * g + s) + 2 : Nat) : Int) from by rw [wrp_id (by omega) (by omega)]; omega]
                refine qG.blk 2 (pc' := 84) (ls' := [(2, 24), (2, 27), (2, 36), (1, a), (9, 0), (1, b), (9, 0), (1, c), (9, 0), (0, ((g : Nat) : Int)), (1, qland x (wrl (x - 1))), (9, 0), (0, ((i : Nat) : Int)), (0, ((3 * (64 * g + s) : Nat) : Int))]) (st' := [(2, w 24 5), (0, ((3 * (64 * g + s) + 2 : Nat) : Int))]) (w' := w) (n' := 142) rfl ?_
                rw [show w 24 5 = 26 from zrefz hI rfl rfl]
                refine qG.blk 1 (pc' := 85) (ls' := [(2, 24), (2, 27), (2, 36), (1, a), (9, 0), (1, b), (9, 0), (1, c), (9, 0), (0, ((g : Nat) : Int)), (1, qland x (wrl (x - 1))), (9, 0), (0, ((i : Nat) : Int)), (0, ((3 * (64 * g + s) : Nat) : Int))]) (st' := [(0, 540), (0, ((3 * (64 * g + s) + 2 : Nat) : Int))]) (w' := w) (n' := 142) rfl ?_
                rw [show (540 : Int) = N5 from hN5.symm]
                refine qG.br (P := ((3 * (64 * g + s) + 2 : Nat) : Int) < N5) (pc1 := 88) (pc2 := 126) (st1 := []) rfl (fun h540 => ?_) (fun h540 => ?_)
                · skip
                  refine qG.blk 3 (pc' := 93) (ls' := [(2, 24), (2, 27), (2, 36), (1, a), (9, 0), (1, b), (9, 0), (1, c), (9, 0), (0, ((g : Nat) : Int)), (1, qland x (wrl (x - 1))), (9, 0), (0, ((i : Nat) : Int)), (0, ((3 * (64 * g + s) : Nat) : Int))]) (st' := [(2, w 24 5), (1, a)]) (w' := w) (n' := 142) rfl ?_
                  rw [show w 24 5 = 26 from zrefz hI rfl rfl]
                  refine qG.blk 1 (pc' := 95) (ls' := [(2, 24), (2, 27), (2, 36), (1, a), (9, 0), (1, b), (9, 0), (1, c), (9, 0), (0, ((g : Nat) : Int)), (1, qland x (wrl (x - 1))), (9, 0), (0, ((i : Nat) : Int)), (0, ((3 * (64 * g + s) : Nat) : Int))]) (st' := [(0, ((3 * (64 * g + s) : Nat) : Int)), (2, 26), (1, a)]) (w' := w) (n' := 142) rfl ?_
                  refine qG.lldz (m := 540) rfl rfl (by omega) (by decide) ?_
                  show qG none (d + 1) 101 96 [(2, 24), (2, 27), (2, 36), (1, a), (9, 0), (1, b), (9, 0), (1, c), (9, 0), (0, ((g : Nat) : Int)), (1, qland x (wrl (x - 1))), (9, 0), (0, ((i : Nat) : Int)), (0, ((3 * (64 * g + s) : Nat) : Int))] [(1, w 26 (3 * (64 * g + s))), (1, a)] w 142 Q9
                  refine qG.blk 5 (pc' := 104) (ls' := [(2, 24), (2, 27), (2, 36), (1, qlor a (w 26 (3 * (64 * g + s)))), (9, 0), (1, b), (9, 0), (1, c), (9, 0), (0, ((g : Nat) : Int)), (1, qland x (wrl (x - 1))), (9, 0), (0, ((i : Nat) : Int)), (0, ((3 * (64 * g + s) : Nat) : Int))]) (st' := [(2, w 24 5), (1, b)]) (w' := w) (n' := 142) rfl ?_
                  rw [show w 24 5 = 26 from zrefz hI rfl rfl]
                  refine qG.blk 3 (pc' := 108) (ls' := [(2, 24), (2, 27), (2, 36), (1, qlor a (w 26 (3 * (64 * g + s)))), (9, 0), (1, b), (9, 0), (1, c), (9, 0), (0, ((g : Nat) : Int)), (1, qland x (wrl (x - 1))), (9, 0), (0, ((i : Nat) : Int)), (0, ((3 * (64 * g + s) : Nat) : Int))]) (st' := [(0, wrp (((3 * (64 * g + s) : Nat) : Int) + 1)), (2, 26), (1, b)]) (w' := w) (n' := 142) rfl ?_
                  rw [show wrp (((3 * (64 * g + s) : Nat) : Int) + 1) = ((3 * (64 * g + s) + 1 : Nat) : Int) from by rw [wrp_id (by omega) (by omega)]; omega]
                  refine qG.lldz (m := 540) rfl rfl (by omega) (by decide) ?_
                  show qG none (d + 1) 101 109 [(2, 24), (2, 27), (2, 36), (1, qlor a (w 26 (3 * (64 * g + s)))), (9, 0), (1, b), (9, 0), (1, c), (9, 0), (0, ((g : Nat) : Int)), (1, qland x (wrl (x - 1))), (9, 0), (0, ((i : Nat) : Int)), (0, ((3 * (64 * g + s) : Nat) : Int))] [(1, w 26 (3 * (64 * g + s) + 1)), (1, b)] w 142 Q9
                  refine qG.blk 5 (pc' := 118) (ls' := [(2, 24), (2, 27), (2, 36), (1, qlor a (w 26 (3 * (64 * g + s)))), (9, 0), (1, qlor b (w 26 (3 * (64 * g + s) + 1))), (9, 0), (1, c), (9, 0), (0, ((g : Nat) : Int)), (1, qland x (wrl (x - 1))), (9, 0), (0, ((i : Nat) : Int)), (0, ((3 * (64 * g + s) : Nat) : Int))]) (st' := [(2, w 24 5), (1, c)]) (w' := w) (n' := 142) rfl ?_
                  rw [show w 24 5 = 26 from zrefz hI rfl rfl]
                  refine qG.blk 3 (pc' := 122) (ls' := [(2, 24), (2, 27), (2, 36), (1, qlor a (w 26 (3 * (64 * g + s)))), (9, 0), (1, qlor b (w 26 (3 * (64 * g + s) + 1))), (9, 0), (1, c), (9, 0), (0, ((g : Nat) : Int)), (1, qland x (wrl (x - 1))), (9, 0), (0, ((i : Nat) : Int)), (0, ((3 * (64 * g + s) : Nat) : Int))]) (st' := [(0, wrp (((3 * (64 * g + s) : Nat) : Int) + 2)), (2, 26), (1, c)]) (w' := w) (n' := 142) rfl ?_
                  rw [show wrp (((3 * (64 * g + s) : Nat) : Int) + 2) = ((3 * (64 * g + s) + 2 : Nat) : Int) from by rw [wrp_id (by omega) (by omega)]; omega]
                  refine qG.lldz (m := 540) rfl rfl (by omega) (by decide) ?_
                  show qG none (d + 1) 101 123 [(2, 24), (2, 27), (2, 36), (1, qlor a (w 26 (3 * (64 * g + s)))), (9, 0), (1, qlor b (w 26 (3 * (64 * g + s) + 1))), (9, 0), (1, c), (9, 0), (0, ((g : Nat) : Int)), (1, qland x (wrl (x - 1))), (9, 0), (0, ((i : Nat) : Int)), (0, ((3 * (64 * g + s) : Nat) : Int))] [(1, w 26 (3 * (64 * g + s) + 2)), (1, c)] w 142 Q9
                  refine qG.blk 3 (pc' := 129) (ls' := [(2, 24), (2, 27), (2, 36), (1, qlor a (w 26 (3 * (64 * g + s)))), (9, 0), (1, qlor b (w 26 (3 * (64 * g + s) + 1))), (9, 0), (1, qlor c (w 26 (3 * (64 * g + s) + 2))), (9, 0), (0, ((g : Nat) : Int)), (1, qland x (wrl (x - 1))), (9, 0), (0, wrp (((i : Nat) : Int) + 1)), (0, ((3 * (64 * g + s) : Nat) : Int))]) (st' := []) (w' := w) (n' := 142) rfl ?_
                  rw [show wrp (((i : Nat) : Int) + 1) = ((i + 1 : Nat) : Int) from wrp_id (by omega) (by omega)]
                  refine qG.blk 1 (pc' := 33) (ls' := [(2, 24), (2, 27), (2, 36), (1, qlor a (w 26 (3 * (64 * g + s)))), (9, 0), (1, qlor b (w 26 (3 * (64 * g + s) + 1))), (9, 0), (1, qlor c (w 26 (3 * (64 * g + s) + 2))), (9, 0), (0, ((g : Nat) : Int)), (1, qland x (wrl (x - 1))), (9, 0), (0, ((i + 1 : Nat) : Int)), (0, ((3 * (64 * g + s) : Nat) : Int))]) (st' := []) (w' := w) (n' := 142) rfl ?_
                  exact ih33 _ (by omega) (i + 1) (qlor a (w 26 (3 * (64 * g + s)))) (qlor b (w 26 (3 * (64 * g + s) + 1))) (qlor c (w 26 (3 * (64 * g + s) + 2))) (qland x (wrl (x - 1))) ((0, ((3 * (64 * g + s) : Nat) : Int))) rfl (⟨by omega, by first | exact ha | exact qlorz _ _, by first | exact hb | exact qlorz _ _, by first | exact hc | exact qlorz _ _, qlandz _ _⟩)
                · skip
                  refine qG.blk 1 (pc' := 129) (ls' := [(2, 24), (2, 27), (2, 36), (1, a), (9, 0), (1, b), (9, 0), (1, c), (9, 0), (0, ((g : Nat) : Int)), (1, qland x (wrl (x - 1))), (9, 0), (0, wrp (((i : Nat) : Int) + 1)), (0, ((3 * (64 * g + s) : Nat) : Int))]) (st' := []) (w' := w) (n' := 142) rfl ?_
                  rw [show wrp (((i : Nat) : Int) + 1) = ((i + 1 : Nat) : Int) from wrp_id (by omega) (by omega)]
                  refine qG.blk 1 (pc' := 33) (ls' := [(2, 24), (2, 27), (2, 36), (1, a), (9, 0), (1, b), (9, 0), (1, c), (9, 0), (0, ((g : Nat) : Int)), (1, qland x (wrl (x - 1))), (9, 0), (0, ((i + 1 : Nat) : Int)), (0, ((3 * (64 * g + s) : Nat) : Int))]) (st' := []) (w' := w) (n' := 142) rfl ?_
                  exact ih33 _ (by omega) (i + 1) (a) (b) (c) (qland x (wrl (x - 1))) ((0, ((3 * (64 * g + s) : Nat) : Int))) rfl (⟨by omega, by first | exact ha | exact qlorz _ _, by first | exact hb | exact qlorz _ _, by first | exact hc | exact qlorz _ _, qlandz _ _⟩)
          · skip
            refine qG.blk 1 (pc' := 135) (ls' := [(2, 24), (2, 27), (2, 36), (1, a), (9, 0), (1, b), (9, 0), (1, c), (9, 0), (0, wrp (((g : Nat) : Int) + 1)), (1, x), (9, 0), (0, ((i : Nat) : Int)), l13]) (st' := []) (w' := w) (n' := 142) rfl ?_
            rw [show wrp (((g : Nat) : Int) + 1) = ((g + 1 : Nat) : Int) from wrp_id (by omega) (by omega)]
            refine qG.blk 1 (pc' := 11) (ls' := [(2, 24), (2, 27), (2, 36), (1, a), (9, 0), (1, b), (9, 0), (1, c), (9, 0), (0, ((g + 1 : Nat) : Int)), (1, x), (9, 0), (0, ((i : Nat) : Int)), l13]) (st' := []) (w' := w) (n' := 142) rfl ?_
            exact ih11 _ (by omega) (g + 1) (a) (b) (c) ((1, x)) ((0, ((i : Nat) : Int))) (l13) rfl (⟨by omega, ha, hb, hc⟩)
        exact L33 _ (0) (a) (b) (c) (w 27 g) (l13) rfl (⟨Nat.zero_le _, ha, hb, hc, arrz hI rfl rfl⟩)
      · exfalso; omega
    · skip
      refine qG.blk 4 (pc' := 144) (ls' := [(2, 24), (2, 27), (2, 36), (1, a), (9, 0), (1, b), (9, 0), (1, c), (9, 0), (0, ((g : Nat) : Int)), l10, (9, 0), l12, l13]) (st' := [(1, c), (1, b), (1, a), (2, 36)]) (w' := w) (n' := 142) rfl ?_
      refine qG.call (t := 105) (na := 4) (sk := 0) (md := 0) (ls1 := [(2, 36), (1, a), (9, 0), (1, b), (9, 0), (1, c), (9, 0)]) (r1 := []) rfl rfl rfl rfl rfl (AW.use (c := C_putRow36.2) (as := [(2, 36), (1, a), (1, b), (1, c)]) (m := [36]) T_putRow36 (AW.rf hI) (show 1 ≤ d by omega) ⟨⟨rfl, by decide, by decide⟩, ⟨rfl, i64l ha, i64u ha⟩, ⟨rfl, i64l hb, i64u hb⟩, ⟨rfl, i64l hc, i64u hc⟩, trivial⟩ rfl rfl (by decide +kernel)) ?_
      rintro _ w0 _ ⟨x7, rfl, -, -, hA7, rfl, -⟩
      show qG none (d + 1) 101 147 [(2, 24), (2, 27), (2, 36), (1, a), (9, 0), (1, b), (9, 0), (1, c), (9, 0), (0, ((g : Nat) : Int)), l10, (9, 0), l12, l13] [] w0 142 Q9
      refine qG.retv rfl rfl ?_
      subst hQ9
      exact ⟨rfl, rfl, hA7⟩
  exact L11 _ (0) (0) (0) (0) ((9, 0)) ((9, 0)) ((9, 0)) rfl (⟨Nat.zero_le _, ⟨by decide, by decide⟩, ⟨by decide, by decide⟩, ⟨by decide, by decide⟩⟩)
noncomputable def C_spread_27_36 : Nat × yC := (101, (5, [(2, 24, 24), (2, 27, 27), (2, 36, 36)], (9, 0, 0), [36], [], [], [], 0, []))
theorem T_spread_27_36 {w0 : qW} : yCOK w0 zgf zga zra zSp zgh C_spread_27_36.1 C_spread_27_36.2 := by
  intro d as w hd hm hI hn hp
  have e : as = [(2, 24), (2, 27), (2, 36)] := args3r hm
  subst e
  refine qG.mono (K_spreadZ27_36 hd w hI) ?_
  rintro _ w' _ ⟨rfl, rfl, hA⟩
  exact ⟨⟨rfl, Int.le_refl 0, Int.le_refl 0⟩, hA.1, rfl, hA.2, fun e he => (by cases he), fun z => (by cases z)⟩
theorem K_spreadZ27_37 {d : Nat} (hd : 5 ≤ d) (w : qW) (hI : yInv zgf zga zra zSp w) : qG none d 101 0 [(2, 24), (2, 27), (2, 37), (9, 0), (9, 0), (9, 0), (9, 0), (9, 0), (9, 0), (9, 0), (9, 0), (9, 0), (9, 0), (9, 0)] [] w 142 (fun (r : qV) (w1 : qW) (n1 : Nat) => r = (9, 0) ∧ n1 = 142 ∧ AW [37] w w1) := by
  generalize hQ9 : (fun (r : qV) (w1 : qW) (n1 : Nat) => r = (9, 0) ∧ n1 = 142 ∧ AW [37] w w1) = Q9
  obtain ⟨N5, hN5⟩ : ∃ N : Int, N = 540 := ⟨_, rfl⟩
  obtain ⟨d, rfl⟩ : ∃ d9, d = d9 + 1 := ⟨d - 1, by omega⟩
  refine qG.blk 8 (pc' := 11) (ls' := [(2, 24), (2, 27), (2, 37), (1, 0), (9, 0), (1, 0), (9, 0), (1, 0), (9, 0), (0, 0), (9, 0), (9, 0), (9, 0), (9, 0)]) (st' := []) (w' := w) (n' := 142) rfl ?_
  have L11 : ∀ (m9 : Nat) (g : Nat) (a b c : Int) (l10 l12 l13 : qV), 3 - g = m9 → (g ≤ 3 ∧ qi64 a ∧ qi64 b ∧ qi64 c) → qG none (d + 1) 101 11 [(2, 24), (2, 27), (2, 37), (1, a), (9, 0), (1, b), (9, 0), (1, c), (9, 0), (0, ((g : Nat) : Int)), l10, (9, 0), l12, l13] [] w 142 Q9 := by
    intro m9
    induction m9 using Nat.strongRecOn with
    | ind m9 ih11 =>
    intro g a b c l10 l12 l13 hm11 hI11
    obtain ⟨hg3, ha, hb, hc⟩ := hI11
    refine qG.blk 2 (pc' := 14) (ls' := [(2, 24), (2, 27), (2, 37), (1, a), (9, 0), (1, b), (9, 0), (1, c), (9, 0), (0, ((g : Nat) : Int)), l10, (9, 0), l12, l13]) (st' := [(0, 3), (0, ((g : Nat) : Int))]) (w' := w) (n' := 142) rfl ?_
    refine qG.br (P := ((g : Nat) : Int) < 3) (pc1 := 17) (pc2 := 138) (st1 := []) rfl (fun hg => ?_) (fun hg => ?_)
    · skip
      refine qG.blk 3 (pc' := 21) (ls' := [(2, 24), (2, 27), (2, 37), (1, a), (9, 0), (1, b), (9, 0), (1, c), (9, 0), (0, ((g : Nat) : Int)), l10, (9, 0), l12, l13]) (st' := [(0, 3), (0, ((g : Nat) : Int))]) (w' := w) (n' := 142) rfl ?_
      refine qG.br (P := ((g : Nat) : Int) < 3) (pc1 := 24) (pc2 := 138) (st1 := []) rfl (fun hgl => ?_) (fun hgl => ?_)
      · skip
        refine qG.blk 2 (pc' := 27) (ls' := [(2, 24), (2, 27), (2, 37), (1, a), (9, 0), (1, b), (9, 0), (1, c), (9, 0), (0, ((g : Nat) : Int)), l10, (9, 0), l12, l13]) (st' := [(0, ((g : Nat) : Int)), (2, 27)]) (w' := w) (n' := 142) rfl ?_
        refine qG.ar (P := 0 ≤ ((g : Nat) : Int) ∧ ((g : Nat) : Int) < ((3 : Nat) : Int)) (P2 := 0 < (27 : Int) ∧ (27 : Int) ≤ ((142 : Nat) : Int)) (pc' := 28) (ls' := [(2, 24), (2, 27), (2, 37), (1, a), (9, 0), (1, b), (9, 0), (1, c), (9, 0), (0, ((g : Nat) : Int)), l10, (9, 0), l12, l13]) (st' := [(1, w 27 g)]) (w' := w) (n' := 142) rfl (by omega) (by decide) ?_
        refine qG.blk 3 (pc' := 33) (ls' := [(2, 24), (2, 27), (2, 37), (1, a), (9, 0), (1, b), (9, 0), (1, c), (9, 0), (0, ((g : Nat) : Int)), (1, w 27 g), (9, 0), (0, 0), l13]) (st' := []) (w' := w) (n' := 142) rfl ?_
        have L33 : ∀ (m9 : Nat) (i : Nat) (a b c x : Int) (l13 : qV), 64 - i = m9 → (i ≤ 64 ∧ qi64 a ∧ qi64 b ∧ qi64 c ∧ qi64 x) → qG none (d + 1) 101 33 [(2, 24), (2, 27), (2, 37), (1, a), (9, 0), (1, b), (9, 0), (1, c), (9, 0), (0, ((g : Nat) : Int)), (1, x), (9, 0), (0, ((i : Nat) : Int)), l13] [] w 142 Q9 := by
          intro m9
          induction m9 using Nat.strongRecOn with
          | ind m9 ih33 =>
          intro i a b c x l13 hm33 hI33
          obtain ⟨hi64, ha, hb, hc, hx⟩ := hI33
          refine qG.blk 2 (pc' := 37) (ls' := [(2, 24), (2, 27), (2, 37), (1, a), (9, 0), (1, b), (9, 0), (1, c), (9, 0), (0, ((g : Nat) : Int)), (1, x), (9, 0), (0, ((i : Nat) : Int)), l13]) (st' := [(0, 64), (0, ((i : Nat) : Int))]) (w' := w) (n' := 142) rfl ?_
          refine qG.br (P := ((i : Nat) : Int) < 64) (pc1 := 40) (pc2 := 132) (st1 := []) rfl (fun hi65 => ?_) (fun hi65 => ?_)
          · skip
            refine qG.blk 3 (pc' := 44) (ls' := [(2, 24), (2, 27), (2, 37), (1, a), (9, 0), (1, b), (9, 0), (1, c), (9, 0), (0, ((g : Nat) : Int)), (1, x), (9, 0), (0, ((i : Nat) : Int)), l13]) (st' := [(0, qcmp x 0)]) (w' := w) (n' := 142) rfl ?_
            refine qG.br (P := qcmp x 0 = 0) (pc1 := 132) (pc2 := 47) (st1 := []) rfl (fun hx0 => ?_) (fun hx0 => ?_)
            · skip
              refine qG.blk 1 (pc' := 135) (ls' := [(2, 24), (2, 27), (2, 37), (1, a), (9, 0), (1, b), (9, 0), (1, c), (9, 0), (0, wrp (((g : Nat) : Int) + 1)), (1, x), (9, 0), (0, ((i : Nat) : Int)), l13]) (st' := []) (w' := w) (n' := 142) rfl ?_
              rw [show wrp (((g : Nat) : Int) + 1) = ((g + 1 : Nat) : Int) from wrp_id (by omega) (by omega)]
              refine qG.blk 1 (pc' := 11) (ls' := [(2, 24), (2, 27), (2, 37), (1, a), (9, 0), (1, b), (9, 0), (1, c), (9, 0), (0, ((g + 1 : Nat) : Int)), (1, x), (9, 0), (0, ((i : Nat) : Int)), l13]) (st' := []) (w' := w) (n' := 142) rfl ?_
              exact ih11 _ (by omega) (g + 1) (a) (b) (c) ((1, x)) ((0, ((i : Nat) : Int))) (l13) rfl (⟨by omega, ha, hb, hc⟩)
            · skip
              refine qG.blk 4 (pc' := 53) (ls' := [(2, 24), (2, 27), (2, 37), (1, a), (9, 0), (1, b), (9, 0), (1, c), (9, 0), (0, ((g : Nat) : Int)), (1, x), (9, 0), (0, ((i : Nat) : Int)), l13]) (st' := [(0, wrp (64 * ((g : Nat) : Int))), (0, 3)]) (w' := w) (n' := 142) rfl ?_
              rw [show wrp (64 * ((g : Nat) : Int)) = ((64 * g : Nat) : Int) from by rw [wrp_id (by omega) (by omega)]; omega]
              refine qG.blk 1 (pc' := 55) (ls' := [(2, 24), (2, 27), (2, 37), (1, a), (9, 0), (1, b), (9, 0), (1, c), (9, 0), (0, ((g : Nat) : Int)), (1, x), (9, 0), (0, ((i : Nat) : Int)), l13]) (st' := [(1, x), (0, ((64 * g : Nat) : Int)), (0, 3)]) (w' := w) (n' := 142) rfl ?_
              refine qG.call (t := 303) (na := 1) (sk := 0) (md := 0) (ls1 := [(1, x), (9, 0), (9, 0)]) (r1 := [(0, ((64 * g : Nat) : Int)), (0, 3)]) rfl rfl rfl rfl rfl (AW.use (c := C_nTZL.2) (as := [(1, x)]) (m := []) T_nTZL (AW.rf hI) (show 2 ≤ d by omega) ⟨⟨rfl, i64l hx, i64u hx⟩, trivial⟩ rfl rfl (by decide +kernel)) ?_
              rintro _ w7 _ ⟨x7, rfl, hl7, hu7, hA7, rfl, -⟩
              have e7 := hA7.nilz
              rw [e7]
              have hl7 : (0 : Int) ≤ x7 := hl7
              have hu7 : x7 ≤ (64 : Int) := hu7
              obtain ⟨s, rfl⟩ : ∃ s : Nat, x7 = (s : Int) := ⟨x7.toNat, by omega⟩
              show qG none (d + 1) 101 58 [(2, 24), (2, 27), (2, 37), (1, a), (9, 0), (1, b), (9, 0), (1, c), (9, 0), (0, ((g : Nat) : Int)), (1, x), (9, 0), (0, ((i : Nat) : Int)), l13] [(0, ((s : Nat) : Int)), (0, ((64 * g : Nat) : Int)), (0, 3)] w 142 Q9
              refine qG.blk 1 (pc' := 59) (ls' := [(2, 24), (2, 27), (2, 37), (1, a), (9, 0), (1, b), (9, 0), (1, c), (9, 0), (0, ((g : Nat) : Int)), (1, x), (9, 0), (0, ((i : Nat) : Int)), l13]) (st' := [(0, wrp (((64 * g : Nat) : Int) + ((s : Nat) : Int))), (0, 3)]) (w' := w) (n' := 142) rfl ?_
              rw [show wrp (((64 * g : Nat) : Int) + ((s : Nat) : Int)) = ((64 * g + s : Nat) : Int) from by rw [wrp_id (by omega) (by omega)]; omega]
              refine qG.blk 1 (pc' := 60) (ls' := [(2, 24), (2, 27), (2, 37), (1, a), (9, 0), (1, b), (9, 0), (1, c), (9, 0), (0, ((g : Nat) : Int)), (1, x), (9, 0), (0, ((i : Nat) : Int)), l13]) (st' := [(0, wrp (3 * ((64 * g + s : Nat) : Int)))]) (w' := w) (n' := 142) rfl ?_
              rw [show wrp (3 * ((64 * g + s : Nat) : Int)) = ((3 * (64 * g + s) : Nat) : Int) from by rw [wrp_id (by omega) (by omega)]; omega]
              refine qG.blk 5 (pc' := 68) (ls' := [(2, 24), (2, 27), (2, 37), (1, a), (9, 0), (1, b), (9, 0), (1, c), (9, 0), (0, ((g : Nat) : Int)), (1, x), (9, 0), (0, ((i : Nat) : Int)), (0, ((3 * (64 * g + s) : Nat) : Int))]) (st' := [(1, wrl (x - 1)), (1, x)]) (w' := w) (n' := 142) rfl ?_
              refine qG.blk 3 (pc' := 73) (ls' := [(2, 24), (2, 27), (2, 37), (1, a), (9, 0), (1, b), (9, 0), (1, c), (9, 0), (0, ((g : Nat) : Int)), (1, qland x (wrl (x - 1))), (9, 0), (0, ((i : Nat) : Int)), (0, ((3 * (64 * g + s) : Nat) : Int))]) (st' := [(0, ((3 * (64 * g + s) : Nat) : Int))]) (w' := w) (n' := 142) rfl ?_
              refine qG.br (P := ((3 * (64 * g + s) : Nat) : Int) < 0) (pc1 := 126) (pc2 := 76) (st1 := []) rfl (fun hr0 => ?_) (fun hr0 => ?_)
              · exfalso; omega
              · skip
                refine qG.blk 3 (pc' := 80) (ls' := [(2, 24), (2, 27), (2, 37), (1, a), (9, 0), (1, b), (9, 0), (1, c), (9, 0), (0, ((g : Nat) : Int)), (1, qland x (wrl (x - 1))), (9, 0), (0, ((i : Nat) : Int)), (0, ((3 * (64 * g + s) : Nat) : Int))]) (st' := [(0, wrp (((3 * (64 * g + s) : Nat) : Int) + 2))]) (w' := w) (n' := 142) rfl ?_
                rw [show wrp (((3 * (64 * g + s) : Nat) : Int) + 2) = ((3 * (64 * g + s) + 2 : Nat) : Int) from by rw [wrp_id (by omega) (by omega)]; omega]
                refine qG.blk 2 (pc' := 84) (ls' := [(2, 24), (2, 27), (2, 37), (1, a), (9, 0), (1, b), (9, 0), (1, c), (9, 0), (0, ((g : Nat) : Int)), (1, qland x (wrl (x - 1))), (9, 0), (0, ((i : Nat) : Int)), (0, ((3 * (64 * g + s) : Nat) : Int))]) (st' := [(2, w 24 5), (0, ((3 * (64 * g + s) + 2 : Nat) : Int))]) (w' := w) (n' := 142) rfl ?_
                rw [show w 24 5 = 26 from zrefz hI rfl rfl]
                refine qG.blk 1 (pc' := 85) (ls' := [(2, 24), (2, 27), (2, 37), (1, a), (9, 0), (1, b), (9, 0), (1, c), (9, 0), (0, ((g : Nat) : Int)), (1, qland x (wrl (x - 1))), (9, 0), (0, ((i : Nat) : Int)), (0, ((3 * (64 * g + s) : Nat) : Int))]) (st' := [(0, 540), (0, ((3 * (64 * g + s) + 2 : Nat) : Int))]) (w' := w) (n' := 142) rfl ?_
                rw [show (540 : Int) = N5 from hN5.symm]
                refine qG.br (P := ((3 * (64 * g + s) + 2 : Nat) : Int) < N5) (pc1 := 88) (pc2 := 126) (st1 := []) rfl (fun h540 => ?_) (fun h540 => ?_)
                · skip
                  refine qG.blk 3 (pc' := 93) (ls' := [(2, 24), (2, 27), (2, 37), (1, a), (9, 0), (1, b), (9, 0), (1, c), (9, 0), (0, ((g : Nat) : Int)), (1, qland x (wrl (x - 1))), (9, 0), (0, ((i : Nat) : Int)), (0, ((3 * (64 * g + s) : Nat) : Int))]) (st' := [(2, w 24 5), (1, a)]) (w' := w) (n' := 142) rfl ?_
                  rw [show w 24 5 = 26 from zrefz hI rfl rfl]
                  refine qG.blk 1 (pc' := 95) (ls' := [(2, 24), (2, 27), (2, 37), (1, a), (9, 0), (1, b), (9, 0), (1, c), (9, 0), (0, ((g : Nat) : Int)), (1, qland x (wrl (x - 1))), (9, 0), (0, ((i : Nat) : Int)), (0, ((3 * (64 * g + s) : Nat) : Int))]) (st' := [(0, ((3 * (64 * g + s) : Nat) : Int)), (2, 26), (1, a)]) (w' := w) (n' := 142) rfl ?_
                  refine qG.lldz (m := 540) rfl rfl (by omega) (by decide) ?_
                  show qG none (d + 1) 101 96 [(2, 24), (2, 27), (2, 37), (1, a), (9, 0), (1, b), (9, 0), (1, c), (9, 0), (0, ((g : Nat) : Int)), (1, qland x (wrl (x - 1))), (9, 0), (0, ((i : Nat) : Int)), (0, ((3 * (64 * g + s) : Nat) : Int))] [(1, w 26 (3 * (64 * g + s))), (1, a)] w 142 Q9
                  refine qG.blk 5 (pc' := 104) (ls' := [(2, 24), (2, 27), (2, 37), (1, qlor a (w 26 (3 * (64 * g + s)))), (9, 0), (1, b), (9, 0), (1, c), (9, 0), (0, ((g : Nat) : Int)), (1, qland x (wrl (x - 1))), (9, 0), (0, ((i : Nat) : Int)), (0, ((3 * (64 * g + s) : Nat) : Int))]) (st' := [(2, w 24 5), (1, b)]) (w' := w) (n' := 142) rfl ?_
                  rw [show w 24 5 = 26 from zrefz hI rfl rfl]
                  refine qG.blk 3 (pc' := 108) (ls' := [(2, 24), (2, 27), (2, 37), (1, qlor a (w 26 (3 * (64 * g + s)))), (9, 0), (1, b), (9, 0), (1, c), (9, 0), (0, ((g : Nat) : Int)), (1, qland x (wrl (x - 1))), (9, 0), (0, ((i : Nat) : Int)), (0, ((3 * (64 * g + s) : Nat) : Int))]) (st' := [(0, wrp (((3 * (64 * g + s) : Nat) : Int) + 1)), (2, 26), (1, b)]) (w' := w) (n' := 142) rfl ?_
                  rw [show wrp (((3 * (64 * g + s) : Nat) : Int) + 1) = ((3 * (64 * g + s) + 1 : Nat) : Int) from by rw [wrp_id (by omega) (by omega)]; omega]
                  refine qG.lldz (m := 540) rfl rfl (by omega) (by decide) ?_
                  show qG none (d + 1) 101 109 [(2, 24), (2, 27), (2, 37), (1, qlor a (w 26 (3 * (64 * g + s)))), (9, 0), (1, b), (9, 0), (1, c), (9, 0), (0, ((g : Nat) : Int)), (1, qland x (wrl (x - 1))), (9, 0), (0, ((i : Nat) : Int)), (0, ((3 * (64 * g + s) : Nat) : Int))] [(1, w 26 (3 * (64 * g + s) + 1)), (1, b)] w 142 Q9
                  refine qG.blk 5 (pc' := 118) (ls' := [(2, 24), (2, 27), (2, 37), (1, qlor a (w 26 (3 * (64 * g + s)))), (9, 0), (1, qlor b (w 26 (3 * (64 * g + s) + 1))), (9, 0), (1, c), (9, 0), (0, ((g : Nat) : Int)), (1, qland x (wrl (x - 1))), (9, 0), (0, ((i : Nat) : Int)), (0, ((3 * (64 * g + s) : Nat) : Int))]) (st' := [(2, w 24 5), (1, c)]) (w' := w) (n' := 142) rfl ?_
                  rw [show w 24 5 = 26 from zrefz hI rfl rfl]
                  refine qG.blk 3 (pc' := 122) (ls' := [(2, 24), (2, 27), (2, 37), (1, qlor a (w 26 (3 * (64 * g + s)))), (9, 0), (1, qlor b (w 26 (3 * (64 * g + s) + 1))), (9, 0), (1, c), (9, 0), (0, ((g : Nat) : Int)), (1, qland x (wrl (x - 1))), (9, 0), (0, ((i : Nat) : Int)), (0, ((3 * (64 * g + s) : Nat) : Int))]) (st' := [(0, wrp (((3 * (64 * g + s) : Nat) : Int) + 2)), (2, 26), (1, c)]) (w' := w) (n' := 142) rfl ?_
                  rw [show wrp (((3 * (64 * g + s) : Nat) : Int) + 2) = ((3 * (64 * g + s) + 2 : Nat) : Int) from by rw [wrp_id (by omega) (by omega)]; omega]
                  refine qG.lldz (m := 540) rfl rfl (by omega) (by decide) ?_
                  show qG none (d + 1) 101 123 [(2, 24), (2, 27), (2, 37), (1, qlor a (w 26 (3 * (64 * g + s)))), (9, 0), (1, qlor b (w 26 (3 * (64 * g + s) + 1))), (9, 0), (1, c), (9, 0), (0, ((g : Nat) : Int)), (1, qland x (wrl (x - 1))), (9, 0), (0, ((i : Nat) : Int)), (0, ((3 * (64 * g + s) : Nat) : Int))] [(1, w 26 (3 * (64 * g + s) + 2)), (1, c)] w 142 Q9
                  refine qG.blk 3 (pc' := 129) (ls' := [(2, 24), (2, 27), (2, 37), (1, qlor a (w 26 (3 * (64 * g + s)))), (9, 0), (1, qlor b (w 26 (3 * (64 * g + s) + 1))), (9, 0), (1, qlor c (w 26 (3 * (64 * g + s) + 2))), (9, 0), (0, ((g : Nat) : Int)), (1, qland x (wrl (x - 1))), (9, 0), (0, wrp (((i : Nat) : Int) + 1)), (0, ((3 * (64 * g + s) : Nat) : Int))]) (st' := []) (w' := w) (n' := 142) rfl ?_
                  rw [show wrp (((i : Nat) : Int) + 1) = ((i + 1 : Nat) : Int) from wrp_id (by omega) (by omega)]
                  refine qG.blk 1 (pc' := 33) (ls' := [(2, 24), (2, 27), (2, 37), (1, qlor a (w 26 (3 * (64 * g + s)))), (9, 0), (1, qlor b (w 26 (3 * (64 * g + s) + 1))), (9, 0), (1, qlor c (w 26 (3 * (64 * g + s) + 2))), (9, 0), (0, ((g : Nat) : Int)), (1, qland x (wrl (x - 1))), (9, 0), (0, ((i + 1 : Nat) : Int)), (0, ((3 * (64 * g + s) : Nat) : Int))]) (st' := []) (w' := w) (n' := 142) rfl ?_
                  exact ih33 _ (by omega) (i + 1) (qlor a (w 26 (3 * (64 * g + s)))) (qlor b (w 26 (3 * (64 * g + s) + 1))) (qlor c (w 26 (3 * (64 * g + s) + 2))) (qland x (wrl (x - 1))) ((0, ((3 * (64 * g + s) : Nat) : Int))) rfl (⟨by omega, by first | exact ha | exact qlorz _ _, by first | exact hb | exact qlorz _ _, by first | exact hc | exact qlorz _ _, qlandz _ _⟩)
                · skip
                  refine qG.blk 1 (pc' := 129) (ls' := [(2, 24), (2, 27), (2, 37), (1, a), (9, 0), (1, b), (9, 0), (1, c), (9, 0), (0, ((g : Nat) : Int)), (1, qland x (wrl (x - 1))), (9, 0), (0, wrp (((i : Nat) : Int) + 1)), (0, ((3 * (64 * g + s) : Nat) : Int))]) (st' := []) (w' := w) (n' := 142) rfl ?_
                  rw [show wrp (((i : Nat) : Int) + 1) = ((i + 1 : Nat) : Int) from wrp_id (by omega) (by omega)]
                  refine qG.blk 1 (pc' := 33) (ls' := [(2, 24), (2, 27), (2, 37), (1, a), (9, 0), (1, b), (9, 0), (1, c), (9, 0), (0, ((g : Nat) : Int)), (1, qland x (wrl (x - 1))), (9, 0), (0, ((i + 1 : Nat) : Int)), (0, ((3 * (64 * g + s) : Nat) : Int))]) (st' := []) (w' := w) (n' := 142) rfl ?_
                  exact ih33 _ (by omega) (i + 1) (a) (b) (c) (qland x (wrl (x - 1))) ((0, ((3 * (64 * g + s) : Nat) : Int))) rfl (⟨by omega, by first | exact ha | exact qlorz _ _, by first | exact hb | exact qlorz _ _, by first | exact hc | exact qlorz _ _, qlandz _ _⟩)
          · skip
            refine qG.blk 1 (pc' := 135) (ls' := [(2, 24), (2, 27), (2, 37), (1, a), (9, 0), (1, b), (9, 0), (1, c), (9, 0), (0, wrp (((g : Nat) : Int) + 1)), (1, x), (9, 0), (0, ((i : Nat) : Int)), l13]) (st' := []) (w' := w) (n' := 142) rfl ?_
            rw [show wrp (((g : Nat) : Int) + 1) = ((g + 1 : Nat) : Int) from wrp_id (by omega) (by omega)]
            refine qG.blk 1 (pc' := 11) (ls' := [(2, 24), (2, 27), (2, 37), (1, a), (9, 0), (1, b), (9, 0), (1, c), (9, 0), (0, ((g + 1 : Nat) : Int)), (1, x), (9, 0), (0, ((i : Nat) : Int)), l13]) (st' := []) (w' := w) (n' := 142) rfl ?_
            exact ih11 _ (by omega) (g + 1) (a) (b) (c) ((1, x)) ((0, ((i : Nat) : Int))) (l13) rfl (⟨by omega, ha, hb, hc⟩)
        exact L33 _ (0) (a) (b) (c) (w 27 g) (l13) rfl (⟨Nat.zero_le _, ha, hb, hc, arrz hI rfl rfl⟩)
      · exfalso; omega
    · skip
      refine qG.blk 4 (pc' := 144) (ls' := [(2, 24), (2, 27), (2, 37), (1, a), (9, 0), (1, b), (9, 0), (1, c), (9, 0), (0, ((g : Nat) : Int)), l10, (9, 0), l12, l13]) (st' := [(1, c), (1, b), (1, a), (2, 37)]) (w' := w) (n' := 142) rfl ?_
      refine qG.call (t := 105) (na := 4) (sk := 0) (md := 0) (ls1 := [(2, 37), (1, a), (9, 0), (1, b), (9, 0), (1, c), (9, 0)]) (r1 := []) rfl rfl rfl rfl rfl (AW.use (c := C_putRow37.2) (as := [(2, 37), (1, a), (1, b), (1, c)]) (m := [37]) T_putRow37 (AW.rf hI) (show 1 ≤ d by omega) ⟨⟨rfl, by decide, by decide⟩, ⟨rfl, i64l ha, i64u ha⟩, ⟨rfl, i64l hb, i64u hb⟩, ⟨rfl, i64l hc, i64u hc⟩, trivial⟩ rfl rfl (by decide +kernel)) ?_
      rintro _ w0 _ ⟨x7, rfl, -, -, hA7, rfl, -⟩
      show qG none (d + 1) 101 147 [(2, 24), (2, 27), (2, 37), (1, a), (9, 0), (1, b), (9, 0), (1, c), (9, 0), (0, ((g : Nat) : Int)), l10, (9, 0), l12, l13] [] w0 142 Q9
      refine qG.retv rfl rfl ?_
      subst hQ9
      exact ⟨rfl, rfl, hA7⟩
  exact L11 _ (0) (0) (0) (0) ((9, 0)) ((9, 0)) ((9, 0)) rfl (⟨Nat.zero_le _, ⟨by decide, by decide⟩, ⟨by decide, by decide⟩, ⟨by decide, by decide⟩⟩)
noncomputable def C_spread_27_37 : Nat × yC := (101, (5, [(2, 24, 24), (2, 27, 27), (2, 37, 37)], (9, 0, 0), [37], [], [], [], 0, []))
theorem T_spread_27_37 {w0 : qW} : yCOK w0 zgf zga zra zSp zgh C_spread_27_37.1 C_spread_27_37.2 := by
  intro d as w hd hm hI hn hp
  have e : as = [(2, 24), (2, 27), (2, 37)] := args3r hm
  subst e
  refine qG.mono (K_spreadZ27_37 hd w hI) ?_
  rintro _ w' _ ⟨rfl, rfl, hA⟩
  exact ⟨⟨rfl, Int.le_refl 0, Int.le_refl 0⟩, hA.1, rfl, hA.2, fun e he => (by cases he), fun z => (by cases z)⟩
theorem K_spreadZ27_38 {d : Nat} (hd : 5 ≤ d) (w : qW) (hI : yInv zgf zga zra zSp w) : qG none d 101 0 [(2, 24), (2, 27), (2, 38), (9, 0), (9, 0), (9, 0), (9, 0), (9, 0), (9, 0), (9, 0), (9, 0), (9, 0), (9, 0), (9, 0)] [] w 142 (fun (r : qV) (w1 : qW) (n1 : Nat) => r = (9, 0) ∧ n1 = 142 ∧ AW [38] w w1) := by
  generalize hQ9 : (fun (r : qV) (w1 : qW) (n1 : Nat) => r = (9, 0) ∧ n1 = 142 ∧ AW [38] w w1) = Q9
  obtain ⟨N5, hN5⟩ : ∃ N : Int, N = 540 := ⟨_, rfl⟩
  obtain ⟨d, rfl⟩ : ∃ d9, d = d9 + 1 := ⟨d - 1, by omega⟩
  refine qG.blk 8 (pc' := 11) (ls' := [(2, 24), (2, 27), (2, 38), (1, 0), (9, 0), (1, 0), (9, 0), (1, 0), (9, 0), (0, 0), (9, 0), (9, 0), (9, 0), (9, 0)]) (st' := []) (w' := w) (n' := 142) rfl ?_
  have L11 : ∀ (m9 : Nat) (g : Nat) (a b c : Int) (l10 l12 l13 : qV), 3 - g = m9 → (g ≤ 3 ∧ qi64 a ∧ qi64 b ∧ qi64 c) → qG none (d + 1) 101 11 [(2, 24), (2, 27), (2, 38), (1, a), (9, 0), (1, b), (9, 0), (1, c), (9, 0), (0, ((g : Nat) : Int)), l10, (9, 0), l12, l13] [] w 142 Q9 := by
    intro m9
    induction m9 using Nat.strongRecOn with
    | ind m9 ih11 =>
    intro g a b c l10 l12 l13 hm11 hI11
    obtain ⟨hg3, ha, hb, hc⟩ := hI11
    refine qG.blk 2 (pc' := 14) (ls' := [(2, 24), (2, 27), (2, 38), (1, a), (9, 0), (1, b), (9, 0), (1, c), (9, 0), (0, ((g : Nat) : Int)), l10, (9, 0), l12, l13]) (st' := [(0, 3), (0, ((g : Nat) : Int))]) (w' := w) (n' := 142) rfl ?_
    refine qG.br (P := ((g : Nat) : Int) < 3) (pc1 := 17) (pc2 := 138) (st1 := []) rfl (fun hg => ?_) (fun hg => ?_)
    · skip
      refine qG.blk 3 (pc' := 21) (ls' := [(2, 24), (2, 27), (2, 38), (1, a), (9, 0), (1, b), (9, 0), (1, c), (9, 0), (0, ((g : Nat) : Int)), l10, (9, 0), l12, l13]) (st' := [(0, 3), (0, ((g : Nat) : Int))]) (w' := w) (n' := 142) rfl ?_
      refine qG.br (P := ((g : Nat) : Int) < 3) (pc1 := 24) (pc2 := 138) (st1 := []) rfl (fun hgl => ?_) (fun hgl => ?_)
      · skip
        refine qG.blk 2 (pc' := 27) (ls' := [(2, 24), (2, 27), (2, 38), (1, a), (9, 0), (1, b), (9, 0), (1, c), (9, 0), (0, ((g : Nat) : Int)), l10, (9, 0), l12, l13]) (st' := [(0, ((g : Nat) : Int)), (2, 27)]) (w' := w) (n' := 142) rfl ?_
        refine qG.ar (P := 0 ≤ ((g : Nat) : Int) ∧ ((g : Nat) : Int) < ((3 : Nat) : Int)) (P2 := 0 < (27 : Int) ∧ (27 : Int) ≤ ((142 : Nat) : Int)) (pc' := 28) (ls' := [(2, 24), (2, 27), (2, 38), (1, a), (9, 0), (1, b), (9, 0), (1, c), (9, 0), (0, ((g : Nat) : Int)), l10, (9, 0), l12, l13]) (st' := [(1, w 27 g)]) (w' := w) (n' := 142) rfl (by omega) (by decide) ?_
        refine qG.blk 3 (pc' := 33) (ls' := [(2, 24), (2, 27), (2, 38), (1, a), (9, 0), (1, b), (9, 0), (1, c), (9, 0), (0, ((g : Nat) : Int)), (1, w 27 g), (9, 0), (0, 0), l13]) (st' := []) (w' := w) (n' := 142) rfl ?_
        have L33 : ∀ (m9 : Nat) (i : Nat) (a b c x : Int) (l13 : qV), 64 - i = m9 → (i ≤ 64 ∧ qi64 a ∧ qi64 b ∧ qi64 c ∧ qi64 x) → qG none (d + 1) 101 33 [(2, 24), (2, 27), (2, 38), (1, a), (9, 0), (1, b), (9, 0), (1, c), (9, 0), (0, ((g : Nat) : Int)), (1, x), (9, 0), (0, ((i : Nat) : Int)), l13] [] w 142 Q9 := by
          intro m9
          induction m9 using Nat.strongRecOn with
          | ind m9 ih33 =>
          intro i a b c x l13 hm33 hI33
          obtain ⟨hi64, ha, hb, hc, hx⟩ := hI33
          refine qG.blk 2 (pc' := 37) (ls' := [(2, 24), (2, 27), (2, 38), (1, a), (9, 0), (1, b), (9, 0), (1, c), (9, 0), (0, ((g : Nat) : Int)), (1, x), (9, 0), (0, ((i : Nat) : Int)), l13]) (st' := [(0, 64), (0, ((i : Nat) : Int))]) (w' := w) (n' := 142) rfl ?_
          refine qG.br (P := ((i : Nat) : Int) < 64) (pc1 := 40) (pc2 := 132) (st1 := []) rfl (fun hi65 => ?_) (fun hi65 => ?_)
          · skip
            refine qG.blk 3 (pc' := 44) (ls' := [(2, 24), (2, 27), (2, 38), (1, a), (9, 0), (1, b), (9, 0), (1, c), (9, 0), (0, ((g : Nat) : Int)), (1, x), (9, 0), (0, ((i : Nat) : Int)), l13]) (st' := [(0, qcmp x 0)]) (w' := w) (n' := 142) rfl ?_
            refine qG.br (P := qcmp x 0 = 0) (pc1 := 132) (pc2 := 47) (st1 := []) rfl (fun hx0 => ?_) (fun hx0 => ?_)
            · skip
              refine qG.blk 1 (pc' := 135) (ls' := [(2, 24), (2, 27), (2, 38), (1, a), (9, 0), (1, b), (9, 0), (1, c), (9, 0), (0, wrp (((g : Nat) : Int) + 1)), (1, x), (9, 0), (0, ((i : Nat) : Int)), l13]) (st' := []) (w' := w) (n' := 142) rfl ?_
              rw [show wrp (((g : Nat) : Int) + 1) = ((g + 1 : Nat) : Int) from wrp_id (by omega) (by omega)]
              refine qG.blk 1 (pc' := 11) (ls' := [(2, 24), (2, 27), (2, 38), (1, a), (9, 0), (1, b), (9, 0), (1, c), (9, 0), (0, ((g + 1 : Nat) : Int)), (1, x), (9, 0), (0, ((i : Nat) : Int)), l13]) (st' := []) (w' := w) (n' := 142) rfl ?_
              exact ih11 _ (by omega) (g + 1) (a) (b) (c) ((1, x)) ((0, ((i : Nat) : Int))) (l13) rfl (⟨by omega, ha, hb, hc⟩)
            · skip
              refine qG.blk 4 (pc' := 53) (ls' := [(2, 24), (2, 27), (2, 38), (1, a), (9, 0), (1, b), (9, 0), (1, c), (9, 0), (0, ((g : Nat) : Int)), (1, x), (9, 0), (0, ((i : Nat) : Int)), l13]) (st' := [(0, wrp (64 * ((g : Nat) : Int))), (0, 3)]) (w' := w) (n' := 142) rfl ?_
              rw [show wrp (64 * ((g : Nat) : Int)) = ((64 * g : Nat) : Int) from by rw [wrp_id (by omega) (by omega)]; omega]
              refine qG.blk 1 (pc' := 55) (ls' := [(2, 24), (2, 27), (2, 38), (1, a), (9, 0), (1, b), (9, 0), (1, c), (9, 0), (0, ((g : Nat) : Int)), (1, x), (9, 0), (0, ((i : Nat) : Int)), l13]) (st' := [(1, x), (0, ((64 * g : Nat) : Int)), (0, 3)]) (w' := w) (n' := 142) rfl ?_
              refine qG.call (t := 303) (na := 1) (sk := 0) (md := 0) (ls1 := [(1, x), (9, 0), (9, 0)]) (r1 := [(0, ((64 * g : Nat) : Int)), (0, 3)]) rfl rfl rfl rfl rfl (AW.use (c := C_nTZL.2) (as := [(1, x)]) (m := []) T_nTZL (AW.rf hI) (show 2 ≤ d by omega) ⟨⟨rfl, i64l hx, i64u hx⟩, trivial⟩ rfl rfl (by decide +kernel)) ?_
              rintro _ w7 _ ⟨x7, rfl, hl7, hu7, hA7, rfl, -⟩
              have e7 := hA7.nilz
              rw [e7]
              have hl7 : (0 : Int) ≤ x7 := hl7
              have hu7 : x7 ≤ (64 : Int) := hu7
              obtain ⟨s, rfl⟩ : ∃ s : Nat, x7 = (s : Int) := ⟨x7.toNat, by omega⟩
              show qG none (d + 1) 101 58 [(2, 24), (2, 27), (2, 38), (1, a), (9, 0), (1, b), (9, 0), (1, c), (9, 0), (0, ((g : Nat) : Int)), (1, x), (9, 0), (0, ((i : Nat) : Int)), l13] [(0, ((s : Nat) : Int)), (0, ((64 * g : Nat) : Int)), (0, 3)] w 142 Q9
              refine qG.blk 1 (pc' := 59) (ls' := [(2, 24), (2, 27), (2, 38), (1, a), (9, 0), (1, b), (9, 0), (1, c), (9, 0), (0, ((g : Nat) : Int)), (1, x), (9, 0), (0, ((i : Nat) : Int)), l13]) (st' := [(0, wrp (((64 * g : Nat) : Int) + ((s : Nat) : Int))), (0, 3)]) (w' := w) (n' := 142) rfl ?_
              rw [show wrp (((64 * g : Nat) : Int) + ((s : Nat) : Int)) = ((64 * g + s : Nat) : Int) from by rw [wrp_id (by omega) (by omega)]; omega]
              refine qG.blk 1 (pc' := 60) (ls' := [(2, 24), (2, 27), (2, 38), (1, a), (9, 0), (1, b), (9, 0), (1, c), (9, 0), (0, ((g : Nat) : Int)), (1, x), (9, 0), (0, ((i : Nat) : Int)), l13]) (st' := [(0, wrp (3 * ((64 * g + s : Nat) : Int)))]) (w' := w) (n' := 142) rfl ?_
              rw [show wrp (3 * ((64 * g + s : Nat) : Int)) = ((3 * (64 * g + s) : Nat) : Int) from by rw [wrp_id (by omega) (by omega)]; omega]
              refine qG.blk 5 (pc' := 68) (ls' := [(2, 24), (2, 27), (2, 38), (1, a), (9, 0), (1, b), (9, 0), (1, c), (9, 0), (0, ((g : Nat) : Int)), (1, x), (9, 0), (0, ((i : Nat) : Int)), (0, ((3 * (64 * g + s) : Nat) : Int))]) (st' := [(1, wrl (x - 1)), (1, x)]) (w' := w) (n' := 142) rfl ?_
              refine qG.blk 3 (pc' := 73) (ls' := [(2, 24), (2, 27), (2, 38), (1, a), (9, 0), (1, b), (9, 0), (1, c), (9, 0), (0, ((g : Nat) : Int)), (1, qland x (wrl (x - 1))), (9, 0), (0, ((i : Nat) : Int)), (0, ((3 * (64 * g + s) : Nat) : Int))]) (st' := [(0, ((3 * (64 * g + s) : Nat) : Int))]) (w' := w) (n' := 142) rfl ?_
              refine qG.br (P := ((3 * (64 * g + s) : Nat) : Int) < 0) (pc1 := 126) (pc2 := 76) (st1 := []) rfl (fun hr0 => ?_) (fun hr0 => ?_)
              · exfalso; omega
              · skip
                refine qG.blk 3 (pc' := 80) (ls' := [(2, 24), (2, 27), (2, 38), (1, a), (9, 0), (1, b), (9, 0), (1, c), (9, 0), (0, ((g : Nat) : Int)), (1, qland x (wrl (x - 1))), (9, 0), (0, ((i : Nat) : Int)), (0, ((3 * (64 * g + s) : Nat) : Int))]) (st' := [(0, wrp (((3 * (64 * g + s) : Nat) : Int) + 2))]) (w' := w) (n' := 142) rfl ?_
                rw [show wrp (((3 * (64 * g + s) : Nat) : Int) + 2) = ((3 * (64 * g + s) + 2 : Nat) : Int) from by rw [wrp_id (by omega) (by omega)]; omega]
                refine qG.blk 2 (pc' := 84) (ls' := [(2, 24), (2, 27), (2, 38), (1, a), (9, 0), (1, b), (9, 0), (1, c), (9, 0), (0, ((g : Nat) : Int)), (1, qland x (wrl (x - 1))), (9, 0), (0, ((i : Nat) : Int)), (0, ((3 * (64 * g + s) : Nat) : Int))]) (st' := [(2, w 24 5), (0, ((3 * (64 * g + s) + 2 : Nat) : Int))]) (w' := w) (n' := 142) rfl ?_
                rw [show w 24 5 = 26 from zrefz hI rfl rfl]
                refine qG.blk 1 (pc' := 85) (ls' := [(2, 24), (2, 27), (2, 38), (1, a), (9, 0), (1, b), (9, 0), (1, c), (9, 0), (0, ((g : Nat) : Int)), (1, qland x (wrl (x - 1))), (9, 0), (0, ((i : Nat) : Int)), (0, ((3 * (64 * g + s) : Nat) : Int))]) (st' := [(0, 540), (0, ((3 * (64 * g + s) + 2 : Nat) : Int))]) (w' := w) (n' := 142) rfl ?_
                rw [show (540 : Int) = N5 from hN5.symm]
                refine qG.br (P := ((3 * (64 * g + s) + 2 : Nat) : Int) < N5) (pc1 := 88) (pc2 := 126) (st1 := []) rfl (fun h540 => ?_) (fun h540 => ?_)
                · skip
                  refine qG.blk 3 (pc' := 93) (ls' := [(2, 24), (2, 27), (2, 38), (1, a), (9, 0), (1, b), (9, 0), (1, c), (9, 0), (0, ((g : Nat) : Int)), (1, qland x (wrl (x - 1))), (9, 0), (0, ((i : Nat) : Int)), (0, ((3 * (64 * g + s) : Nat) : Int))]) (st' := [(2, w 24 5), (1, a)]) (w' := w) (n' := 142) rfl ?_
                  rw [show w 24 5 = 26 from zrefz hI rfl rfl]
                  refine qG.blk 1 (pc' := 95) (ls' := [(2, 24), (2, 27), (2, 38), (1, a), (9, 0), (1, b), (9, 0), (1, c), (9, 0), (0, ((g : Nat) : Int)), (1, qland x (wrl (x - 1))), (9, 0), (0, ((i : Nat) : Int)), (0, ((3 * (64 * g + s) : Nat) : Int))]) (st' := [(0, ((3 * (64 * g + s) : Nat) : Int)), (2, 26), (1, a)]) (w' := w) (n' := 142) rfl ?_
                  refine qG.lldz (m := 540) rfl rfl (by omega) (by decide) ?_
                  show qG none (d + 1) 101 96 [(2, 24), (2, 27), (2, 38), (1, a), (9, 0), (1, b), (9, 0), (1, c), (9, 0), (0, ((g : Nat) : Int)), (1, qland x (wrl (x - 1))), (9, 0), (0, ((i : Nat) : Int)), (0, ((3 * (64 * g + s) : Nat) : Int))] [(1, w 26 (3 * (64 * g + s))), (1, a)] w 142 Q9
                  refine qG.blk 5 (pc' := 104) (ls' := [(2, 24), (2, 27), (2, 38), (1, qlor a (w 26 (3 * (64 * g + s)))), (9, 0), (1, b), (9, 0), (1, c), (9, 0), (0, ((g : Nat) : Int)), (1, qland x (wrl (x - 1))), (9, 0), (0, ((i : Nat) : Int)), (0, ((3 * (64 * g + s) : Nat) : Int))]) (st' := [(2, w 24 5), (1, b)]) (w' := w) (n' := 142) rfl ?_
                  rw [show w 24 5 = 26 from zrefz hI rfl rfl]
                  refine qG.blk 3 (pc' := 108) (ls' := [(2, 24), (2, 27), (2, 38), (1, qlor a (w 26 (3 * (64 * g + s)))), (9, 0), (1, b), (9, 0), (1, c), (9, 0), (0, ((g : Nat) : Int)), (1, qland x (wrl (x - 1))), (9, 0), (0, ((i : Nat) : Int)), (0, ((3 * (64 * g + s) : Nat) : Int))]) (st' := [(0, wrp (((3 * (64 * g + s) : Nat) : Int) + 1)), (2, 26), (1, b)]) (w' := w) (n' := 142) rfl ?_
                  rw [show wrp (((3 * (64 * g + s) : Nat) : Int) + 1) = ((3 * (64 * g + s) + 1 : Nat) : Int) from by rw [wrp_id (by omega) (by omega)]; omega]
                  refine qG.lldz (m := 540) rfl rfl (by omega) (by decide) ?_
                  show qG none (d + 1) 101 109 [(2, 24), (2, 27), (2, 38), (1, qlor a (w 26 (3 * (64 * g + s)))), (9, 0), (1, b), (9, 0), (1, c), (9, 0), (0, ((g : Nat) : Int)), (1, qland x (wrl (x - 1))), (9, 0), (0, ((i : Nat) : Int)), (0, ((3 * (64 * g + s) : Nat) : Int))] [(1, w 26 (3 * (64 * g + s) + 1)), (1, b)] w 142 Q9
                  refine qG.blk 5 (pc' := 118) (ls' := [(2, 24), (2, 27), (2, 38), (1, qlor a (w 26 (3 * (64 * g + s)))), (9, 0), (1, qlor b (w 26 (3 * (64 * g + s) + 1))), (9, 0), (1, c), (9, 0), (0, ((g : Nat) : Int)), (1, qland x (wrl (x - 1))), (9, 0), (0, ((i : Nat) : Int)), (0, ((3 * (64 * g + s) : Nat) : Int))]) (st' := [(2, w 24 5), (1, c)]) (w' := w) (n' := 142) rfl ?_
                  rw [show w 24 5 = 26 from zrefz hI rfl rfl]
                  refine qG.blk 3 (pc' := 122) (ls' := [(2, 24), (2, 27), (2, 38), (1, qlor a (w 26 (3 * (64 * g + s)))), (9, 0), (1, qlor b (w 26 (3 * (64 * g + s) + 1))), (9, 0), (1, c), (9, 0), (0, ((g : Nat) : Int)), (1, qland x (wrl (x - 1))), (9, 0), (0, ((i : Nat) : Int)), (0, ((3 * (64 * g + s) : Nat) : Int))]) (st' := [(0, wrp (((3 * (64 * g + s) : Nat) : Int) + 2)), (2, 26), (1, c)]) (w' := w) (n' := 142) rfl ?_
                  rw [show wrp (((3 * (64 * g + s) : Nat) : Int) + 2) = ((3 * (64 * g + s) + 2 : Nat) : Int) from by rw [wrp_id (by omega) (by omega)]; omega]
                  refine qG.lldz (m := 540) rfl rfl (by omega) (by decide) ?_
                  show qG none (d + 1) 101 123 [(2, 24), (2, 27), (2, 38), (1, qlor a (w 26 (3 * (64 * g + s)))), (9, 0), (1, qlor b (w 26 (3 * (64 * g + s) + 1))), (9, 0), (1, c), (9, 0), (0, ((g : Nat) : Int)), (1, qland x (wrl (x - 1))), (9, 0), (0, ((i : Nat) : Int)), (0, ((3 * (64 * g + s) : Nat) : Int))] [(1, w 26 (3 * (64 * g + s) + 2)), (1, c)] w 142 Q9
                  refine qG.blk 3 (pc' := 129) (ls' := [(2, 24), (2, 27), (2, 38), (1, qlor a (w 26 (3 * (64 * g + s)))), (9, 0), (1, qlor b (w 26 (3 * (64 * g + s) + 1))), (9, 0), (1, qlor c (w 26 (3 * (64 * g + s) + 2))), (9, 0), (0, ((g : Nat) : Int)), (1, qland x (wrl (x - 1))), (9, 0), (0, wrp (((i : Nat) : Int) + 1)), (0, ((3 * (64 * g + s) : Nat) : Int))]) (st' := []) (w' := w) (n' := 142) rfl ?_
                  rw [show wrp (((i : Nat) : Int) + 1) = ((i + 1 : Nat) : Int) from wrp_id (by omega) (by omega)]
                  refine qG.blk 1 (pc' := 33) (ls' := [(2, 24), (2, 27), (2, 38), (1, qlor a (w 26 (3 * (64 * g + s)))), (9, 0), (1, qlor b (w 26 (3 * (64 * g + s) + 1))), (9, 0), (1, qlor c (w 26 (3 * (64 * g + s) + 2))), (9, 0), (0, ((g : Nat) : Int)), (1, qland x (wrl (x - 1))), (9, 0), (0, ((i + 1 : Nat) : Int)), (0, ((3 * (64 * g + s) : Nat) : Int))]) (st' := []) (w' := w) (n' := 142) rfl ?_
                  exact ih33 _ (by omega) (i + 1) (qlor a (w 26 (3 * (64 * g + s)))) (qlor b (w 26 (3 * (64 * g + s) + 1))) (qlor c (w 26 (3 * (64 * g + s) + 2))) (qland x (wrl (x - 1))) ((0, ((3 * (64 * g + s) : Nat) : Int))) rfl (⟨by omega, by first | exact ha | exact qlorz _ _, by first | exact hb | exact qlorz _ _, by first | exact hc | exact qlorz _ _, qlandz _ _⟩)
                · skip
                  refine qG.blk 1 (pc' := 129) (ls' := [(2, 24), (2, 27), (2, 38), (1, a), (9, 0), (1, b), (9, 0), (1, c), (9, 0), (0, ((g : Nat) : Int)), (1, qland x (wrl (x - 1))), (9, 0), (0, wrp (((i : Nat) : Int) + 1)), (0, ((3 * (64 * g + s) : Nat) : Int))]) (st' := []) (w' := w) (n' := 142) rfl ?_
                  rw [show wrp (((i : Nat) : Int) + 1) = ((i + 1 : Nat) : Int) from wrp_id (by omega) (by omega)]
                  refine qG.blk 1 (pc' := 33) (ls' := [(2, 24), (2, 27), (2, 38), (1, a), (9, 0), (1, b), (9, 0), (1, c), (9, 0), (0, ((g : Nat) : Int)), (1, qland x (wrl (x - 1))), (9, 0), (0, ((i + 1 : Nat) : Int)), (0, ((3 * (64 * g + s) : Nat) : Int))]) (st' := []) (w' := w) (n' := 142) rfl ?_
                  exact ih33 _ (by omega) (i + 1) (a) (b) (c) (qland x (wrl (x - 1))) ((0, ((3 * (64 * g + s) : Nat) : Int))) rfl (⟨by omega, by first | exact ha | exact qlorz _ _, by first | exact hb | exact qlorz _ _, by first | exact hc | exact qlorz _ _, qlandz _ _⟩)
          · skip
            refine qG.blk 1 (pc' := 135) (ls' := [(2, 24), (2, 27), (2, 38), (1, a), (9, 0), (1, b), (9, 0), (1, c), (9, 0), (0, wrp (((g : Nat) : Int) + 1)), (1, x), (9, 0), (0, ((i : Nat) : Int)), l13]) (st' := []) (w' := w) (n' := 142) rfl ?_
            rw [show wrp (((g : Nat) : Int) + 1) = ((g + 1 : Nat) : Int) from wrp_id (by omega) (by omega)]
            refine qG.blk 1 (pc' := 11) (ls' := [(2, 24), (2, 27), (2, 38), (1, a), (9, 0), (1, b), (9, 0), (1, c), (9, 0), (0, ((g + 1 : Nat) : Int)), (1, x), (9, 0), (0, ((i : Nat) : Int)), l13]) (st' := []) (w' := w) (n' := 142) rfl ?_
            exact ih11 _ (by omega) (g + 1) (a) (b) (c) ((1, x)) ((0, ((i : Nat) : Int))) (l13) rfl (⟨by omega, ha, hb, hc⟩)
        exact L33 _ (0) (a) (b) (c) (w 27 g) (l13) rfl (⟨Nat.zero_le _, ha, hb, hc, arrz hI rfl rfl⟩)
      · exfalso; omega
    · skip
      refine qG.blk 4 (pc' := 144) (ls' := [(2, 24), (2, 27), (2, 38), (1, a), (9, 0), (1, b), (9, 0), (1, c), (9, 0), (0, ((g : Nat) : Int)), l10, (9, 0), l12, l13]) (st' := [(1, c), (1, b), (1, a), (2, 38)]) (w' := w) (n' := 142) rfl ?_
      refine qG.call (t := 105) (na := 4) (sk := 0) (md := 0) (ls1 := [(2, 38), (1, a), (9, 0), (1, b), (9, 0), (1, c), (9, 0)]) (r1 := []) rfl rfl rfl rfl rfl (AW.use (c := C_putRow38.2) (as := [(2, 38), (1, a), (1, b), (1, c)]) (m := [38]) T_putRow38 (AW.rf hI) (show 1 ≤ d by omega) ⟨⟨rfl, by decide, by decide⟩, ⟨rfl, i64l ha, i64u ha⟩, ⟨rfl, i64l hb, i64u hb⟩, ⟨rfl, i64l hc, i64u hc⟩, trivial⟩ rfl rfl (by decide +kernel)) ?_
      rintro _ w0 _ ⟨x7, rfl, -, -, hA7, rfl, -⟩
      show qG none (d + 1) 101 147 [(2, 24), (2, 27), (2, 38), (1, a), (9, 0), (1, b), (9, 0), (1, c), (9, 0), (0, ((g : Nat) : Int)), l10, (9, 0), l12, l13] [] w0 142 Q9
      refine qG.retv rfl rfl ?_
      subst hQ9
      exact ⟨rfl, rfl, hA7⟩
  exact L11 _ (0) (0) (0) (0) ((9, 0)) ((9, 0)) ((9, 0)) rfl (⟨Nat.zero_le _, ⟨by decide, by decide⟩, ⟨by decide, by decide⟩, ⟨by decide, by decide⟩⟩)
noncomputable def C_spread_27_38 : Nat × yC := (101, (5, [(2, 24, 24), (2, 27, 27), (2, 38, 38)], (9, 0, 0), [38], [], [], [], 0, []))
theorem T_spread_27_38 {w0 : qW} : yCOK w0 zgf zga zra zSp zgh C_spread_27_38.1 C_spread_27_38.2 := by
  intro d as w hd hm hI hn hp
  have e : as = [(2, 24), (2, 27), (2, 38)] := args3r hm
  subst e
  refine qG.mono (K_spreadZ27_38 hd w hI) ?_
  rintro _ w' _ ⟨rfl, rfl, hA⟩
  exact ⟨⟨rfl, Int.le_refl 0, Int.le_refl 0⟩, hA.1, rfl, hA.2, fun e he => (by cases he), fun z => (by cases z)⟩
end
section
/-! the class's poses: their methods end, whatever stands in the pair -/
noncomputable def C_keepCommon_27_29_28 : Nat × yC := (49, (2, [(2, 27, 27), (2, 29, 29), (2, 28, 28)], (9, 0, 0), [28], [], [], [], 0, []))
theorem T_keepCommon_27_29_28 {w0 : qW} : yCOK w0 zgf zga zra zSp zgh C_keepCommon_27_29_28.1 C_keepCommon_27_29_28.2 := yctr (bv := fun _ _ => none) (bb := fun _ => none) (ct := yctl []) (an := fun k pc => bif Nat.beq k 49 then (bif Nat.beq pc 2 then some ([none, none, none, some (0, 0, 3)], [28], [(3, (-1))]) else none) else none) (fk := fun k pc => none) (f := 100000) zgh0 (fun _ _ _ h => by cases h) (fun _ _ h => by cases h) zSp_ok (fun w hw => yctl_ok (P := fun t c => yCOK w zgf zga zra zSp zgh t c) ylnil) (by decide +kernel)
noncomputable def C_keepCommon_28_29_27 : Nat × yC := (49, (2, [(2, 28, 28), (2, 29, 29), (2, 27, 27)], (9, 0, 0), [27], [], [], [], 0, []))
theorem T_keepCommon_28_29_27 {w0 : qW} : yCOK w0 zgf zga zra zSp zgh C_keepCommon_28_29_27.1 C_keepCommon_28_29_27.2 := yctr (bv := fun _ _ => none) (bb := fun _ => none) (ct := yctl []) (an := fun k pc => bif Nat.beq k 49 then (bif Nat.beq pc 2 then some ([none, none, none, some (0, 0, 3)], [27], [(3, (-1))]) else none) else none) (fk := fun k pc => none) (f := 100000) zgh0 (fun _ _ _ h => by cases h) (fun _ _ h => by cases h) zSp_ok (fun w hw => yctl_ok (P := fun t c => yCOK w zgf zga zra zSp zgh t c) ylnil) (by decide +kernel)
noncomputable def C_keepCommon_28_29_28 : Nat × yC := (49, (2, [(2, 28, 28), (2, 29, 29), (2, 28, 28)], (9, 0, 0), [28], [], [], [], 0, []))
theorem T_keepCommon_28_29_28 {w0 : qW} : yCOK w0 zgf zga zra zSp zgh C_keepCommon_28_29_28.1 C_keepCommon_28_29_28.2 := yctr (bv := fun _ _ => none) (bb := fun _ => none) (ct := yctl []) (an := fun k pc => bif Nat.beq k 49 then (bif Nat.beq pc 2 then some ([none, none, none, some (0, 0, 3)], [28], [(3, (-1))]) else none) else none) (fk := fun k pc => none) (f := 100000) zgh0 (fun _ _ _ h => by cases h) (fun _ _ h => by cases h) zSp_ok (fun w hw => yctl_ok (P := fun t c => yCOK w zgf zga zra zSp zgh t c) ylnil) (by decide +kernel)
noncomputable def C_isSame : Nat × yC := (50, (2, [(2, 27, 27), (2, 28, 28)], (0, 0, 1), [], [], [], [], 0, []))
theorem T_isSame {w0 : qW} : yCOK w0 zgf zga zra zSp zgh C_isSame.1 C_isSame.2 := yctr (bv := fun _ _ => none) (bb := fun _ => none) (ct := yctl []) (an := fun k pc => bif Nat.beq k 50 then (bif Nat.beq pc 2 then some ([none, none, some (0, 0, 3)], [], [(2, (-1))]) else none) else none) (fk := fun k pc => none) (f := 100000) zgh0 (fun _ _ _ h => by cases h) (fun _ _ h => by cases h) zSp_ok (fun w hw => yctl_ok (P := fun t c => yCOK w zgf zga zra zSp zgh t c) ylnil) (by decide +kernel)
noncomputable def C_bitCountL : Nat × yC := (304, (0, [(1, (-9223372036854775808), 9223372036854775807)], (0, 0, 127), [], [], [], [], 0, []))
theorem T_bitCountL {w0 : qW} : yCOK w0 zgf zga zra zSp zgh C_bitCountL.1 C_bitCountL.2 := yctr (bv := fun _ _ => none) (bb := fun _ => none) (ct := yctl []) (an := fun k pc => none) (fk := fun k pc => none) (f := 100000) zgh0 (fun _ _ _ h => by cases h) (fun _ _ h => by cases h) zSp_ok (fun w hw => yctl_ok (P := fun t c => yCOK w zgf zga zra zSp zgh t c) ylnil) (by decide +kernel)
noncomputable def C_bitCountI : Nat × yC := (302, (0, [(0, (-2147483648), 2147483647)], (0, 0, 63), [], [], [], [], 0, []))
theorem T_bitCountI {w0 : qW} : yCOK w0 zgf zga zra zSp zgh C_bitCountI.1 C_bitCountI.2 := yctr (bv := fun _ _ => none) (bb := fun _ => none) (ct := yctl []) (an := fun k pc => none) (fk := fun k pc => none) (f := 100000) zgh0 (fun _ _ _ h => by cases h) (fun _ _ h => by cases h) zSp_ok (fun w hw => yctl_ok (P := fun t c => yCOK w zgf zga zra zSp zgh t c) ylnil) (by decide +kernel)
noncomputable def C_nTZI : Nat × yC := (301, (0, [(0, (-2147483648), 2147483647)], (0, 0, 32), [], [], [], [], 0, []))
theorem T_nTZI {w0 : qW} : yCOK w0 zgf zga zra zSp zgh C_nTZI.1 C_nTZI.2 := yctr (bv := fun _ _ => none) (bb := fun _ => none) (ct := yctl []) (an := fun k pc => none) (fk := fun k pc => none) (f := 100000) zgh0 (fun _ _ _ h => by cases h) (fun _ _ h => by cases h) zSp_ok (fun w hw => yctl_ok (P := fun t c => yCOK w zgf zga zra zSp zgh t c) ylnil) (by decide +kernel)
noncomputable def C_howMany_27 : Nat × yC := (52, (2, [(2, 27, 27)], (0, (-2147483648), 2147483647), [], [], [], [], 0, []))
theorem T_howMany_27 {w0 : qW} : yCOK w0 zgf zga zra zSp zgh C_howMany_27.1 C_howMany_27.2 := yctr (bv := fun _ _ => none) (bb := fun _ => none) (ct := yctl [C_bitCountL]) (an := fun k pc => bif Nat.beq k 52 then (bif Nat.beq pc 10 then some ([none, some (0, (-2147483648), 2147483647), none, none, some (0, 0, 3), some (1, (-9223372036854775808), 9223372036854775807), none], [], [(4, (-1))]) else none) else none) (fk := fun k pc => none) (f := 100000) zgh0 (fun _ _ _ h => by cases h) (fun _ _ h => by cases h) zSp_ok (fun w hw => yctl_ok (P := fun t c => yCOK w zgf zga zra zSp zgh t c) (ylcons (T_bitCountL : yCOK w zgf zga zra zSp zgh C_bitCountL.1 C_bitCountL.2) ylnil)) (by decide +kernel)
noncomputable def C_howMany_34 : Nat × yC := (52, (2, [(2, 34, 34)], (0, (-2147483648), 2147483647), [], [], [], [], 0, []))
theorem T_howMany_34 {w0 : qW} : yCOK w0 zgf zga zra zSp zgh C_howMany_34.1 C_howMany_34.2 := yctr (bv := fun _ _ => none) (bb := fun _ => none) (ct := yctl [C_bitCountL]) (an := fun k pc => bif Nat.beq k 52 then (bif Nat.beq pc 10 then some ([none, some (0, (-2147483648), 2147483647), none, none, some (0, 0, 3), some (1, (-9223372036854775808), 9223372036854775807), none], [], [(4, (-1))]) else none) else none) (fk := fun k pc => none) (f := 100000) zgh0 (fun _ _ _ h => by cases h) (fun _ _ h => by cases h) zSp_ok (fun w hw => yctl_ok (P := fun t c => yCOK w zgf zga zra zSp zgh t c) (ylcons (T_bitCountL : yCOK w zgf zga zra zSp zgh C_bitCountL.1 C_bitCountL.2) ylnil)) (by decide +kernel)
noncomputable def C_least : Nat × yC := (53, (4, [(2, 27, 27)], (0, (-1), 192), [], [], [], [], 0, []))
theorem T_least {w0 : qW} : yCOK w0 zgf zga zra zSp zgh C_least.1 C_least.2 := yctr (bv := fun _ _ => none) (bb := fun _ => none) (ct := yctl [C_nTZL]) (an := fun k pc => bif Nat.beq k 53 then (bif Nat.beq pc 2 then some ([none, some (0, 0, 3)], [], [(1, (-1))]) else none) else none) (fk := fun k pc => none) (f := 100000) zgh0 (fun _ _ _ h => by cases h) (fun _ _ h => by cases h) zSp_ok (fun w hw => yctl_ok (P := fun t c => yCOK w zgf zga zra zSp zgh t c) (ylcons (T_nTZL : yCOK w zgf zga zra zSp zgh C_nTZL.1 C_nTZL.2) ylnil)) (by decide +kernel)
noncomputable def C_findUnseen_27 : Nat × yC := (103, (2, [(2, 24, 24), (0, 0, 65535), (2, 27, 27)], (9, 0, 0), [27], [], [], [], 0, []))
theorem T_findUnseen_27 {w0 : qW} : yCOK w0 zgf zga zra zSp zgh C_findUnseen_27.1 C_findUnseen_27.2 := yctr (bv := fun _ _ => none) (bb := fun _ => none) (ct := yctl []) (an := fun k pc => bif Nat.beq k 103 then (bif Nat.beq pc 9 then some ([none, none, none, some (0, 0, 2147483647), some (0, 0, 2)], [27], [(3, (-1))]) else none) else none) (fk := fun k pc => none) (f := 100000) zgh0 (fun _ _ _ h => by cases h) (fun _ _ h => by cases h) zSp_ok (fun w hw => yctl_ok (P := fun t c => yCOK w zgf zga zra zSp zgh t c) ylnil) (by decide +kernel)
noncomputable def C_findUnseen_29 : Nat × yC := (103, (2, [(2, 24, 24), (0, 0, 65535), (2, 29, 29)], (9, 0, 0), [29], [], [], [], 0, []))
theorem T_findUnseen_29 {w0 : qW} : yCOK w0 zgf zga zra zSp zgh C_findUnseen_29.1 C_findUnseen_29.2 := yctr (bv := fun _ _ => none) (bb := fun _ => none) (ct := yctl []) (an := fun k pc => bif Nat.beq k 103 then (bif Nat.beq pc 9 then some ([none, none, none, some (0, 0, 2147483647), some (0, 0, 2)], [29], [(3, (-1))]) else none) else none) (fk := fun k pc => none) (f := 100000) zgh0 (fun _ _ _ h => by cases h) (fun _ _ h => by cases h) zSp_ok (fun w hw => yctl_ok (P := fun t c => yCOK w zgf zga zra zSp zgh t c) ylnil) (by decide +kernel)
noncomputable def C_findUnseen_34 : Nat × yC := (103, (2, [(2, 24, 24), (0, 0, 65535), (2, 34, 34)], (9, 0, 0), [34], [], [], [], 0, []))
theorem T_findUnseen_34 {w0 : qW} : yCOK w0 zgf zga zra zSp zgh C_findUnseen_34.1 C_findUnseen_34.2 := yctr (bv := fun _ _ => none) (bb := fun _ => none) (ct := yctl []) (an := fun k pc => bif Nat.beq k 103 then (bif Nat.beq pc 9 then some ([none, none, none, some (0, 0, 2147483647), some (0, 0, 2)], [34], [(3, (-1))]) else none) else none) (fk := fun k pc => none) (f := 100000) zgh0 (fun _ _ _ h => by cases h) (fun _ _ h => by cases h) zSp_ok (fun w hw => yctl_ok (P := fun t c => yCOK w zgf zga zra zSp zgh t c) ylnil) (by decide +kernel)
noncomputable def C_spreadOne : Nat × yC := (102, (3, [(2, 24, 24), (0, 0, 192), (2, 28, 28)], (9, 0, 0), [28], [], [], [], 0, []))
theorem T_spreadOne {w0 : qW} : yCOK w0 zgf zga zra zSp zgh C_spreadOne.1 C_spreadOne.2 := yctr (bv := fun _ _ => none) (bb := fun _ => none) (ct := yctl []) (an := fun k pc => none) (fk := fun k pc => none) (f := 100000) zgh0 (fun _ _ _ h => by cases h) (fun _ _ h => by cases h) zSp_ok (fun w hw => yctl_ok (P := fun t c => yCOK w zgf zga zra zSp zgh t c) ylnil) (by decide +kernel)
noncomputable def C_areAllSeen : Nat × yC := (104, (1, [(2, 24, 24), (0, 0, 65535)], (0, 0, 1), [], [], [], [], 0, []))
theorem T_areAllSeen {w0 : qW} : yCOK w0 zgf zga zra zSp zgh C_areAllSeen.1 C_areAllSeen.2 := yctr (bv := fun _ _ => none) (bb := fun _ => none) (ct := yctl []) (an := fun k pc => bif Nat.beq k 104 then (bif Nat.beq pc 2 then some ([none, none, some (0, 0, 2147483647)], [], [(2, (-1))]) else none) else none) (fk := fun k pc => none) (f := 100000) zgh0 (fun _ _ _ h => by cases h) (fun _ _ h => by cases h) zSp_ok (fun w hw => yctl_ok (P := fun t c => yCOK w zgf zga zra zSp zgh t c) ylnil) (by decide +kernel)
noncomputable def C_nextTo_64 : Nat × yC := (28, (1, [(2, 64, 64), (0, 0, 65535)], (0, 0, 65535), [], [], [], [], 0, []))
theorem T_nextTo_64 {w0 : qW} : yCOK w0 zgf zga zra zSp zgh C_nextTo_64.1 C_nextTo_64.2 := yctr (bv := fun _ _ => none) (bb := fun _ => none) (ct := yctl []) (an := fun k pc => bif Nat.beq k 28 then (bif Nat.beq pc 4 then some ([none, none, some (0, 0, 65535), some (0, 0, 2147483647)], [], [(3, (-1))]) else none) else none) (fk := fun k pc => none) (f := 100000) zgh0 (fun _ _ _ h => by cases h) (fun _ _ h => by cases h) zSp_ok (fun w hw => yctl_ok (P := fun t c => yCOK w zgf zga zra zSp zgh t c) ylnil) (by decide +kernel)
noncomputable def C_hangs_64 : Nat × yC := (29, (3, [(2, 64, 64), (0, 0, 65535)], (0, 0, 1), [], [], [], [], 0, []))
theorem T_hangs_64 {w0 : qW} : yCOK w0 zgf zga zra zSp zgh C_hangs_64.1 C_hangs_64.2 := yctr (bv := fun _ _ => none) (bb := fun _ => none) (ct := yctl [C_nextTo_64]) (an := fun k pc => bif Nat.beq k 29 then (bif Nat.beq pc 7 then some ([none, none, some (0, 0, 65535), some (0, 1, 4)], [], [(3, (-1))]) else none) else none) (fk := fun k pc => none) (f := 100000) zgh0 (fun _ _ _ h => by cases h) (fun _ _ h => by cases h) zSp_ok (fun w hw => yctl_ok (P := fun t c => yCOK w zgf zga zra zSp zgh t c) (ylcons (T_nextTo_64 : yCOK w zgf zga zra zSp zgh C_nextTo_64.1 C_nextTo_64.2) ylnil)) (by decide +kernel)
noncomputable def C_shownBy_64 : Nat × yC := (27, (1, [(2, 64, 64), (0, (-2147483648), 2147483647), (0, 0, 1)], (0, 0, 65535), [], [], [], [], 0, []))
theorem T_shownBy_64 {w0 : qW} : yCOK w0 zgf zga zra zSp zgh C_shownBy_64.1 C_shownBy_64.2 := yctr (bv := fun _ _ => none) (bb := fun _ => none) (ct := yctl []) (an := fun k pc => none) (fk := fun k pc => none) (f := 100000) zgh0 (fun _ _ _ h => by cases h) (fun _ _ h => by cases h) zSp_ok (fun w hw => yctl_ok (P := fun t c => yCOK w zgf zga zra zSp zgh t c) ylnil) (by decide +kernel)
noncomputable def C_findSets_64 : Nat × yC := (95, (6, [(2, 24, 24), (2, 64, 64)], (9, 0, 0), [25, 4024], [], [], [], 0, []))
theorem T_findSets_64 {w0 : qW} : yCOK w0 zgf zga zra zSp zgh C_findSets_64.1 C_findSets_64.2 := yctr (bv := fun _ _ => none) (bb := fun _ => none) (ct := yctl [C_nTZI, C_hangs_64]) (an := fun k pc => bif Nat.beq k 95 then (bif Nat.beq pc 22 then some ([none, none, none, some (0, (-2147483648), 2147483647), some (0, 0, 2147483647)], [25, 4024], [(4, (-1))]) else none) else none) (fk := fun k pc => none) (f := 100000) zgh0 (fun _ _ _ h => by cases h) (fun _ _ h => by cases h) zSp_ok (fun w hw => yctl_ok (P := fun t c => yCOK w zgf zga zra zSp zgh t c) (ylcons (T_nTZI : yCOK w zgf zga zra zSp zgh C_nTZI.1 C_nTZI.2) (ylcons (T_hangs_64 : yCOK w zgf zga zra zSp zgh C_hangs_64.1 C_hangs_64.2) ylnil))) (by decide +kernel)
noncomputable def C_findMoves_64 : Nat × yC := (97, (6, [(2, 24, 24), (2, 64, 64)], (9, 0, 0), [26], [], [], [], 0, []))
theorem T_findMoves_64 {w0 : qW} : yCOK w0 zgf zga zra zSp zgh C_findMoves_64.1 C_findMoves_64.2 := yctr (bv := fun _ _ => none) (bb := fun _ => none) (ct := yctl [C_nextTo_64, C_bitCountI]) (an := fun k pc => bif Nat.beq k 97 then (bif Nat.beq pc 2 then some ([none, none, some (0, 0, 2147483647), none, none], [26], [(2, (-1))]) else bif Nat.beq pc 26 then some ([none, none, some (0, 0, 2147483647), some (0, 0, 65535), some (0, 1, 2147483647)], [], [(2, (-1))]) else bif Nat.beq pc 55 then some ([none, none, none, none, some (0, 0, 2147483647)], [], [(4, (-1))]) else none) else none) (fk := fun k pc => none) (f := 100000) zgh0 (fun _ _ _ h => by cases h) (fun _ _ h => by cases h) zSp_ok (fun w hw => yctl_ok (P := fun t c => yCOK w zgf zga zra zSp zgh t c) (ylcons (T_nextTo_64 : yCOK w zgf zga zra zSp zgh C_nextTo_64.1 C_nextTo_64.2) (ylcons (T_bitCountI : yCOK w zgf zga zra zSp zgh C_bitCountI.1 C_bitCountI.2) ylnil))) (by decide +kernel)
noncomputable def C_findFor_64 : Nat × yC := (94, (7, [(2, 24, 24), (2, 64, 64), (0, 1, 4)], (9, 0, 0), [25, 26, 1024, 2024, 3024, 4024], [], [], [], 0, []))
theorem T_findFor_64 {w0 : qW} : yCOK w0 zgf zga zra zSp zgh C_findFor_64.1 C_findFor_64.2 := yctr (bv := fun _ _ => none) (bb := fun _ => none) (ct := yctl [C_findSets_64, C_findMoves_64]) (an := fun k pc => none) (fk := fun k pc => none) (f := 100000) zgh0 (fun _ _ _ h => by cases h) (fun _ _ h => by cases h) zSp_ok (fun w hw => yctl_ok (P := fun t c => yCOK w zgf zga zra zSp zgh t c) (ylcons (T_findSets_64 : yCOK w zgf zga zra zSp zgh C_findSets_64.1 C_findSets_64.2) (ylcons (T_findMoves_64 : yCOK w zgf zga zra zSp zgh C_findMoves_64.1 C_findMoves_64.2) ylnil))) (by decide +kernel)
noncomputable def C_nextTo_69 : Nat × yC := (28, (1, [(2, 69, 69), (0, 0, 65535)], (0, 0, 65535), [], [], [], [], 0, []))
theorem T_nextTo_69 {w0 : qW} : yCOK w0 zgf zga zra zSp zgh C_nextTo_69.1 C_nextTo_69.2 := yctr (bv := fun _ _ => none) (bb := fun _ => none) (ct := yctl []) (an := fun k pc => bif Nat.beq k 28 then (bif Nat.beq pc 4 then some ([none, none, some (0, 0, 65535), some (0, 0, 2147483647)], [], [(3, (-1))]) else none) else none) (fk := fun k pc => none) (f := 100000) zgh0 (fun _ _ _ h => by cases h) (fun _ _ h => by cases h) zSp_ok (fun w hw => yctl_ok (P := fun t c => yCOK w zgf zga zra zSp zgh t c) ylnil) (by decide +kernel)
noncomputable def C_hangs_69 : Nat × yC := (29, (3, [(2, 69, 69), (0, 0, 65535)], (0, 0, 1), [], [], [], [], 0, []))
theorem T_hangs_69 {w0 : qW} : yCOK w0 zgf zga zra zSp zgh C_hangs_69.1 C_hangs_69.2 := yctr (bv := fun _ _ => none) (bb := fun _ => none) (ct := yctl [C_nextTo_69]) (an := fun k pc => bif Nat.beq k 29 then (bif Nat.beq pc 7 then some ([none, none, some (0, 0, 65535), some (0, 1, 4)], [], [(3, (-1))]) else none) else none) (fk := fun k pc => none) (f := 100000) zgh0 (fun _ _ _ h => by cases h) (fun _ _ h => by cases h) zSp_ok (fun w hw => yctl_ok (P := fun t c => yCOK w zgf zga zra zSp zgh t c) (ylcons (T_nextTo_69 : yCOK w zgf zga zra zSp zgh C_nextTo_69.1 C_nextTo_69.2) ylnil)) (by decide +kernel)
noncomputable def C_shownBy_69 : Nat × yC := (27, (1, [(2, 69, 69), (0, (-2147483648), 2147483647), (0, 0, 1)], (0, 0, 65535), [], [], [], [], 0, []))
theorem T_shownBy_69 {w0 : qW} : yCOK w0 zgf zga zra zSp zgh C_shownBy_69.1 C_shownBy_69.2 := yctr (bv := fun _ _ => none) (bb := fun _ => none) (ct := yctl []) (an := fun k pc => none) (fk := fun k pc => none) (f := 100000) zgh0 (fun _ _ _ h => by cases h) (fun _ _ h => by cases h) zSp_ok (fun w hw => yctl_ok (P := fun t c => yCOK w zgf zga zra zSp zgh t c) ylnil) (by decide +kernel)
noncomputable def C_findSets_69 : Nat × yC := (95, (6, [(2, 24, 24), (2, 69, 69)], (9, 0, 0), [25, 4024], [], [], [], 0, []))
theorem T_findSets_69 {w0 : qW} : yCOK w0 zgf zga zra zSp zgh C_findSets_69.1 C_findSets_69.2 := yctr (bv := fun _ _ => none) (bb := fun _ => none) (ct := yctl [C_nTZI, C_hangs_69]) (an := fun k pc => bif Nat.beq k 95 then (bif Nat.beq pc 22 then some ([none, none, none, some (0, (-2147483648), 2147483647), some (0, 0, 2147483647)], [25, 4024], [(4, (-1))]) else none) else none) (fk := fun k pc => none) (f := 100000) zgh0 (fun _ _ _ h => by cases h) (fun _ _ h => by cases h) zSp_ok (fun w hw => yctl_ok (P := fun t c => yCOK w zgf zga zra zSp zgh t c) (ylcons (T_nTZI : yCOK w zgf zga zra zSp zgh C_nTZI.1 C_nTZI.2) (ylcons (T_hangs_69 : yCOK w zgf zga zra zSp zgh C_hangs_69.1 C_hangs_69.2) ylnil))) (by decide +kernel)
noncomputable def C_findMoves_69 : Nat × yC := (97, (6, [(2, 24, 24), (2, 69, 69)], (9, 0, 0), [26], [], [], [], 0, []))
theorem T_findMoves_69 {w0 : qW} : yCOK w0 zgf zga zra zSp zgh C_findMoves_69.1 C_findMoves_69.2 := yctr (bv := fun _ _ => none) (bb := fun _ => none) (ct := yctl [C_nextTo_69, C_bitCountI]) (an := fun k pc => bif Nat.beq k 97 then (bif Nat.beq pc 2 then some ([none, none, some (0, 0, 2147483647), none, none], [26], [(2, (-1))]) else bif Nat.beq pc 26 then some ([none, none, some (0, 0, 2147483647), some (0, 0, 65535), some (0, 1, 2147483647)], [], [(2, (-1))]) else bif Nat.beq pc 55 then some ([none, none, none, none, some (0, 0, 2147483647)], [], [(4, (-1))]) else none) else none) (fk := fun k pc => none) (f := 100000) zgh0 (fun _ _ _ h => by cases h) (fun _ _ h => by cases h) zSp_ok (fun w hw => yctl_ok (P := fun t c => yCOK w zgf zga zra zSp zgh t c) (ylcons (T_nextTo_69 : yCOK w zgf zga zra zSp zgh C_nextTo_69.1 C_nextTo_69.2) (ylcons (T_bitCountI : yCOK w zgf zga zra zSp zgh C_bitCountI.1 C_bitCountI.2) ylnil))) (by decide +kernel)
noncomputable def C_findFor_69 : Nat × yC := (94, (7, [(2, 24, 24), (2, 69, 69), (0, 1, 4)], (9, 0, 0), [25, 26, 1024, 2024, 3024, 4024], [], [], [], 0, []))
theorem T_findFor_69 {w0 : qW} : yCOK w0 zgf zga zra zSp zgh C_findFor_69.1 C_findFor_69.2 := yctr (bv := fun _ _ => none) (bb := fun _ => none) (ct := yctl [C_findSets_69, C_findMoves_69]) (an := fun k pc => none) (fk := fun k pc => none) (f := 100000) zgh0 (fun _ _ _ h => by cases h) (fun _ _ h => by cases h) zSp_ok (fun w hw => yctl_ok (P := fun t c => yCOK w zgf zga zra zSp zgh t c) (ylcons (T_findSets_69 : yCOK w zgf zga zra zSp zgh C_findSets_69.1 C_findSets_69.2) (ylcons (T_findMoves_69 : yCOK w zgf zga zra zSp zgh C_findMoves_69.1 C_findMoves_69.2) ylnil))) (by decide +kernel)
noncomputable def C_nextTo_74 : Nat × yC := (28, (1, [(2, 74, 74), (0, 0, 65535)], (0, 0, 65535), [], [], [], [], 0, []))
theorem T_nextTo_74 {w0 : qW} : yCOK w0 zgf zga zra zSp zgh C_nextTo_74.1 C_nextTo_74.2 := yctr (bv := fun _ _ => none) (bb := fun _ => none) (ct := yctl []) (an := fun k pc => bif Nat.beq k 28 then (bif Nat.beq pc 4 then some ([none, none, some (0, 0, 65535), some (0, 0, 2147483647)], [], [(3, (-1))]) else none) else none) (fk := fun k pc => none) (f := 100000) zgh0 (fun _ _ _ h => by cases h) (fun _ _ h => by cases h) zSp_ok (fun w hw => yctl_ok (P := fun t c => yCOK w zgf zga zra zSp zgh t c) ylnil) (by decide +kernel)
noncomputable def C_hangs_74 : Nat × yC := (29, (3, [(2, 74, 74), (0, 0, 65535)], (0, 0, 1), [], [], [], [], 0, []))
theorem T_hangs_74 {w0 : qW} : yCOK w0 zgf zga zra zSp zgh C_hangs_74.1 C_hangs_74.2 := yctr (bv := fun _ _ => none) (bb := fun _ => none) (ct := yctl [C_nextTo_74]) (an := fun k pc => bif Nat.beq k 29 then (bif Nat.beq pc 7 then some ([none, none, some (0, 0, 65535), some (0, 1, 4)], [], [(3, (-1))]) else none) else none) (fk := fun k pc => none) (f := 100000) zgh0 (fun _ _ _ h => by cases h) (fun _ _ h => by cases h) zSp_ok (fun w hw => yctl_ok (P := fun t c => yCOK w zgf zga zra zSp zgh t c) (ylcons (T_nextTo_74 : yCOK w zgf zga zra zSp zgh C_nextTo_74.1 C_nextTo_74.2) ylnil)) (by decide +kernel)
noncomputable def C_shownBy_74 : Nat × yC := (27, (1, [(2, 74, 74), (0, (-2147483648), 2147483647), (0, 0, 1)], (0, 0, 65535), [], [], [], [], 0, []))
theorem T_shownBy_74 {w0 : qW} : yCOK w0 zgf zga zra zSp zgh C_shownBy_74.1 C_shownBy_74.2 := yctr (bv := fun _ _ => none) (bb := fun _ => none) (ct := yctl []) (an := fun k pc => none) (fk := fun k pc => none) (f := 100000) zgh0 (fun _ _ _ h => by cases h) (fun _ _ h => by cases h) zSp_ok (fun w hw => yctl_ok (P := fun t c => yCOK w zgf zga zra zSp zgh t c) ylnil) (by decide +kernel)
noncomputable def C_findSets_74 : Nat × yC := (95, (6, [(2, 24, 24), (2, 74, 74)], (9, 0, 0), [25, 4024], [], [], [], 0, []))
theorem T_findSets_74 {w0 : qW} : yCOK w0 zgf zga zra zSp zgh C_findSets_74.1 C_findSets_74.2 := yctr (bv := fun _ _ => none) (bb := fun _ => none) (ct := yctl [C_nTZI, C_hangs_74]) (an := fun k pc => bif Nat.beq k 95 then (bif Nat.beq pc 22 then some ([none, none, none, some (0, (-2147483648), 2147483647), some (0, 0, 2147483647)], [25, 4024], [(4, (-1))]) else none) else none) (fk := fun k pc => none) (f := 100000) zgh0 (fun _ _ _ h => by cases h) (fun _ _ h => by cases h) zSp_ok (fun w hw => yctl_ok (P := fun t c => yCOK w zgf zga zra zSp zgh t c) (ylcons (T_nTZI : yCOK w zgf zga zra zSp zgh C_nTZI.1 C_nTZI.2) (ylcons (T_hangs_74 : yCOK w zgf zga zra zSp zgh C_hangs_74.1 C_hangs_74.2) ylnil))) (by decide +kernel)
noncomputable def C_findMoves_74 : Nat × yC := (97, (6, [(2, 24, 24), (2, 74, 74)], (9, 0, 0), [26], [], [], [], 0, []))
theorem T_findMoves_74 {w0 : qW} : yCOK w0 zgf zga zra zSp zgh C_findMoves_74.1 C_findMoves_74.2 := yctr (bv := fun _ _ => none) (bb := fun _ => none) (ct := yctl [C_nextTo_74, C_bitCountI]) (an := fun k pc => bif Nat.beq k 97 then (bif Nat.beq pc 2 then some ([none, none, some (0, 0, 2147483647), none, none], [26], [(2, (-1))]) else bif Nat.beq pc 26 then some ([none, none, some (0, 0, 2147483647), some (0, 0, 65535), some (0, 1, 2147483647)], [], [(2, (-1))]) else bif Nat.beq pc 55 then some ([none, none, none, none, some (0, 0, 2147483647)], [], [(4, (-1))]) else none) else none) (fk := fun k pc => none) (f := 100000) zgh0 (fun _ _ _ h => by cases h) (fun _ _ h => by cases h) zSp_ok (fun w hw => yctl_ok (P := fun t c => yCOK w zgf zga zra zSp zgh t c) (ylcons (T_nextTo_74 : yCOK w zgf zga zra zSp zgh C_nextTo_74.1 C_nextTo_74.2) (ylcons (T_bitCountI : yCOK w zgf zga zra zSp zgh C_bitCountI.1 C_bitCountI.2) ylnil))) (by decide +kernel)
noncomputable def C_findFor_74 : Nat × yC := (94, (7, [(2, 24, 24), (2, 74, 74), (0, 1, 4)], (9, 0, 0), [25, 26, 1024, 2024, 3024, 4024], [], [], [], 0, []))
theorem T_findFor_74 {w0 : qW} : yCOK w0 zgf zga zra zSp zgh C_findFor_74.1 C_findFor_74.2 := yctr (bv := fun _ _ => none) (bb := fun _ => none) (ct := yctl [C_findSets_74, C_findMoves_74]) (an := fun k pc => none) (fk := fun k pc => none) (f := 100000) zgh0 (fun _ _ _ h => by cases h) (fun _ _ h => by cases h) zSp_ok (fun w hw => yctl_ok (P := fun t c => yCOK w zgf zga zra zSp zgh t c) (ylcons (T_findSets_74 : yCOK w zgf zga zra zSp zgh C_findSets_74.1 C_findSets_74.2) (ylcons (T_findMoves_74 : yCOK w zgf zga zra zSp zgh C_findMoves_74.1 C_findMoves_74.2) ylnil))) (by decide +kernel)
noncomputable def C_stayUnseen : Nat × yC := (36, (8, [(2, 23, 23), (0, (-2147483648), 2147483647)], (0, (-2147483648), 2147483647), [27, 28], [], [], [], 0, []))
theorem T_stayUnseen {w0 : qW} : yCOK w0 zgf zga zra zSp zgh C_stayUnseen.1 C_stayUnseen.2 := yctr (bv := fun _ _ => none) (bb := fun _ => none) (ct := yctl [C_spread_27_28, C_keepCommon_28_29_28, C_isSame, C_keepCommon_28_29_27, C_howMany_27]) (an := fun k pc => bif Nat.beq k 36 then (bif Nat.beq pc 2 then some ([none, none, some (0, 0, 2147483647)], [27, 28], [(2, (-1))]) else none) else none) (fk := fun k pc => none) (f := 100000) zgh0 (fun _ _ _ h => by cases h) (fun _ _ h => by cases h) zSp_ok (fun w hw => yctl_ok (P := fun t c => yCOK w zgf zga zra zSp zgh t c) (ylcons (T_spread_27_28 : yCOK w zgf zga zra zSp zgh C_spread_27_28.1 C_spread_27_28.2) (ylcons (T_keepCommon_28_29_28 : yCOK w zgf zga zra zSp zgh C_keepCommon_28_29_28.1 C_keepCommon_28_29_28.2) (ylcons (T_isSame : yCOK w zgf zga zra zSp zgh C_isSame.1 C_isSame.2) (ylcons (T_keepCommon_28_29_27 : yCOK w zgf zga zra zSp zgh C_keepCommon_28_29_27.1 C_keepCommon_28_29_27.2) (ylcons (T_howMany_27 : yCOK w zgf zga zra zSp zgh C_howMany_27.1 C_howMany_27.2) ylnil)))))) (by decide +kernel)
end
