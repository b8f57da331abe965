/-! TYPED MEMORY: behind the law's start the world is 209 cells of fixed kinds; what they hold is I (ints), J (longs), and the four references of SwapAssize that change (rf 2 told, rf 3 draft, rf 4 lines, rf 5 draftLines); behind them g cells of thrown objects -/
def kshp (a : Nat) : Option (Nat ⊕ (Nat × Nat)) := bif Nat.blt a 209 then (bif Nat.blt a 104 then (bif Nat.blt a 52 then (bif Nat.blt a 26 then (bif Nat.blt a 13 then (bif Nat.blt a 6 then (bif Nat.blt a 3 then (bif Nat.blt a 1 then (bif Nat.beq a 0 then some (.inl 11) else none) else (bif Nat.blt a 2 then (bif Nat.beq a 1 then some (.inl 2) else none) else (bif Nat.beq a 2 then some (.inr (2, 1000)) else none))) else (bif Nat.blt a 4 then (bif Nat.beq a 3 then some (.inl 5) else none) else (bif Nat.blt a 5 then (bif Nat.beq a 4 then some (.inl 1) else none) else (bif Nat.beq a 5 then some (.inl 6) else none)))) else (bif Nat.blt a 9 then (bif Nat.blt a 7 then (bif Nat.beq a 6 then some (.inr (1, 7)) else none) else (bif Nat.blt a 8 then (bif Nat.beq a 7 then some (.inr (1, 7)) else none) else (bif Nat.beq a 8 then some (.inr (0, 7)) else none))) else (bif Nat.blt a 11 then (bif Nat.blt a 10 then (bif Nat.beq a 9 then some (.inr (0, 7)) else none) else (bif Nat.beq a 10 then some (.inl 0) else none)) else (bif Nat.blt a 12 then (bif Nat.beq a 11 then some (.inr (0, 1000)) else none) else (bif Nat.beq a 12 then some (.inr (0, 32)) else none))))) else (bif Nat.blt a 19 then (bif Nat.blt a 16 then (bif Nat.blt a 14 then (bif Nat.beq a 13 then some (.inl 9) else none) else (bif Nat.blt a 15 then (bif Nat.beq a 14 then some (.inr (0, 7)) else none) else (bif Nat.beq a 15 then some (.inr (0, 7)) else none))) else (bif Nat.blt a 17 then (bif Nat.beq a 16 then some (.inr (0, 7)) else none) else (bif Nat.blt a 18 then (bif Nat.beq a 17 then some (.inr (0, 7)) else none) else (bif Nat.beq a 18 then some (.inl 6) else none)))) else (bif Nat.blt a 22 then (bif Nat.blt a 20 then (bif Nat.beq a 19 then some (.inr (1, 7)) else none) else (bif Nat.blt a 21 then (bif Nat.beq a 20 then some (.inr (1, 7)) else none) else (bif Nat.beq a 21 then some (.inr (0, 7)) else none))) else (bif Nat.blt a 24 then (bif Nat.blt a 23 then (bif Nat.beq a 22 then some (.inr (0, 7)) else none) else (bif Nat.beq a 23 then some (.inl 0) else none)) else (bif Nat.blt a 25 then (bif Nat.beq a 24 then some (.inr (0, 1000)) else none) else (bif Nat.beq a 25 then some (.inr (0, 32)) else none)))))) else (bif Nat.blt a 39 then (bif Nat.blt a 32 then (bif Nat.blt a 29 then (bif Nat.blt a 27 then (bif Nat.beq a 26 then some (.inl 9) else none) else (bif Nat.blt a 28 then (bif Nat.beq a 27 then some (.inr (0, 7)) else none) else (bif Nat.beq a 28 then some (.inr (0, 7)) else none))) else (bif Nat.blt a 30 then (bif Nat.beq a 29 then some (.inr (0, 7)) else none) else (bif Nat.blt a 31 then (bif Nat.beq a 30 then some (.inr (0, 7)) else none) else (bif Nat.beq a 31 then some (.inl 10) else none)))) else (bif Nat.blt a 35 then (bif Nat.blt a 33 then (bif Nat.beq a 32 then some (.inr (0, 40)) else none) else (bif Nat.blt a 34 then (bif Nat.beq a 33 then some (.inr (0, 40)) else none) else (bif Nat.beq a 34 then some (.inr (0, 40)) else none))) else (bif Nat.blt a 37 then (bif Nat.blt a 36 then (bif Nat.beq a 35 then some (.inl 10) else none) else (bif Nat.beq a 36 then some (.inr (0, 40)) else none)) else (bif Nat.blt a 38 then (bif Nat.beq a 37 then some (.inr (0, 40)) else none) else (bif Nat.beq a 38 then some (.inr (0, 40)) else none))))) else (bif Nat.blt a 45 then (bif Nat.blt a 42 then (bif Nat.blt a 40 then (bif Nat.beq a 39 then some (.inl 9) else none) else (bif Nat.blt a 41 then (bif Nat.beq a 40 then some (.inr (0, 7)) else none) else (bif Nat.beq a 41 then some (.inr (0, 7)) else none))) else (bif Nat.blt a 43 then (bif Nat.beq a 42 then some (.inr (0, 7)) else none) else (bif Nat.blt a 44 then (bif Nat.beq a 43 then some (.inr (0, 7)) else none) else (bif Nat.beq a 44 then some (.inl 9) else none)))) else (bif Nat.blt a 48 then (bif Nat.blt a 46 then (bif Nat.beq a 45 then some (.inr (0, 7)) else none) else (bif Nat.blt a 47 then (bif Nat.beq a 46 then some (.inr (0, 7)) else none) else (bif Nat.beq a 47 then some (.inr (0, 7)) else none))) else (bif Nat.blt a 50 then (bif Nat.blt a 49 then (bif Nat.beq a 48 then some (.inr (0, 7)) else none) else (bif Nat.beq a 49 then some (.inl 9) else none)) else (bif Nat.blt a 51 then (bif Nat.beq a 50 then some (.inr (0, 7)) else none) else (bif Nat.beq a 51 then some (.inr (0, 7)) else none))))))) else (bif Nat.blt a 78 then (bif Nat.blt a 65 then (bif Nat.blt a 58 then (bif Nat.blt a 55 then (bif Nat.blt a 53 then (bif Nat.beq a 52 then some (.inr (0, 7)) else none) else (bif Nat.blt a 54 then (bif Nat.beq a 53 then some (.inr (0, 7)) else none) else (bif Nat.beq a 54 then some (.inl 8) else none))) else (bif Nat.blt a 56 then (bif Nat.beq a 55 then some (.inr (0, 7)) else none) else (bif Nat.blt a 57 then (bif Nat.beq a 56 then some (.inr (0, 7)) else none) else (bif Nat.beq a 57 then some (.inr (0, 7)) else none)))) else (bif Nat.blt a 61 then (bif Nat.blt a 59 then (bif Nat.beq a 58 then some (.inr (0, 7)) else none) else (bif Nat.blt a 60 then (bif Nat.beq a 59 then some (.inr (3, 7)) else none) else (bif Nat.beq a 60 then some (.inr (0, 7)) else none))) else (bif Nat.blt a 63 then (bif Nat.blt a 62 then (bif Nat.beq a 61 then some (.inr (0, 128)) else none) else (bif Nat.beq a 62 then some (.inl 4) else none)) else (bif Nat.blt a 64 then (bif Nat.beq a 63 then some (.inr (0, 4096)) else none) else (bif Nat.beq a 64 then some (.inr (0, 56)) else none))))) else (bif Nat.blt a 71 then (bif Nat.blt a 68 then (bif Nat.blt a 66 then (bif Nat.beq a 65 then some (.inl 3) else none) else (bif Nat.blt a 67 then (bif Nat.beq a 66 then some (.inr (4, 16)) else none) else (bif Nat.beq a 67 then some (.inl 9) else none))) else (bif Nat.blt a 69 then (bif Nat.beq a 68 then some (.inr (0, 7)) else none) else (bif Nat.blt a 70 then (bif Nat.beq a 69 then some (.inr (0, 7)) else none) else (bif Nat.beq a 70 then some (.inr (0, 7)) else none)))) else (bif Nat.blt a 74 then (bif Nat.blt a 72 then (bif Nat.beq a 71 then some (.inr (0, 7)) else none) else (bif Nat.blt a 73 then (bif Nat.beq a 72 then some (.inl 9) else none) else (bif Nat.beq a 73 then some (.inr (0, 7)) else none))) else (bif Nat.blt a 76 then (bif Nat.blt a 75 then (bif Nat.beq a 74 then some (.inr (0, 7)) else none) else (bif Nat.beq a 75 then some (.inr (0, 7)) else none)) else (bif Nat.blt a 77 then (bif Nat.beq a 76 then some (.inr (0, 7)) else none) else (bif Nat.beq a 77 then some (.inl 9) else none)))))) else (bif Nat.blt a 91 then (bif Nat.blt a 84 then (bif Nat.blt a 81 then (bif Nat.blt a 79 then (bif Nat.beq a 78 then some (.inr (0, 7)) else none) else (bif Nat.blt a 80 then (bif Nat.beq a 79 then some (.inr (0, 7)) else none) else (bif Nat.beq a 80 then some (.inr (0, 7)) else none))) else (bif Nat.blt a 82 then (bif Nat.beq a 81 then some (.inr (0, 7)) else none) else (bif Nat.blt a 83 then (bif Nat.beq a 82 then some (.inl 9) else none) else (bif Nat.beq a 83 then some (.inr (0, 7)) else none)))) else (bif Nat.blt a 87 then (bif Nat.blt a 85 then (bif Nat.beq a 84 then some (.inr (0, 7)) else none) else (bif Nat.blt a 86 then (bif Nat.beq a 85 then some (.inr (0, 7)) else none) else (bif Nat.beq a 86 then some (.inr (0, 7)) else none))) else (bif Nat.blt a 89 then (bif Nat.blt a 88 then (bif Nat.beq a 87 then some (.inl 9) else none) else (bif Nat.beq a 88 then some (.inr (0, 7)) else none)) else (bif Nat.blt a 90 then (bif Nat.beq a 89 then some (.inr (0, 7)) else none) else (bif Nat.beq a 90 then some (.inr (0, 7)) else none))))) else (bif Nat.blt a 97 then (bif Nat.blt a 94 then (bif Nat.blt a 92 then (bif Nat.beq a 91 then some (.inr (0, 7)) else none) else (bif Nat.blt a 93 then (bif Nat.beq a 92 then some (.inl 9) else none) else (bif Nat.beq a 93 then some (.inr (0, 7)) else none))) else (bif Nat.blt a 95 then (bif Nat.beq a 94 then some (.inr (0, 7)) else none) else (bif Nat.blt a 96 then (bif Nat.beq a 95 then some (.inr (0, 7)) else none) else (bif Nat.beq a 96 then some (.inr (0, 7)) else none)))) else (bif Nat.blt a 100 then (bif Nat.blt a 98 then (bif Nat.beq a 97 then some (.inl 9) else none) else (bif Nat.blt a 99 then (bif Nat.beq a 98 then some (.inr (0, 7)) else none) else (bif Nat.beq a 99 then some (.inr (0, 7)) else none))) else (bif Nat.blt a 102 then (bif Nat.blt a 101 then (bif Nat.beq a 100 then some (.inr (0, 7)) else none) else (bif Nat.beq a 101 then some (.inr (0, 7)) else none)) else (bif Nat.blt a 103 then (bif Nat.beq a 102 then some (.inl 9) else none) else (bif Nat.beq a 103 then some (.inr (0, 7)) else none)))))))) else (bif Nat.blt a 156 then (bif Nat.blt a 130 then (bif Nat.blt a 117 then (bif Nat.blt a 110 then (bif Nat.blt a 107 then (bif Nat.blt a 105 then (bif Nat.beq a 104 then some (.inr (0, 7)) else none) else (bif Nat.blt a 106 then (bif Nat.beq a 105 then some (.inr (0, 7)) else none) else (bif Nat.beq a 106 then some (.inr (0, 7)) else none))) else (bif Nat.blt a 108 then (bif Nat.beq a 107 then some (.inl 9) else none) else (bif Nat.blt a 109 then (bif Nat.beq a 108 then some (.inr (0, 7)) else none) else (bif Nat.beq a 109 then some (.inr (0, 7)) else none)))) else (bif Nat.blt a 113 then (bif Nat.blt a 111 then (bif Nat.beq a 110 then some (.inr (0, 7)) else none) else (bif Nat.blt a 112 then (bif Nat.beq a 111 then some (.inr (0, 7)) else none) else (bif Nat.beq a 112 then some (.inl 9) else none))) else (bif Nat.blt a 115 then (bif Nat.blt a 114 then (bif Nat.beq a 113 then some (.inr (0, 7)) else none) else (bif Nat.beq a 114 then some (.inr (0, 7)) else none)) else (bif Nat.blt a 116 then (bif Nat.beq a 115 then some (.inr (0, 7)) else none) else (bif Nat.beq a 116 then some (.inr (0, 7)) else none))))) else (bif Nat.blt a 123 then (bif Nat.blt a 120 then (bif Nat.blt a 118 then (bif Nat.beq a 117 then some (.inl 9) else none) else (bif Nat.blt a 119 then (bif Nat.beq a 118 then some (.inr (0, 7)) else none) else (bif Nat.beq a 119 then some (.inr (0, 7)) else none))) else (bif Nat.blt a 121 then (bif Nat.beq a 120 then some (.inr (0, 7)) else none) else (bif Nat.blt a 122 then (bif Nat.beq a 121 then some (.inr (0, 7)) else none) else (bif Nat.beq a 122 then some (.inl 9) else none)))) else (bif Nat.blt a 126 then (bif Nat.blt a 124 then (bif Nat.beq a 123 then some (.inr (0, 7)) else none) else (bif Nat.blt a 125 then (bif Nat.beq a 124 then some (.inr (0, 7)) else none) else (bif Nat.beq a 125 then some (.inr (0, 7)) else none))) else (bif Nat.blt a 128 then (bif Nat.blt a 127 then (bif Nat.beq a 126 then some (.inr (0, 7)) else none) else (bif Nat.beq a 127 then some (.inl 9) else none)) else (bif Nat.blt a 129 then (bif Nat.beq a 128 then some (.inr (0, 7)) else none) else (bif Nat.beq a 129 then some (.inr (0, 7)) else none)))))) else (bif Nat.blt a 143 then (bif Nat.blt a 136 then (bif Nat.blt a 133 then (bif Nat.blt a 131 then (bif Nat.beq a 130 then some (.inr (0, 7)) else none) else (bif Nat.blt a 132 then (bif Nat.beq a 131 then some (.inr (0, 7)) else none) else (bif Nat.beq a 132 then some (.inl 9) else none))) else (bif Nat.blt a 134 then (bif Nat.beq a 133 then some (.inr (0, 7)) else none) else (bif Nat.blt a 135 then (bif Nat.beq a 134 then some (.inr (0, 7)) else none) else (bif Nat.beq a 135 then some (.inr (0, 7)) else none)))) else (bif Nat.blt a 139 then (bif Nat.blt a 137 then (bif Nat.beq a 136 then some (.inr (0, 7)) else none) else (bif Nat.blt a 138 then (bif Nat.beq a 137 then some (.inl 9) else none) else (bif Nat.beq a 138 then some (.inr (0, 7)) else none))) else (bif Nat.blt a 141 then (bif Nat.blt a 140 then (bif Nat.beq a 139 then some (.inr (0, 7)) else none) else (bif Nat.beq a 140 then some (.inr (0, 7)) else none)) else (bif Nat.blt a 142 then (bif Nat.beq a 141 then some (.inr (0, 7)) else none) else (bif Nat.beq a 142 then some (.inl 9) else none))))) else (bif Nat.blt a 149 then (bif Nat.blt a 146 then (bif Nat.blt a 144 then (bif Nat.beq a 143 then some (.inr (0, 7)) else none) else (bif Nat.blt a 145 then (bif Nat.beq a 144 then some (.inr (0, 7)) else none) else (bif Nat.beq a 145 then some (.inr (0, 7)) else none))) else (bif Nat.blt a 147 then (bif Nat.beq a 146 then some (.inr (0, 7)) else none) else (bif Nat.blt a 148 then (bif Nat.beq a 147 then some (.inl 7) else none) else (bif Nat.beq a 148 then some (.inr (0, 8)) else none)))) else (bif Nat.blt a 152 then (bif Nat.blt a 150 then (bif Nat.beq a 149 then some (.inr (0, 8)) else none) else (bif Nat.blt a 151 then (bif Nat.beq a 150 then some (.inr (4, 4)) else none) else (bif Nat.beq a 151 then some (.inr (5, 4)) else none))) else (bif Nat.blt a 154 then (bif Nat.blt a 153 then (bif Nat.beq a 152 then some (.inr (3, 4)) else none) else (bif Nat.beq a 153 then some (.inl 9) else none)) else (bif Nat.blt a 155 then (bif Nat.beq a 154 then some (.inr (0, 7)) else none) else (bif Nat.beq a 155 then some (.inr (0, 7)) else none))))))) else (bif Nat.blt a 182 then (bif Nat.blt a 169 then (bif Nat.blt a 162 then (bif Nat.blt a 159 then (bif Nat.blt a 157 then (bif Nat.beq a 156 then some (.inr (0, 7)) else none) else (bif Nat.blt a 158 then (bif Nat.beq a 157 then some (.inr (0, 7)) else none) else (bif Nat.beq a 158 then some (.inl 7) else none))) else (bif Nat.blt a 160 then (bif Nat.beq a 159 then some (.inr (0, 8)) else none) else (bif Nat.blt a 161 then (bif Nat.beq a 160 then some (.inr (0, 8)) else none) else (bif Nat.beq a 161 then some (.inl 9) else none)))) else (bif Nat.blt a 165 then (bif Nat.blt a 163 then (bif Nat.beq a 162 then some (.inr (0, 7)) else none) else (bif Nat.blt a 164 then (bif Nat.beq a 163 then some (.inr (0, 7)) else none) else (bif Nat.beq a 164 then some (.inr (0, 7)) else none))) else (bif Nat.blt a 167 then (bif Nat.blt a 166 then (bif Nat.beq a 165 then some (.inr (0, 7)) else none) else (bif Nat.beq a 166 then some (.inl 7) else none)) else (bif Nat.blt a 168 then (bif Nat.beq a 167 then some (.inr (0, 8)) else none) else (bif Nat.beq a 168 then some (.inr (0, 8)) else none))))) else (bif Nat.blt a 175 then (bif Nat.blt a 172 then (bif Nat.blt a 170 then (bif Nat.beq a 169 then some (.inl 9) else none) else (bif Nat.blt a 171 then (bif Nat.beq a 170 then some (.inr (0, 7)) else none) else (bif Nat.beq a 171 then some (.inr (0, 7)) else none))) else (bif Nat.blt a 173 then (bif Nat.beq a 172 then some (.inr (0, 7)) else none) else (bif Nat.blt a 174 then (bif Nat.beq a 173 then some (.inr (0, 7)) else none) else (bif Nat.beq a 174 then some (.inl 7) else none)))) else (bif Nat.blt a 178 then (bif Nat.blt a 176 then (bif Nat.beq a 175 then some (.inr (0, 8)) else none) else (bif Nat.blt a 177 then (bif Nat.beq a 176 then some (.inr (0, 8)) else none) else (bif Nat.beq a 177 then some (.inl 9) else none))) else (bif Nat.blt a 180 then (bif Nat.blt a 179 then (bif Nat.beq a 178 then some (.inr (0, 7)) else none) else (bif Nat.beq a 179 then some (.inr (0, 7)) else none)) else (bif Nat.blt a 181 then (bif Nat.beq a 180 then some (.inr (0, 7)) else none) else (bif Nat.beq a 181 then some (.inr (0, 7)) else none)))))) else (bif Nat.blt a 195 then (bif Nat.blt a 188 then (bif Nat.blt a 185 then (bif Nat.blt a 183 then (bif Nat.beq a 182 then some (.inl 7) else none) else (bif Nat.blt a 184 then (bif Nat.beq a 183 then some (.inr (0, 8)) else none) else (bif Nat.beq a 184 then some (.inr (0, 8)) else none))) else (bif Nat.blt a 186 then (bif Nat.beq a 185 then some (.inl 12) else none) else (bif Nat.blt a 187 then (bif Nat.beq a 186 then some (.inr (0, 1000)) else none) else (bif Nat.beq a 187 then some (.inr (0, 1002)) else none)))) else (bif Nat.blt a 191 then (bif Nat.blt a 189 then (bif Nat.beq a 188 then some (.inr (0, 1002)) else none) else (bif Nat.blt a 190 then (bif Nat.beq a 189 then some (.inr (1, 1002)) else none) else (bif Nat.beq a 190 then some (.inr (1, 22)) else none))) else (bif Nat.blt a 193 then (bif Nat.blt a 192 then (bif Nat.beq a 191 then some (.inr (0, 180)) else none) else (bif Nat.beq a 192 then some (.inr (0, 2200)) else none)) else (bif Nat.blt a 194 then (bif Nat.beq a 193 then some (.inr (0, 2200)) else none) else (bif Nat.beq a 194 then some (.inr (1, 14)) else none))))) else (bif Nat.blt a 202 then (bif Nat.blt a 198 then (bif Nat.blt a 196 then (bif Nat.beq a 195 then some (.inr (1, 14)) else none) else (bif Nat.blt a 197 then (bif Nat.beq a 196 then some (.inr (0, 14)) else none) else (bif Nat.beq a 197 then some (.inr (0, 14)) else none))) else (bif Nat.blt a 200 then (bif Nat.blt a 199 then (bif Nat.beq a 198 then some (.inr (0, 250)) else none) else (bif Nat.beq a 199 then some (.inr (0, 4)) else none)) else (bif Nat.blt a 201 then (bif Nat.beq a 200 then some (.inr (0, 1100)) else none) else (bif Nat.beq a 201 then some (.inr (0, 1265)) else none)))) else (bif Nat.blt a 205 then (bif Nat.blt a 203 then (bif Nat.beq a 202 then some (.inr (3, 4)) else none) else (bif Nat.blt a 204 then (bif Nat.beq a 203 then some (.inr (0, 7)) else none) else (bif Nat.beq a 204 then some (.inr (0, 7)) else none))) else (bif Nat.blt a 207 then (bif Nat.blt a 206 then (bif Nat.beq a 205 then some (.inr (0, 4)) else none) else (bif Nat.beq a 206 then some (.inr (0, 7)) else none)) else (bif Nat.blt a 208 then (bif Nat.beq a 207 then some (.inr (0, 7)) else none) else (bif Nat.beq a 208 then some (.inr (1, 1)) else none))))))))) else none
def kfk (c k : Nat) : Nat := (bif Nat.blt c 6 then (bif Nat.blt c 3 then (bif Nat.blt c 1 then (bif Nat.beq c 0 then ([0, 2, 2].getD k 2) else 2) else (bif Nat.blt c 2 then (bif Nat.beq c 1 then ([2].getD k 2) else 2) else (bif Nat.beq c 2 then ([0, 2, 0, 0, 0, 0, 1, 0].getD k 2) else 2))) else (bif Nat.blt c 4 then (bif Nat.beq c 3 then ([0, 0, 2].getD k 2) else 2) else (bif Nat.blt c 5 then (bif Nat.beq c 4 then ([2, 2].getD k 2) else 2) else (bif Nat.beq c 5 then ([2, 2, 1, 0, 0, 1].getD k 2) else 2)))) else (bif Nat.blt c 9 then (bif Nat.blt c 7 then (bif Nat.beq c 6 then ([0, 0, 2, 2, 2, 2, 2, 2].getD k 2) else 2) else (bif Nat.blt c 8 then (bif Nat.beq c 7 then ([0, 2, 2, 0].getD k 2) else 2) else (bif Nat.beq c 8 then ([0, 2, 2, 2, 2, 2, 2, 2].getD k 2) else 2))) else (bif Nat.blt c 11 then (bif Nat.blt c 10 then (bif Nat.beq c 9 then ([0, 0, 2, 2, 2, 2].getD k 2) else 2) else (bif Nat.beq c 10 then ([0, 2, 2, 2].getD k 2) else 2)) else (bif Nat.blt c 12 then (bif Nat.beq c 11 then ([2, 2, 2, 2, 2, 2, 2, 2, 2, 2, 2, 2, 2, 2, 2, 2, 0].getD k 2) else 2) else (bif Nat.beq c 12 then ([0, 2, 0, 0, 2, 2, 2, 0, 0, 2, 2, 2, 2, 0, 2, 2, 2, 2, 0, 0, 2, 2, 2, 2, 0, 2, 2, 2, 0, 2, 2, 2, 0, 1].getD k 2) else 2)))))
def krf (rf : Nat → Nat) (a k : Nat) : Nat := match kshp a with
  | some (.inl 0) => a + k
  | some (.inl 1) => 1
  | some (.inl 2) => a + 1
  | some (.inl 3) => a + 1
  | some (.inl 4) => a + 1 + k
  | some (.inl 5) => (bif Nat.beq k 0 then 1 else a + 1)
  | some (.inl 6) => (bif Nat.beq k 7 then a + 8 else a + (k - 1))
  | some (.inl 7) => a + k
  | some (.inl 8) => a + k
  | some (.inl 9) => a + (k - 1)
  | some (.inl 10) => a + k
  | some (.inl 11) => (bif Nat.blt 1 k && Nat.blt k 6 then rf k else [1, 3, 0, 0, 0, 0, 39, 44, 49, 54, 62, 65, 147, 150, 151, 152, 0].getD k 0)
  | some (.inl 12) => [0, 186, 0, 0, 187, 188, 189, 0, 0, 190, 191, 192, 193, 0, 194, 195, 196, 197, 0, 0, 198, 199, 200, 201, 0, 202, 203, 204, 0, 205, 206, 207, 0, 0].getD k 0
  | some (.inr (4, _)) => (bif Nat.beq a 66 then 67 + 5 * k else 153 + 8 * k)
  | some (.inr (5, _)) => 158 + 8 * k
  | _ => 0
def kfv (I : Nat → Nat → Int32) (J : Nat → Nat → Int64) (rf : Nat → Nat) (c a k : Nat) : Value := match kfk c k with
  | 0 => .int (I a k)
  | 1 => .long (J a k)
  | _ => .ref (krf rf a k)
def kcell (I : Nat → Nat → Int32) (J : Nat → Nat → Int64) (rf : Nat → Nat) (a : Nat) : KC := match kshp a with
  | some (.inl c) => .inl (c, (List.range (kN c)).map (kfv I J rf c a))
  | some (.inr (1, n)) => .inr (1, .inr (.inl ((List.range n).map (J a))))
  | some (.inr (4, n)) => .inr (4, .inr (.inr ((List.range n).map (fun i => some (krf rf a i)))))
  | some (.inr (5, n)) => .inr (5, .inr (.inr ((List.range n).map (fun i => some (krf rf a i)))))
  | some (.inr (t, n)) => .inr (t, .inl ((List.range n).map (I a)))
  | none => .inl (13, [])
/-- a thrown object's cell -/
def kexn : KC := .inl (13, [.null, .null, .null, .null, .null, .null])
def kmm (I : Nat → Nat → Int32) (J : Nat → Nat → Int64) (rf : Nat → Nat) (g : Nat) : KW := (List.range 209).map (kcell I J rf) ++ List.replicate g kexn
/-- one place of a memory anew -/
def ku {α : Type} (I : Nat → Nat → α) (a k : Nat) (x : α) : Nat → Nat → α := fun a' k' => if a' = a ∧ k' = k then x else I a' k'
def ku1 (f : Nat → Nat) (k x : Nat) : Nat → Nat := fun k' => if k' = k then x else f k'
theorem ku_same {α : Type} (I : Nat → Nat → α) (a k : Nat) (x : α) : ku I a k x a k = x := by simp [ku]
theorem ku_ne {α : Type} {I : Nat → Nat → α} {a k a' k' : Nat} {x : α} (h : ¬ (a' = a ∧ k' = k)) : ku I a k x a' k' = I a' k' := by simp only [ku, if_neg h]
theorem ku_nea {α : Type} {I : Nat → Nat → α} {a k a' k' : Nat} {x : α} (h : a' ≠ a) : ku I a k x a' k' = I a' k' := ku_ne (fun q => h q.1)
theorem ku_nek {α : Type} {I : Nat → Nat → α} {a k a' k' : Nat} {x : α} (h : k' ≠ k) : ku I a k x a' k' = I a' k' := ku_ne (fun q => h q.2)
theorem kshp_out {a : Nat} (h : 209 ≤ a) : kshp a = none := by
  have e1 : Nat.blt a 209 = false := by rw [← Bool.not_eq_true, Nat.blt_eq]; omega
  unfold kshp
  rw [e1]
  rfl
theorem kshp_lt {a : Nat} {x : Nat ⊕ (Nat × Nat)} (h : kshp a = some x) : a < 209 := by
  by_cases hl : a < 209
  · exact hl
  · exfalso
    have e : kshp a = none := kshp_out (by omega)
    rw [e] at h
    cases h
section KMEM
variable {I : Nat → Nat → Int32} {J : Nat → Nat → Int64} {rf : Nat → Nat} {g a : Nat}
theorem kmm_get (h : a < 209) : (kmm I J rf g)[a]? = some (kcell I J rf a) := by
  unfold kmm
  rw [List.getElem?_append_left (by simpa using h), List.getElem?_map, List.getElem?_range h]
  rfl
theorem kmm_set {I' : Nat → Nat → Int32} {J' : Nat → Nat → Int64} {rf' : Nat → Nat} {c : KC} (h : a < 209) (hc : kcell I' J' rf' a = c) (ho : ∀ a', a' ≠ a → kcell I' J' rf' a' = kcell I J rf a') : (kmm I J rf g).set a c = kmm I' J' rf' g := by
  subst hc
  unfold kmm
  rw [List.set_append_left _ _ (by simpa using h)]
  congr 1
  apply List.ext_getElem?
  intro j
  rw [List.getElem?_set]
  by_cases hj : a = j
  · subst hj
    simp [h]
  · rw [if_neg hj]
    by_cases hl : j < 209
    · simp [hl, ho j (Ne.symm hj)]
    · simp [hl]
theorem kcell_obj {c : Nat} (h : kshp a = some (.inl c)) : kcell I J rf a = .inl (c, (List.range (kN c)).map (kfv I J rf c a)) := by simp only [kcell, h]
theorem kgf_m {c k : Nat} (h : kshp a = some (.inl c)) (hk : k < kN c) : kgf (kmm I J rf g) a c k = some (kfv I J rf c a k) := by
  unfold kgf
  rw [kmm_get (kshp_lt h), kcell_obj h]
  simp [hk, Nat.beq_refl]
theorem kgI_m {c k : Nat} (h : kshp a = some (.inl c)) (hk : k < kN c) (hf : kfk c k = 0) : kgI (kmm I J rf g) a c k = some (I a k) := by
  unfold kgI
  rw [kgf_m h hk]
  simp only [kfv, hf]
theorem kgJ_m {c k : Nat} (h : kshp a = some (.inl c)) (hk : k < kN c) (hf : kfk c k = 1) : kgJ (kmm I J rf g) a c k = some (J a k) := by
  unfold kgJ
  rw [kgf_m h hk]
  simp only [kfv, hf]
theorem kgR_m {c k : Nat} (h : kshp a = some (.inl c)) (hk : k < kN c) (hf : kfk c k = 2) : kgR (kmm I J rf g) a c k = some (krf rf a k) := by
  unfold kgR
  rw [kgf_m h hk]
  simp only [kfv, hf]
theorem kcell_ku {I' : Nat → Nat → Int32} {J' : Nat → Nat → Int64} {rf' : Nat → Nat} {a' : Nat} (hI : I' a' = I a') (hJ : J' a' = J a') (hr : ∀ k, krf rf' a' k = krf rf a' k) : kcell I' J' rf' a' = kcell I J rf a' := by
  have e : krf rf' a' = krf rf a' := funext hr
  have e2 : ∀ c, kfv I' J' rf' c a' = kfv I J rf c a' := fun c => by funext k; simp only [kfv, hI, hJ, e]
  unfold kcell
  split <;> simp only [hI, hJ, e, e2]
theorem ku_row {α : Type} {I : Nat → Nat → α} {a k a' : Nat} {x : α} (h : a' ≠ a) : ku I a k x a' = I a' := by funext k'; exact ku_nea h
theorem kpI_m {c k : Nat} {x : Int32} (h : kshp a = some (.inl c)) (hk : k < kN c) (hf : kfk c k = 0) : kpf (kmm I J rf g) a c k (.int x) = some (kmm (ku I a k x) J rf g) := by
  unfold kpf
  rw [kmm_get (kshp_lt h), kcell_obj h]
  simp only [Nat.beq_refl, List.length_map, List.length_range, Bool.true_and]
  rw [show Nat.blt k (kN c) = true by simpa using hk]
  simp only [cond_true, Option.some.injEq]
  refine kmm_set (kshp_lt h) ?_ (fun a' ha => kcell_ku (ku_row ha) rfl (fun _ => rfl))
  rw [kcell_obj h]
  congr 2
  apply List.ext_getElem?
  intro j
  rw [List.getElem?_set]
  by_cases hj : k = j
  · subst hj
    simp [hk, kfv, hf, ku_same]
  · rw [if_neg hj]
    by_cases hl : j < kN c
    · simp only [List.getElem?_map, List.getElem?_range hl, Option.map_some, Option.some.injEq]
      unfold kfv
      split <;> first | rfl | (rw [ku_nek (Ne.symm hj)])
    · simp [hl]
theorem kpJ_m {c k : Nat} {x : Int64} (h : kshp a = some (.inl c)) (hk : k < kN c) (hf : kfk c k = 1) : kpf (kmm I J rf g) a c k (.long x) = some (kmm I (ku J a k x) rf g) := by
  unfold kpf
  rw [kmm_get (kshp_lt h), kcell_obj h]
  simp only [Nat.beq_refl, List.length_map, List.length_range, Bool.true_and]
  rw [show Nat.blt k (kN c) = true by simpa using hk]
  simp only [cond_true, Option.some.injEq]
  refine kmm_set (kshp_lt h) ?_ (fun a' ha => kcell_ku rfl (ku_row ha) (fun _ => rfl))
  rw [kcell_obj h]
  congr 2
  apply List.ext_getElem?
  intro j
  rw [List.getElem?_set]
  by_cases hj : k = j
  · subst hj
    simp [hk, kfv, hf, ku_same]
  · rw [if_neg hj]
    by_cases hl : j < kN c
    · simp only [List.getElem?_map, List.getElem?_range hl, Option.map_some, Option.some.injEq]
      unfold kfv
      split <;> first | rfl | (rw [ku_nek (Ne.symm hj)])
    · simp [hl]
theorem kcell_arr {t n : Nat} (h : kshp a = some (.inr (t, n))) (ht : t = 0 ∨ t = 2 ∨ t = 3) : kcell I J rf a = .inr (t, .inl ((List.range n).map (I a))) := by
  rcases ht with rfl | rfl | rfl <;> simp only [kcell, h]
theorem kcell_arj {n : Nat} (h : kshp a = some (.inr (1, n))) : kcell I J rf a = .inr (1, .inr (.inl ((List.range n).map (J a)))) := by simp only [kcell, h]
theorem kix_m {α : Type} {f : Nat → α} {n i : Nat} (hi : i < n) (hn : n < 2147483648) : (if (nI i : Int32) < 0 then none else ((List.range n).map f)[(nI i).toNatClampNeg]?) = some (f i) := by
  have h1 : ¬ (nI i : Int32) < 0 := nI_pos (by omega)
  rw [if_neg h1, nI_clamp (by omega)]
  simp [hi]
theorem kaI_m {n i : Nat} (h : kshp a = some (.inr (0, n))) (hi : i < n) (hn : n < 2147483648) : kaI (kmm I J rf g) a 0 (nI i) = some (I a i) := by
  unfold kaI
  rw [kmm_get (kshp_lt h), kcell_arr h (Or.inl rfl)]
  exact kix_m hi hn
theorem kaB_m {t n i : Nat} (h : kshp a = some (.inr (t, n))) (ht : t = 2 ∨ t = 3) (hi : i < n) (hn : n < 2147483648) : kaB (kmm I J rf g) a (nI i) = some (I a i) := by
  unfold kaB
  rw [kmm_get (kshp_lt h), kcell_arr h (Or.inr ht)]
  rcases ht with rfl | rfl <;> exact kix_m hi hn
theorem kaJ_m {n i : Nat} (h : kshp a = some (.inr (1, n))) (hi : i < n) (hn : n < 2147483648) : kaJ (kmm I J rf g) a (nI i) = some (J a i) := by
  unfold kaJ
  rw [kmm_get (kshp_lt h), kcell_arj h]
  exact kix_m hi hn
theorem kaR_m {t n i : Nat} (h : kshp a = some (.inr (t, n))) (ht : t = 4 ∨ t = 5) (hi : i < n) (hn : n < 2147483648) : kaR (kmm I J rf g) a (nI i) = some (krf rf a i) := by
  have e : kcell I J rf a = .inr (t, .inr (.inr ((List.range n).map (fun i => some (krf rf a i))))) := by rcases ht with rfl | rfl <;> simp only [kcell, h]
  unfold kaR
  rw [kmm_get (kshp_lt h), e]
  have h1 : ¬ (nI i : Int32) < 0 := nI_pos (by omega)
  rcases ht with rfl | rfl <;> simp [h1, nI_clamp (show i < 2 ^ 31 by omega), hi]
theorem kiw_m {α : Type} {n i : Nat} {x : α} (hi : i < n) (hn : n < 2147483648) : (if (nI i : Int32) < 0 ∨ n ≤ (nI i).toNatClampNeg then none else some x) = some x := by
  rw [if_neg]
  rw [nI_clamp (by omega)]
  rintro (q | q)
  · exact nI_pos (show i < 2 ^ 31 by omega) q
  · omega
theorem kset_map {α : Type} {I : Nat → Nat → α} {a n i : Nat} {x : α} : ((List.range n).map (I a)).set i x = (List.range n).map (ku I a i x a) := by
  apply List.ext_getElem?
  intro j
  rw [List.getElem?_set]
  by_cases hj : i = j
  · subst hj
    by_cases hl : i < n
    · simp [hl, ku_same]
    · simp [hl]
  · rw [if_neg hj]
    by_cases hl : j < n
    · simp [hl, ku_nek (Ne.symm hj)]
    · simp [hl]
theorem ksI_m {n i : Nat} {x : Int32} (h : kshp a = some (.inr (0, n))) (hi : i < n) (hn : n < 2147483648) : ksI (kmm I J rf g) a 0 (nI i) x = some (kmm (ku I a i x) J rf g) := by
  unfold ksI
  rw [kmm_get (kshp_lt h), kcell_arr h (Or.inl rfl)]
  simp only [Nat.beq_refl, cond_true, List.length_map, List.length_range, nI_clamp (show i < 2 ^ 31 by omega)]
  have := kiw_m (x := (kmm I J rf g).set a (.inr (0, .inl (((List.range n).map (I a)).set i x)))) hi hn
  rw [nI_clamp (show i < 2 ^ 31 by omega)] at this
  rw [this, kset_map]
  congr 1
  exact kmm_set (kshp_lt h) (kcell_arr h (Or.inl rfl)) (fun a' ha => kcell_ku (ku_row ha) rfl (fun _ => rfl))
theorem ksB_m {t n i : Nat} {x : Int32} (h : kshp a = some (.inr (t, n))) (ht : t = 2 ∨ t = 3) (hi : i < n) (hn : n < 2147483648) : ksB (kmm I J rf g) a (nI i) x = some (kmm (ku I a i (vp_nar (kty t) x)) J rf g) := by
  unfold ksB
  rw [kmm_get (kshp_lt h), kcell_arr h (Or.inr ht)]
  have hb : (Nat.beq t 2 || Nat.beq t 3) = true := by rcases ht with rfl | rfl <;> rfl
  simp only [hb, cond_true, List.length_map, List.length_range, nI_clamp (show i < 2 ^ 31 by omega)]
  have := kiw_m (x := (kmm I J rf g).set a (.inr (t, .inl (((List.range n).map (I a)).set i (vp_nar (kty t) x))))) hi hn
  rw [nI_clamp (show i < 2 ^ 31 by omega)] at this
  rw [this, kset_map]
  congr 1
  exact kmm_set (kshp_lt h) (kcell_arr h (Or.inr ht)) (fun a' ha => kcell_ku (ku_row ha) rfl (fun _ => rfl))
theorem ksJ_m {n i : Nat} {x : Int64} (h : kshp a = some (.inr (1, n))) (hi : i < n) (hn : n < 2147483648) : ksJ (kmm I J rf g) a (nI i) x = some (kmm I (ku J a i x) rf g) := by
  unfold ksJ
  rw [kmm_get (kshp_lt h), kcell_arj h]
  simp only [Nat.beq_refl, cond_true, List.length_map, List.length_range, nI_clamp (show i < 2 ^ 31 by omega)]
  have := kiw_m (x := (kmm I J rf g).set a (.inr (1, .inr (.inl (((List.range n).map (J a)).set i x))))) hi hn
  rw [nI_clamp (show i < 2 ^ 31 by omega)] at this
  rw [this, kset_map]
  congr 1
  exact kmm_set (kshp_lt h) (kcell_arj h) (fun a' ha => kcell_ku rfl (ku_row ha) (fun _ => rfl))
theorem kalen_m {t n : Nat} (h : kshp a = some (.inr (t, n))) (ht : t < 4) : kalen (kmm I J rf g) a = some n := by
  unfold kalen
  rw [kmm_get (kshp_lt h)]
  match t, ht with
  | 0, _ => rw [kcell_arr h (Or.inl rfl)]; simp only [List.length_map, List.length_range]; rfl
  | 1, _ => rw [kcell_arj h]; simp only [List.length_map, List.length_range]; rfl
  | 2, _ => rw [kcell_arr h (Or.inr (Or.inl rfl))]; simp only [List.length_map, List.length_range]; rfl
  | 3, _ => rw [kcell_arr h (Or.inr (Or.inr rfl))]; simp only [List.length_map, List.length_range]; rfl
  | n + 4, h => omega
/-- the first n ints of one array over those of another -/
def kcp (I : Nat → Nat → Int32) (a b n : Nat) : Nat → Nat → Int32 := fun a' i => if a' = b ∧ i < n then I a i else I a' i
theorem kcopy_m {n n1 n2 b : Nat} (h1 : kshp a = some (.inr (0, n1))) (h2 : kshp b = some (.inr (0, n2))) (hn1 : n ≤ n1) (hn2 : n ≤ n2) (hn : n < 2147483648) : kcopy (kmm I J rf g) a b (nI n) = some (kmm (kcp I a b n) J rf g) := by
  unfold kcopy
  rw [kmm_get (kshp_lt h1), kmm_get (kshp_lt h2), kcell_arr h1 (Or.inl rfl), kcell_arr h2 (Or.inl rfl)]
  simp only [Nat.beq_refl, Bool.and_self, cond_true, List.length_map, List.length_range, nI_clamp (show n < 2 ^ 31 by omega)]
  rw [if_neg (by rintro (q | q | q); exact nI_pos (show n < 2 ^ 31 by omega) q; omega; omega)]
  congr 1
  refine kmm_set (kshp_lt h2) ?_ (fun a' ha => kcell_ku (by funext i; simp [kcp, ha]) rfl (fun _ => rfl))
  rw [kcell_arr h2 (Or.inl rfl)]
  congr 3
  apply List.ext_getElem?
  intro j
  by_cases hj : j < n
  · rw [List.getElem?_append_left (by simp; omega), List.getElem?_take, if_pos hj]
    simp [kcp, hj, show j < n1 by omega, show j < n2 by omega]
  · rw [List.getElem?_append_right (by simp; omega), List.getElem?_drop]
    have e : n + (j - (List.take n ((List.range n1).map (I a))).length) = j := by simp; omega
    rw [e]
    by_cases hl : j < n2
    · simp [kcp, hj, hl]
    · simp [hl]
theorem krecv_m {c : Nat} (h : kshp a = some (.inl c)) : krecv (kmm I J rf g) (.ref a) c = true := by
  unfold krecv
  simp only [kmm_get (kshp_lt h), kcell_obj h, Nat.beq_refl]
end KMEM
