/-! THE LAYOUT: which number each cell of a Ballothall has; what is known of objects by their numbers -/
def T0 (i : Nat) : Dd := (bif Nat.blt i 125 then (bif Nat.blt i 62 then (bif Nat.blt i 31 then (bif Nat.blt i 15 then (bif Nat.blt i 7 then (bif Nat.blt i 3 then (bif Nat.blt i 1 then (0, 1) else (bif Nat.blt i 2 then (111, 0) else (100, 0))) else (bif Nat.blt i 5 then (bif Nat.blt i 4 then (0, 30) else (0, 8)) else (bif Nat.blt i 6 then (0, 31) else (0, 31)))) else (bif Nat.blt i 11 then (bif Nat.blt i 9 then (bif Nat.blt i 8 then (0, 31) else (6, 31)) else (bif Nat.blt i 10 then (0, 8) else (0, 8))) else (bif Nat.blt i 13 then (bif Nat.blt i 12 then (0, 8) else (0, 8)) else (bif Nat.blt i 14 then (0, 8) else (0, 8))))) else (bif Nat.blt i 23 then (bif Nat.blt i 19 then (bif Nat.blt i 17 then (bif Nat.blt i 16 then (0, 8) else (0, 8)) else (bif Nat.blt i 18 then (0, 8) else (0, 8))) else (bif Nat.blt i 21 then (bif Nat.blt i 20 then (0, 8) else (0, 8)) else (bif Nat.blt i 22 then (0, 8) else (0, 8)))) else (bif Nat.blt i 27 then (bif Nat.blt i 25 then (bif Nat.blt i 24 then (0, 8) else (0, 8)) else (bif Nat.blt i 26 then (0, 8) else (0, 8))) else (bif Nat.blt i 29 then (bif Nat.blt i 28 then (0, 8) else (0, 8)) else (bif Nat.blt i 30 then (0, 8) else (0, 8)))))) else (bif Nat.blt i 46 then (bif Nat.blt i 38 then (bif Nat.blt i 34 then (bif Nat.blt i 32 then (0, 8) else (bif Nat.blt i 33 then (0, 8) else (0, 8))) else (bif Nat.blt i 36 then (bif Nat.blt i 35 then (0, 8) else (0, 8)) else (bif Nat.blt i 37 then (0, 8) else (0, 8)))) else (bif Nat.blt i 42 then (bif Nat.blt i 40 then (bif Nat.blt i 39 then (0, 8) else (0, 8)) else (bif Nat.blt i 41 then (0, 256) else (109, 0))) else (bif Nat.blt i 44 then (bif Nat.blt i 43 then (0, 31) else (0, 8)) else (bif Nat.blt i 45 then (0, 8) else (0, 64))))) else (bif Nat.blt i 54 then (bif Nat.blt i 50 then (bif Nat.blt i 48 then (bif Nat.blt i 47 then (0, 8) else (0, 64)) else (bif Nat.blt i 49 then (1, 8) else (0, 8))) else (bif Nat.blt i 52 then (bif Nat.blt i 51 then (1, 256) else (105, 0)) else (bif Nat.blt i 53 then (0, 5) else (107, 0)))) else (bif Nat.blt i 58 then (bif Nat.blt i 56 then (bif Nat.blt i 55 then (0, 8) else (0, 8)) else (bif Nat.blt i 57 then (0, 8) else (104, 0))) else (bif Nat.blt i 60 then (bif Nat.blt i 59 then (0, 8) else (1, 8)) else (bif Nat.blt i 61 then (0, 8) else (0, 8))))))) else (bif Nat.blt i 93 then (bif Nat.blt i 77 then (bif Nat.blt i 69 then (bif Nat.blt i 65 then (bif Nat.blt i 63 then (1, 8) else (bif Nat.blt i 64 then (0, 61) else (104, 0))) else (bif Nat.blt i 67 then (bif Nat.blt i 66 then (0, 8) else (1, 8)) else (bif Nat.blt i 68 then (0, 8) else (0, 8)))) else (bif Nat.blt i 73 then (bif Nat.blt i 71 then (bif Nat.blt i 70 then (1, 8) else (0, 61)) else (bif Nat.blt i 72 then (0, 8) else (0, 8))) else (bif Nat.blt i 75 then (bif Nat.blt i 74 then (3, 21) else (106, 0)) else (bif Nat.blt i 76 then (0, 60) else (0, 8))))) else (bif Nat.blt i 85 then (bif Nat.blt i 81 then (bif Nat.blt i 79 then (bif Nat.blt i 78 then (0, 8) else (0, 8)) else (bif Nat.blt i 80 then (106, 0) else (0, 60))) else (bif Nat.blt i 83 then (bif Nat.blt i 82 then (0, 8) else (0, 8)) else (bif Nat.blt i 84 then (0, 8) else (106, 0)))) else (bif Nat.blt i 89 then (bif Nat.blt i 87 then (bif Nat.blt i 86 then (0, 60) else (0, 8)) else (bif Nat.blt i 88 then (0, 8) else (0, 8))) else (bif Nat.blt i 91 then (bif Nat.blt i 90 then (106, 0) else (0, 60)) else (bif Nat.blt i 92 then (0, 8) else (0, 8)))))) else (bif Nat.blt i 109 then (bif Nat.blt i 101 then (bif Nat.blt i 97 then (bif Nat.blt i 95 then (bif Nat.blt i 94 then (0, 8) else (106, 0)) else (bif Nat.blt i 96 then (0, 60) else (0, 8))) else (bif Nat.blt i 99 then (bif Nat.blt i 98 then (0, 8) else (0, 8)) else (bif Nat.blt i 100 then (106, 0) else (0, 60)))) else (bif Nat.blt i 105 then (bif Nat.blt i 103 then (bif Nat.blt i 102 then (0, 8) else (0, 8)) else (bif Nat.blt i 104 then (0, 8) else (106, 0))) else (bif Nat.blt i 107 then (bif Nat.blt i 106 then (0, 60) else (0, 8)) else (bif Nat.blt i 108 then (0, 8) else (0, 8))))) else (bif Nat.blt i 117 then (bif Nat.blt i 113 then (bif Nat.blt i 111 then (bif Nat.blt i 110 then (106, 0) else (0, 60)) else (bif Nat.blt i 112 then (0, 8) else (0, 8))) else (bif Nat.blt i 115 then (bif Nat.blt i 114 then (0, 8) else (106, 0)) else (bif Nat.blt i 116 then (0, 60) else (0, 8)))) else (bif Nat.blt i 121 then (bif Nat.blt i 119 then (bif Nat.blt i 118 then (0, 8) else (0, 8)) else (bif Nat.blt i 120 then (106, 0) else (0, 60))) else (bif Nat.blt i 123 then (bif Nat.blt i 122 then (0, 8) else (0, 8)) else (bif Nat.blt i 124 then (0, 8) else (106, 0)))))))) else (bif Nat.blt i 187 then (bif Nat.blt i 156 then (bif Nat.blt i 140 then (bif Nat.blt i 132 then (bif Nat.blt i 128 then (bif Nat.blt i 126 then (0, 60) else (bif Nat.blt i 127 then (0, 8) else (0, 8))) else (bif Nat.blt i 130 then (bif Nat.blt i 129 then (0, 8) else (106, 0)) else (bif Nat.blt i 131 then (0, 60) else (0, 8)))) else (bif Nat.blt i 136 then (bif Nat.blt i 134 then (bif Nat.blt i 133 then (0, 8) else (0, 8)) else (bif Nat.blt i 135 then (106, 0) else (0, 60))) else (bif Nat.blt i 138 then (bif Nat.blt i 137 then (0, 8) else (0, 8)) else (bif Nat.blt i 139 then (0, 8) else (106, 0))))) else (bif Nat.blt i 148 then (bif Nat.blt i 144 then (bif Nat.blt i 142 then (bif Nat.blt i 141 then (0, 60) else (0, 8)) else (bif Nat.blt i 143 then (0, 8) else (0, 8))) else (bif Nat.blt i 146 then (bif Nat.blt i 145 then (106, 0) else (0, 60)) else (bif Nat.blt i 147 then (0, 8) else (0, 8)))) else (bif Nat.blt i 152 then (bif Nat.blt i 150 then (bif Nat.blt i 149 then (0, 8) else (106, 0)) else (bif Nat.blt i 151 then (0, 60) else (0, 8))) else (bif Nat.blt i 154 then (bif Nat.blt i 153 then (0, 8) else (0, 8)) else (bif Nat.blt i 155 then (106, 0) else (0, 60)))))) else (bif Nat.blt i 171 then (bif Nat.blt i 163 then (bif Nat.blt i 159 then (bif Nat.blt i 157 then (0, 8) else (bif Nat.blt i 158 then (0, 8) else (0, 8))) else (bif Nat.blt i 161 then (bif Nat.blt i 160 then (106, 0) else (0, 60)) else (bif Nat.blt i 162 then (0, 8) else (0, 8)))) else (bif Nat.blt i 167 then (bif Nat.blt i 165 then (bif Nat.blt i 164 then (0, 8) else (106, 0)) else (bif Nat.blt i 166 then (0, 60) else (0, 8))) else (bif Nat.blt i 169 then (bif Nat.blt i 168 then (0, 8) else (0, 8)) else (bif Nat.blt i 170 then (106, 0) else (0, 60))))) else (bif Nat.blt i 179 then (bif Nat.blt i 175 then (bif Nat.blt i 173 then (bif Nat.blt i 172 then (0, 8) else (0, 8)) else (bif Nat.blt i 174 then (0, 8) else (106, 0))) else (bif Nat.blt i 177 then (bif Nat.blt i 176 then (0, 60) else (0, 8)) else (bif Nat.blt i 178 then (0, 8) else (0, 8)))) else (bif Nat.blt i 183 then (bif Nat.blt i 181 then (bif Nat.blt i 180 then (103, 0) else (4, 21)) else (bif Nat.blt i 182 then (5, 240) else (5, 9))) else (bif Nat.blt i 185 then (bif Nat.blt i 184 then (108, 0) else (0, 13)) else (bif Nat.blt i 186 then (108, 0) else (0, 13))))))) else (bif Nat.blt i 218 then (bif Nat.blt i 202 then (bif Nat.blt i 194 then (bif Nat.blt i 190 then (bif Nat.blt i 188 then (108, 0) else (bif Nat.blt i 189 then (0, 13) else (108, 0))) else (bif Nat.blt i 192 then (bif Nat.blt i 191 then (0, 13) else (108, 0)) else (bif Nat.blt i 193 then (0, 13) else (108, 0)))) else (bif Nat.blt i 198 then (bif Nat.blt i 196 then (bif Nat.blt i 195 then (0, 13) else (108, 0)) else (bif Nat.blt i 197 then (0, 13) else (108, 0))) else (bif Nat.blt i 200 then (bif Nat.blt i 199 then (0, 13) else (108, 0)) else (bif Nat.blt i 201 then (0, 13) else (108, 0))))) else (bif Nat.blt i 210 then (bif Nat.blt i 206 then (bif Nat.blt i 204 then (bif Nat.blt i 203 then (0, 13) else (108, 0)) else (bif Nat.blt i 205 then (0, 13) else (108, 0))) else (bif Nat.blt i 208 then (bif Nat.blt i 207 then (0, 13) else (108, 0)) else (bif Nat.blt i 209 then (0, 13) else (108, 0)))) else (bif Nat.blt i 214 then (bif Nat.blt i 212 then (bif Nat.blt i 211 then (0, 13) else (108, 0)) else (bif Nat.blt i 213 then (0, 13) else (108, 0))) else (bif Nat.blt i 216 then (bif Nat.blt i 215 then (0, 13) else (108, 0)) else (bif Nat.blt i 217 then (0, 13) else (108, 0)))))) else (bif Nat.blt i 234 then (bif Nat.blt i 226 then (bif Nat.blt i 222 then (bif Nat.blt i 220 then (bif Nat.blt i 219 then (0, 13) else (110, 0)) else (bif Nat.blt i 221 then (0, 16) else (6, 2))) else (bif Nat.blt i 224 then (bif Nat.blt i 223 then (0, 16) else (0, 16)) else (bif Nat.blt i 225 then (6, 17) else (0, 16)))) else (bif Nat.blt i 230 then (bif Nat.blt i 228 then (bif Nat.blt i 227 then (0, 16) else (0, 16)) else (bif Nat.blt i 229 then (0, 16) else (0, 16))) else (bif Nat.blt i 232 then (bif Nat.blt i 231 then (0, 16) else (0, 16)) else (bif Nat.blt i 233 then (0, 16) else (0, 16))))) else (bif Nat.blt i 242 then (bif Nat.blt i 238 then (bif Nat.blt i 236 then (bif Nat.blt i 235 then (0, 16) else (0, 16)) else (bif Nat.blt i 237 then (0, 16) else (0, 16))) else (bif Nat.blt i 240 then (bif Nat.blt i 239 then (0, 16) else (0, 16)) else (bif Nat.blt i 241 then (0, 16) else (0, 16)))) else (bif Nat.blt i 246 then (bif Nat.blt i 244 then (bif Nat.blt i 243 then (0, 16) else (101, 0)) else (bif Nat.blt i 245 then (0, 12) else (0, 4096))) else (bif Nat.blt i 248 then (bif Nat.blt i 247 then (0, 20) else (0, 20)) else (bif Nat.blt i 249 then (0, 20) else (0, 240)))))))))
def R0 (i : Nat) : Nat → Option Nat := (bif Nat.blt i 125 then (bif Nat.blt i 62 then (bif Nat.blt i 31 then (bif Nat.blt i 15 then (bif Nat.blt i 7 then (bif Nat.blt i 3 then (bif Nat.blt i 1 then (fun _ => none) else (bif Nat.blt i 2 then (fun k => (bif k == 0 then some 2 else (bif k == 1 then some 41 else (bif k == 2 then some 51 else (bif k == 3 then some 53 else (bif k == 4 then some 179 else (bif k == 5 then some 219 else (bif k == 6 then some 243 else (bif k == 7 then some 246 else (bif k == 8 then some 247 else (bif k == 9 then some 248 else (bif k == 12 then some 249 else none)))))))))))) else (fun k => (bif k == 0 then some 3 else (bif k == 4 then some 4 else (bif k == 5 then some 5 else (bif k == 6 then some 6 else (bif k == 7 then some 7 else (bif k == 8 then some 8 else (bif k == 9 then some 40 else none)))))))))) else (bif Nat.blt i 5 then (bif Nat.blt i 4 then (fun _ => none) else (fun _ => none)) else (bif Nat.blt i 6 then (fun _ => none) else (fun _ => none)))) else (bif Nat.blt i 11 then (bif Nat.blt i 9 then (bif Nat.blt i 8 then (fun _ => none) else (fun k => bif Nat.blt k 31 then some (9 + k) else none)) else (bif Nat.blt i 10 then (fun _ => none) else (fun _ => none))) else (bif Nat.blt i 13 then (bif Nat.blt i 12 then (fun _ => none) else (fun _ => none)) else (bif Nat.blt i 14 then (fun _ => none) else (fun _ => none))))) else (bif Nat.blt i 23 then (bif Nat.blt i 19 then (bif Nat.blt i 17 then (bif Nat.blt i 16 then (fun _ => none) else (fun _ => none)) else (bif Nat.blt i 18 then (fun _ => none) else (fun _ => none))) else (bif Nat.blt i 21 then (bif Nat.blt i 20 then (fun _ => none) else (fun _ => none)) else (bif Nat.blt i 22 then (fun _ => none) else (fun _ => none)))) else (bif Nat.blt i 27 then (bif Nat.blt i 25 then (bif Nat.blt i 24 then (fun _ => none) else (fun _ => none)) else (bif Nat.blt i 26 then (fun _ => none) else (fun _ => none))) else (bif Nat.blt i 29 then (bif Nat.blt i 28 then (fun _ => none) else (fun _ => none)) else (bif Nat.blt i 30 then (fun _ => none) else (fun _ => none)))))) else (bif Nat.blt i 46 then (bif Nat.blt i 38 then (bif Nat.blt i 34 then (bif Nat.blt i 32 then (fun _ => none) else (bif Nat.blt i 33 then (fun _ => none) else (fun _ => none))) else (bif Nat.blt i 36 then (bif Nat.blt i 35 then (fun _ => none) else (fun _ => none)) else (bif Nat.blt i 37 then (fun _ => none) else (fun _ => none)))) else (bif Nat.blt i 42 then (bif Nat.blt i 40 then (bif Nat.blt i 39 then (fun _ => none) else (fun _ => none)) else (bif Nat.blt i 41 then (fun _ => none) else (fun k => (bif k == 0 then some 2 else (bif k == 3 then some 42 else (bif k == 4 then some 43 else (bif k == 5 then some 44 else (bif k == 6 then some 45 else (bif k == 7 then some 46 else (bif k == 8 then some 47 else (bif k == 9 then some 48 else (bif k == 10 then some 49 else (bif k == 11 then some 50 else none))))))))))))) else (bif Nat.blt i 44 then (bif Nat.blt i 43 then (fun _ => none) else (fun _ => none)) else (bif Nat.blt i 45 then (fun _ => none) else (fun _ => none))))) else (bif Nat.blt i 54 then (bif Nat.blt i 50 then (bif Nat.blt i 48 then (bif Nat.blt i 47 then (fun _ => none) else (fun _ => none)) else (bif Nat.blt i 49 then (fun _ => none) else (fun _ => none))) else (bif Nat.blt i 52 then (bif Nat.blt i 51 then (fun _ => none) else (fun k => (bif k == 0 then some 2 else (bif k == 1 then some 41 else (bif k == 2 then some 52 else none))))) else (bif Nat.blt i 53 then (fun _ => none) else (fun k => (bif k == 1 then some 54 else (bif k == 2 then some 55 else (bif k == 3 then some 56 else (bif k == 4 then some 57 else (bif k == 5 then some 64 else (bif k == 7 then some 71 else (bif k == 8 then some 72 else (bif k == 9 then some 73 else none)))))))))))) else (bif Nat.blt i 58 then (bif Nat.blt i 56 then (bif Nat.blt i 55 then (fun _ => none) else (fun _ => none)) else (bif Nat.blt i 57 then (fun _ => none) else (fun k => (bif k == 2 then some 58 else (bif k == 3 then some 59 else (bif k == 4 then some 60 else (bif k == 5 then some 61 else (bif k == 6 then some 62 else (bif k == 7 then some 63 else none))))))))) else (bif Nat.blt i 60 then (bif Nat.blt i 59 then (fun _ => none) else (fun _ => none)) else (bif Nat.blt i 61 then (fun _ => none) else (fun _ => none))))))) else (bif Nat.blt i 93 then (bif Nat.blt i 77 then (bif Nat.blt i 69 then (bif Nat.blt i 65 then (bif Nat.blt i 63 then (fun _ => none) else (bif Nat.blt i 64 then (fun _ => none) else (fun k => (bif k == 2 then some 65 else (bif k == 3 then some 66 else (bif k == 4 then some 67 else (bif k == 5 then some 68 else (bif k == 6 then some 69 else (bif k == 7 then some 70 else none))))))))) else (bif Nat.blt i 67 then (bif Nat.blt i 66 then (fun _ => none) else (fun _ => none)) else (bif Nat.blt i 68 then (fun _ => none) else (fun _ => none)))) else (bif Nat.blt i 73 then (bif Nat.blt i 71 then (bif Nat.blt i 70 then (fun _ => none) else (fun _ => none)) else (bif Nat.blt i 72 then (fun _ => none) else (fun _ => none))) else (bif Nat.blt i 75 then (bif Nat.blt i 74 then (fun k => bif Nat.blt k 21 then some (74 + 5 * k) else none) else (fun k => (bif k == 3 then some 75 else (bif k == 4 then some 76 else (bif k == 5 then some 77 else (bif k == 6 then some 78 else none)))))) else (bif Nat.blt i 76 then (fun _ => none) else (fun _ => none))))) else (bif Nat.blt i 85 then (bif Nat.blt i 81 then (bif Nat.blt i 79 then (bif Nat.blt i 78 then (fun _ => none) else (fun _ => none)) else (bif Nat.blt i 80 then (fun k => (bif k == 3 then some 80 else (bif k == 4 then some 81 else (bif k == 5 then some 82 else (bif k == 6 then some 83 else none))))) else (fun _ => none))) else (bif Nat.blt i 83 then (bif Nat.blt i 82 then (fun _ => none) else (fun _ => none)) else (bif Nat.blt i 84 then (fun _ => none) else (fun k => (bif k == 3 then some 85 else (bif k == 4 then some 86 else (bif k == 5 then some 87 else (bif k == 6 then some 88 else none)))))))) else (bif Nat.blt i 89 then (bif Nat.blt i 87 then (bif Nat.blt i 86 then (fun _ => none) else (fun _ => none)) else (bif Nat.blt i 88 then (fun _ => none) else (fun _ => none))) else (bif Nat.blt i 91 then (bif Nat.blt i 90 then (fun k => (bif k == 3 then some 90 else (bif k == 4 then some 91 else (bif k == 5 then some 92 else (bif k == 6 then some 93 else none))))) else (fun _ => none)) else (bif Nat.blt i 92 then (fun _ => none) else (fun _ => none)))))) else (bif Nat.blt i 109 then (bif Nat.blt i 101 then (bif Nat.blt i 97 then (bif Nat.blt i 95 then (bif Nat.blt i 94 then (fun _ => none) else (fun k => (bif k == 3 then some 95 else (bif k == 4 then some 96 else (bif k == 5 then some 97 else (bif k == 6 then some 98 else none)))))) else (bif Nat.blt i 96 then (fun _ => none) else (fun _ => none))) else (bif Nat.blt i 99 then (bif Nat.blt i 98 then (fun _ => none) else (fun _ => none)) else (bif Nat.blt i 100 then (fun k => (bif k == 3 then some 100 else (bif k == 4 then some 101 else (bif k == 5 then some 102 else (bif k == 6 then some 103 else none))))) else (fun _ => none)))) else (bif Nat.blt i 105 then (bif Nat.blt i 103 then (bif Nat.blt i 102 then (fun _ => none) else (fun _ => none)) else (bif Nat.blt i 104 then (fun _ => none) else (fun k => (bif k == 3 then some 105 else (bif k == 4 then some 106 else (bif k == 5 then some 107 else (bif k == 6 then some 108 else none))))))) else (bif Nat.blt i 107 then (bif Nat.blt i 106 then (fun _ => none) else (fun _ => none)) else (bif Nat.blt i 108 then (fun _ => none) else (fun _ => none))))) else (bif Nat.blt i 117 then (bif Nat.blt i 113 then (bif Nat.blt i 111 then (bif Nat.blt i 110 then (fun k => (bif k == 3 then some 110 else (bif k == 4 then some 111 else (bif k == 5 then some 112 else (bif k == 6 then some 113 else none))))) else (fun _ => none)) else (bif Nat.blt i 112 then (fun _ => none) else (fun _ => none))) else (bif Nat.blt i 115 then (bif Nat.blt i 114 then (fun _ => none) else (fun k => (bif k == 3 then some 115 else (bif k == 4 then some 116 else (bif k == 5 then some 117 else (bif k == 6 then some 118 else none)))))) else (bif Nat.blt i 116 then (fun _ => none) else (fun _ => none)))) else (bif Nat.blt i 121 then (bif Nat.blt i 119 then (bif Nat.blt i 118 then (fun _ => none) else (fun _ => none)) else (bif Nat.blt i 120 then (fun k => (bif k == 3 then some 120 else (bif k == 4 then some 121 else (bif k == 5 then some 122 else (bif k == 6 then some 123 else none))))) else (fun _ => none))) else (bif Nat.blt i 123 then (bif Nat.blt i 122 then (fun _ => none) else (fun _ => none)) else (bif Nat.blt i 124 then (fun _ => none) else (fun k => (bif k == 3 then some 125 else (bif k == 4 then some 126 else (bif k == 5 then some 127 else (bif k == 6 then some 128 else none)))))))))))) else (bif Nat.blt i 187 then (bif Nat.blt i 156 then (bif Nat.blt i 140 then (bif Nat.blt i 132 then (bif Nat.blt i 128 then (bif Nat.blt i 126 then (fun _ => none) else (bif Nat.blt i 127 then (fun _ => none) else (fun _ => none))) else (bif Nat.blt i 130 then (bif Nat.blt i 129 then (fun _ => none) else (fun k => (bif k == 3 then some 130 else (bif k == 4 then some 131 else (bif k == 5 then some 132 else (bif k == 6 then some 133 else none)))))) else (bif Nat.blt i 131 then (fun _ => none) else (fun _ => none)))) else (bif Nat.blt i 136 then (bif Nat.blt i 134 then (bif Nat.blt i 133 then (fun _ => none) else (fun _ => none)) else (bif Nat.blt i 135 then (fun k => (bif k == 3 then some 135 else (bif k == 4 then some 136 else (bif k == 5 then some 137 else (bif k == 6 then some 138 else none))))) else (fun _ => none))) else (bif Nat.blt i 138 then (bif Nat.blt i 137 then (fun _ => none) else (fun _ => none)) else (bif Nat.blt i 139 then (fun _ => none) else (fun k => (bif k == 3 then some 140 else (bif k == 4 then some 141 else (bif k == 5 then some 142 else (bif k == 6 then some 143 else none))))))))) else (bif Nat.blt i 148 then (bif Nat.blt i 144 then (bif Nat.blt i 142 then (bif Nat.blt i 141 then (fun _ => none) else (fun _ => none)) else (bif Nat.blt i 143 then (fun _ => none) else (fun _ => none))) else (bif Nat.blt i 146 then (bif Nat.blt i 145 then (fun k => (bif k == 3 then some 145 else (bif k == 4 then some 146 else (bif k == 5 then some 147 else (bif k == 6 then some 148 else none))))) else (fun _ => none)) else (bif Nat.blt i 147 then (fun _ => none) else (fun _ => none)))) else (bif Nat.blt i 152 then (bif Nat.blt i 150 then (bif Nat.blt i 149 then (fun _ => none) else (fun k => (bif k == 3 then some 150 else (bif k == 4 then some 151 else (bif k == 5 then some 152 else (bif k == 6 then some 153 else none)))))) else (bif Nat.blt i 151 then (fun _ => none) else (fun _ => none))) else (bif Nat.blt i 154 then (bif Nat.blt i 153 then (fun _ => none) else (fun _ => none)) else (bif Nat.blt i 155 then (fun k => (bif k == 3 then some 155 else (bif k == 4 then some 156 else (bif k == 5 then some 157 else (bif k == 6 then some 158 else none))))) else (fun _ => none)))))) else (bif Nat.blt i 171 then (bif Nat.blt i 163 then (bif Nat.blt i 159 then (bif Nat.blt i 157 then (fun _ => none) else (bif Nat.blt i 158 then (fun _ => none) else (fun _ => none))) else (bif Nat.blt i 161 then (bif Nat.blt i 160 then (fun k => (bif k == 3 then some 160 else (bif k == 4 then some 161 else (bif k == 5 then some 162 else (bif k == 6 then some 163 else none))))) else (fun _ => none)) else (bif Nat.blt i 162 then (fun _ => none) else (fun _ => none)))) else (bif Nat.blt i 167 then (bif Nat.blt i 165 then (bif Nat.blt i 164 then (fun _ => none) else (fun k => (bif k == 3 then some 165 else (bif k == 4 then some 166 else (bif k == 5 then some 167 else (bif k == 6 then some 168 else none)))))) else (bif Nat.blt i 166 then (fun _ => none) else (fun _ => none))) else (bif Nat.blt i 169 then (bif Nat.blt i 168 then (fun _ => none) else (fun _ => none)) else (bif Nat.blt i 170 then (fun k => (bif k == 3 then some 170 else (bif k == 4 then some 171 else (bif k == 5 then some 172 else (bif k == 6 then some 173 else none))))) else (fun _ => none))))) else (bif Nat.blt i 179 then (bif Nat.blt i 175 then (bif Nat.blt i 173 then (bif Nat.blt i 172 then (fun _ => none) else (fun _ => none)) else (bif Nat.blt i 174 then (fun _ => none) else (fun k => (bif k == 3 then some 175 else (bif k == 4 then some 176 else (bif k == 5 then some 177 else (bif k == 6 then some 178 else none))))))) else (bif Nat.blt i 177 then (bif Nat.blt i 176 then (fun _ => none) else (fun _ => none)) else (bif Nat.blt i 178 then (fun _ => none) else (fun _ => none)))) else (bif Nat.blt i 183 then (bif Nat.blt i 181 then (bif Nat.blt i 180 then (fun k => (bif k == 0 then some 2 else (bif k == 1 then some 180 else (bif k == 4 then some 181 else (bif k == 5 then some 182 else (bif k == 6 then some 183 else (bif k == 7 then some 185 else (bif k == 8 then some 187 else (bif k == 9 then some 189 else (bif k == 10 then some 191 else (bif k == 11 then some 193 else (bif k == 12 then some 195 else (bif k == 13 then some 197 else (bif k == 14 then some 199 else none)))))))))))))) else (fun _ => none)) else (bif Nat.blt i 182 then (fun _ => none) else (fun k => bif Nat.blt k 9 then some (201 + 2 * k) else none))) else (bif Nat.blt i 185 then (bif Nat.blt i 184 then (fun k => (bif k == 0 then some 184 else none)) else (fun _ => none)) else (bif Nat.blt i 186 then (fun k => (bif k == 0 then some 186 else none)) else (fun _ => none))))))) else (bif Nat.blt i 218 then (bif Nat.blt i 202 then (bif Nat.blt i 194 then (bif Nat.blt i 190 then (bif Nat.blt i 188 then (fun k => (bif k == 0 then some 188 else none)) else (bif Nat.blt i 189 then (fun _ => none) else (fun k => (bif k == 0 then some 190 else none)))) else (bif Nat.blt i 192 then (bif Nat.blt i 191 then (fun _ => none) else (fun k => (bif k == 0 then some 192 else none))) else (bif Nat.blt i 193 then (fun _ => none) else (fun k => (bif k == 0 then some 194 else none))))) else (bif Nat.blt i 198 then (bif Nat.blt i 196 then (bif Nat.blt i 195 then (fun _ => none) else (fun k => (bif k == 0 then some 196 else none))) else (bif Nat.blt i 197 then (fun _ => none) else (fun k => (bif k == 0 then some 198 else none)))) else (bif Nat.blt i 200 then (bif Nat.blt i 199 then (fun _ => none) else (fun k => (bif k == 0 then some 200 else none))) else (bif Nat.blt i 201 then (fun _ => none) else (fun k => (bif k == 0 then some 202 else none)))))) else (bif Nat.blt i 210 then (bif Nat.blt i 206 then (bif Nat.blt i 204 then (bif Nat.blt i 203 then (fun _ => none) else (fun k => (bif k == 0 then some 204 else none))) else (bif Nat.blt i 205 then (fun _ => none) else (fun k => (bif k == 0 then some 206 else none)))) else (bif Nat.blt i 208 then (bif Nat.blt i 207 then (fun _ => none) else (fun k => (bif k == 0 then some 208 else none))) else (bif Nat.blt i 209 then (fun _ => none) else (fun k => (bif k == 0 then some 210 else none))))) else (bif Nat.blt i 214 then (bif Nat.blt i 212 then (bif Nat.blt i 211 then (fun _ => none) else (fun k => (bif k == 0 then some 212 else none))) else (bif Nat.blt i 213 then (fun _ => none) else (fun k => (bif k == 0 then some 214 else none)))) else (bif Nat.blt i 216 then (bif Nat.blt i 215 then (fun _ => none) else (fun k => (bif k == 0 then some 216 else none))) else (bif Nat.blt i 217 then (fun _ => none) else (fun k => (bif k == 0 then some 218 else none))))))) else (bif Nat.blt i 234 then (bif Nat.blt i 226 then (bif Nat.blt i 222 then (bif Nat.blt i 220 then (bif Nat.blt i 219 then (fun _ => none) else (fun k => (bif k == 1 then some 220 else (bif k == 2 then some 221 else (bif k == 3 then some 224 else (bif k == 4 then some 242 else none)))))) else (bif Nat.blt i 221 then (fun _ => none) else (fun k => bif Nat.blt k 2 then some (222 + k) else none))) else (bif Nat.blt i 224 then (bif Nat.blt i 223 then (fun _ => none) else (fun _ => none)) else (bif Nat.blt i 225 then (fun k => bif Nat.blt k 17 then some (225 + k) else none) else (fun _ => none)))) else (bif Nat.blt i 230 then (bif Nat.blt i 228 then (bif Nat.blt i 227 then (fun _ => none) else (fun _ => none)) else (bif Nat.blt i 229 then (fun _ => none) else (fun _ => none))) else (bif Nat.blt i 232 then (bif Nat.blt i 231 then (fun _ => none) else (fun _ => none)) else (bif Nat.blt i 233 then (fun _ => none) else (fun _ => none))))) else (bif Nat.blt i 242 then (bif Nat.blt i 238 then (bif Nat.blt i 236 then (bif Nat.blt i 235 then (fun _ => none) else (fun _ => none)) else (bif Nat.blt i 237 then (fun _ => none) else (fun _ => none))) else (bif Nat.blt i 240 then (bif Nat.blt i 239 then (fun _ => none) else (fun _ => none)) else (bif Nat.blt i 241 then (fun _ => none) else (fun _ => none)))) else (bif Nat.blt i 246 then (bif Nat.blt i 244 then (bif Nat.blt i 243 then (fun _ => none) else (fun k => (bif k == 2 then some 244 else (bif k == 3 then some 245 else none)))) else (bif Nat.blt i 245 then (fun _ => none) else (fun _ => none))) else (bif Nat.blt i 248 then (bif Nat.blt i 247 then (fun _ => none) else (fun _ => none)) else (bif Nat.blt i 249 then (fun _ => none) else (fun _ => none)))))))))
abbrev Lay (E : Ev) : Prop := 250 ≤ nE E ∧ (∀ i, i < 250 → tE E i = T0 i) ∧ (∀ i, i < 250 → i ≠ 180 → i ≠ 181 → ∀ k, k < 32 → rE E i k = R0 i k)
theorem yi_0 {E : Ev} (h : Lay E) : 0 < nE E := Nat.lt_of_lt_of_le (by decide) h.1
theorem yt_0 {E : Ev} (h : Lay E) : tE E 0 = (0, 1) := (h.2.1 0 (by decide)).trans rfl
theorem yi_1 {E : Ev} (h : Lay E) : 1 < nE E := Nat.lt_of_lt_of_le (by decide) h.1
theorem yt_1 {E : Ev} (h : Lay E) : tE E 1 = (111, 0) := (h.2.1 1 (by decide)).trans rfl
theorem yi_2 {E : Ev} (h : Lay E) : 2 < nE E := Nat.lt_of_lt_of_le (by decide) h.1
theorem yt_2 {E : Ev} (h : Lay E) : tE E 2 = (100, 0) := (h.2.1 2 (by decide)).trans rfl
theorem yi_3 {E : Ev} (h : Lay E) : 3 < nE E := Nat.lt_of_lt_of_le (by decide) h.1
theorem yt_3 {E : Ev} (h : Lay E) : tE E 3 = (0, 30) := (h.2.1 3 (by decide)).trans rfl
theorem yi_4 {E : Ev} (h : Lay E) : 4 < nE E := Nat.lt_of_lt_of_le (by decide) h.1
theorem yt_4 {E : Ev} (h : Lay E) : tE E 4 = (0, 8) := (h.2.1 4 (by decide)).trans rfl
theorem yi_5 {E : Ev} (h : Lay E) : 5 < nE E := Nat.lt_of_lt_of_le (by decide) h.1
theorem yt_5 {E : Ev} (h : Lay E) : tE E 5 = (0, 31) := (h.2.1 5 (by decide)).trans rfl
theorem yi_6 {E : Ev} (h : Lay E) : 6 < nE E := Nat.lt_of_lt_of_le (by decide) h.1
theorem yt_6 {E : Ev} (h : Lay E) : tE E 6 = (0, 31) := (h.2.1 6 (by decide)).trans rfl
theorem yi_7 {E : Ev} (h : Lay E) : 7 < nE E := Nat.lt_of_lt_of_le (by decide) h.1
theorem yt_7 {E : Ev} (h : Lay E) : tE E 7 = (0, 31) := (h.2.1 7 (by decide)).trans rfl
theorem yi_8 {E : Ev} (h : Lay E) : 8 < nE E := Nat.lt_of_lt_of_le (by decide) h.1
theorem yt_8 {E : Ev} (h : Lay E) : tE E 8 = (6, 31) := (h.2.1 8 (by decide)).trans rfl
theorem yi_9 {E : Ev} (h : Lay E) : 9 < nE E := Nat.lt_of_lt_of_le (by decide) h.1
theorem yt_9 {E : Ev} (h : Lay E) : tE E 9 = (0, 8) := (h.2.1 9 (by decide)).trans rfl
theorem yi_10 {E : Ev} (h : Lay E) : 10 < nE E := Nat.lt_of_lt_of_le (by decide) h.1
theorem yt_10 {E : Ev} (h : Lay E) : tE E 10 = (0, 8) := (h.2.1 10 (by decide)).trans rfl
theorem yi_11 {E : Ev} (h : Lay E) : 11 < nE E := Nat.lt_of_lt_of_le (by decide) h.1
theorem yt_11 {E : Ev} (h : Lay E) : tE E 11 = (0, 8) := (h.2.1 11 (by decide)).trans rfl
theorem yi_12 {E : Ev} (h : Lay E) : 12 < nE E := Nat.lt_of_lt_of_le (by decide) h.1
theorem yt_12 {E : Ev} (h : Lay E) : tE E 12 = (0, 8) := (h.2.1 12 (by decide)).trans rfl
theorem yi_13 {E : Ev} (h : Lay E) : 13 < nE E := Nat.lt_of_lt_of_le (by decide) h.1
theorem yt_13 {E : Ev} (h : Lay E) : tE E 13 = (0, 8) := (h.2.1 13 (by decide)).trans rfl
theorem yi_14 {E : Ev} (h : Lay E) : 14 < nE E := Nat.lt_of_lt_of_le (by decide) h.1
theorem yt_14 {E : Ev} (h : Lay E) : tE E 14 = (0, 8) := (h.2.1 14 (by decide)).trans rfl
theorem yi_15 {E : Ev} (h : Lay E) : 15 < nE E := Nat.lt_of_lt_of_le (by decide) h.1
theorem yt_15 {E : Ev} (h : Lay E) : tE E 15 = (0, 8) := (h.2.1 15 (by decide)).trans rfl
theorem yi_16 {E : Ev} (h : Lay E) : 16 < nE E := Nat.lt_of_lt_of_le (by decide) h.1
theorem yt_16 {E : Ev} (h : Lay E) : tE E 16 = (0, 8) := (h.2.1 16 (by decide)).trans rfl
theorem yi_17 {E : Ev} (h : Lay E) : 17 < nE E := Nat.lt_of_lt_of_le (by decide) h.1
theorem yt_17 {E : Ev} (h : Lay E) : tE E 17 = (0, 8) := (h.2.1 17 (by decide)).trans rfl
theorem yi_18 {E : Ev} (h : Lay E) : 18 < nE E := Nat.lt_of_lt_of_le (by decide) h.1
theorem yt_18 {E : Ev} (h : Lay E) : tE E 18 = (0, 8) := (h.2.1 18 (by decide)).trans rfl
theorem yi_19 {E : Ev} (h : Lay E) : 19 < nE E := Nat.lt_of_lt_of_le (by decide) h.1
theorem yt_19 {E : Ev} (h : Lay E) : tE E 19 = (0, 8) := (h.2.1 19 (by decide)).trans rfl
theorem yi_20 {E : Ev} (h : Lay E) : 20 < nE E := Nat.lt_of_lt_of_le (by decide) h.1
theorem yt_20 {E : Ev} (h : Lay E) : tE E 20 = (0, 8) := (h.2.1 20 (by decide)).trans rfl
theorem yi_21 {E : Ev} (h : Lay E) : 21 < nE E := Nat.lt_of_lt_of_le (by decide) h.1
theorem yt_21 {E : Ev} (h : Lay E) : tE E 21 = (0, 8) := (h.2.1 21 (by decide)).trans rfl
theorem yi_22 {E : Ev} (h : Lay E) : 22 < nE E := Nat.lt_of_lt_of_le (by decide) h.1
theorem yt_22 {E : Ev} (h : Lay E) : tE E 22 = (0, 8) := (h.2.1 22 (by decide)).trans rfl
theorem yi_23 {E : Ev} (h : Lay E) : 23 < nE E := Nat.lt_of_lt_of_le (by decide) h.1
theorem yt_23 {E : Ev} (h : Lay E) : tE E 23 = (0, 8) := (h.2.1 23 (by decide)).trans rfl
theorem yi_24 {E : Ev} (h : Lay E) : 24 < nE E := Nat.lt_of_lt_of_le (by decide) h.1
theorem yt_24 {E : Ev} (h : Lay E) : tE E 24 = (0, 8) := (h.2.1 24 (by decide)).trans rfl
theorem yi_25 {E : Ev} (h : Lay E) : 25 < nE E := Nat.lt_of_lt_of_le (by decide) h.1
theorem yt_25 {E : Ev} (h : Lay E) : tE E 25 = (0, 8) := (h.2.1 25 (by decide)).trans rfl
theorem yi_26 {E : Ev} (h : Lay E) : 26 < nE E := Nat.lt_of_lt_of_le (by decide) h.1
theorem yt_26 {E : Ev} (h : Lay E) : tE E 26 = (0, 8) := (h.2.1 26 (by decide)).trans rfl
theorem yi_27 {E : Ev} (h : Lay E) : 27 < nE E := Nat.lt_of_lt_of_le (by decide) h.1
theorem yt_27 {E : Ev} (h : Lay E) : tE E 27 = (0, 8) := (h.2.1 27 (by decide)).trans rfl
theorem yi_28 {E : Ev} (h : Lay E) : 28 < nE E := Nat.lt_of_lt_of_le (by decide) h.1
theorem yt_28 {E : Ev} (h : Lay E) : tE E 28 = (0, 8) := (h.2.1 28 (by decide)).trans rfl
theorem yi_29 {E : Ev} (h : Lay E) : 29 < nE E := Nat.lt_of_lt_of_le (by decide) h.1
theorem yt_29 {E : Ev} (h : Lay E) : tE E 29 = (0, 8) := (h.2.1 29 (by decide)).trans rfl
theorem yi_30 {E : Ev} (h : Lay E) : 30 < nE E := Nat.lt_of_lt_of_le (by decide) h.1
theorem yt_30 {E : Ev} (h : Lay E) : tE E 30 = (0, 8) := (h.2.1 30 (by decide)).trans rfl
theorem yi_31 {E : Ev} (h : Lay E) : 31 < nE E := Nat.lt_of_lt_of_le (by decide) h.1
theorem yt_31 {E : Ev} (h : Lay E) : tE E 31 = (0, 8) := (h.2.1 31 (by decide)).trans rfl
theorem yi_32 {E : Ev} (h : Lay E) : 32 < nE E := Nat.lt_of_lt_of_le (by decide) h.1
theorem yt_32 {E : Ev} (h : Lay E) : tE E 32 = (0, 8) := (h.2.1 32 (by decide)).trans rfl
theorem yi_33 {E : Ev} (h : Lay E) : 33 < nE E := Nat.lt_of_lt_of_le (by decide) h.1
theorem yt_33 {E : Ev} (h : Lay E) : tE E 33 = (0, 8) := (h.2.1 33 (by decide)).trans rfl
theorem yi_34 {E : Ev} (h : Lay E) : 34 < nE E := Nat.lt_of_lt_of_le (by decide) h.1
theorem yt_34 {E : Ev} (h : Lay E) : tE E 34 = (0, 8) := (h.2.1 34 (by decide)).trans rfl
theorem yi_35 {E : Ev} (h : Lay E) : 35 < nE E := Nat.lt_of_lt_of_le (by decide) h.1
theorem yt_35 {E : Ev} (h : Lay E) : tE E 35 = (0, 8) := (h.2.1 35 (by decide)).trans rfl
theorem yi_36 {E : Ev} (h : Lay E) : 36 < nE E := Nat.lt_of_lt_of_le (by decide) h.1
theorem yt_36 {E : Ev} (h : Lay E) : tE E 36 = (0, 8) := (h.2.1 36 (by decide)).trans rfl
theorem yi_37 {E : Ev} (h : Lay E) : 37 < nE E := Nat.lt_of_lt_of_le (by decide) h.1
theorem yt_37 {E : Ev} (h : Lay E) : tE E 37 = (0, 8) := (h.2.1 37 (by decide)).trans rfl
theorem yi_38 {E : Ev} (h : Lay E) : 38 < nE E := Nat.lt_of_lt_of_le (by decide) h.1
theorem yt_38 {E : Ev} (h : Lay E) : tE E 38 = (0, 8) := (h.2.1 38 (by decide)).trans rfl
theorem yi_39 {E : Ev} (h : Lay E) : 39 < nE E := Nat.lt_of_lt_of_le (by decide) h.1
theorem yt_39 {E : Ev} (h : Lay E) : tE E 39 = (0, 8) := (h.2.1 39 (by decide)).trans rfl
theorem yi_40 {E : Ev} (h : Lay E) : 40 < nE E := Nat.lt_of_lt_of_le (by decide) h.1
theorem yt_40 {E : Ev} (h : Lay E) : tE E 40 = (0, 256) := (h.2.1 40 (by decide)).trans rfl
theorem yi_41 {E : Ev} (h : Lay E) : 41 < nE E := Nat.lt_of_lt_of_le (by decide) h.1
theorem yt_41 {E : Ev} (h : Lay E) : tE E 41 = (109, 0) := (h.2.1 41 (by decide)).trans rfl
theorem yi_42 {E : Ev} (h : Lay E) : 42 < nE E := Nat.lt_of_lt_of_le (by decide) h.1
theorem yt_42 {E : Ev} (h : Lay E) : tE E 42 = (0, 31) := (h.2.1 42 (by decide)).trans rfl
theorem yi_43 {E : Ev} (h : Lay E) : 43 < nE E := Nat.lt_of_lt_of_le (by decide) h.1
theorem yt_43 {E : Ev} (h : Lay E) : tE E 43 = (0, 8) := (h.2.1 43 (by decide)).trans rfl
theorem yi_44 {E : Ev} (h : Lay E) : 44 < nE E := Nat.lt_of_lt_of_le (by decide) h.1
theorem yt_44 {E : Ev} (h : Lay E) : tE E 44 = (0, 8) := (h.2.1 44 (by decide)).trans rfl
theorem yi_45 {E : Ev} (h : Lay E) : 45 < nE E := Nat.lt_of_lt_of_le (by decide) h.1
theorem yt_45 {E : Ev} (h : Lay E) : tE E 45 = (0, 64) := (h.2.1 45 (by decide)).trans rfl
theorem yi_46 {E : Ev} (h : Lay E) : 46 < nE E := Nat.lt_of_lt_of_le (by decide) h.1
theorem yt_46 {E : Ev} (h : Lay E) : tE E 46 = (0, 8) := (h.2.1 46 (by decide)).trans rfl
theorem yi_47 {E : Ev} (h : Lay E) : 47 < nE E := Nat.lt_of_lt_of_le (by decide) h.1
theorem yt_47 {E : Ev} (h : Lay E) : tE E 47 = (0, 64) := (h.2.1 47 (by decide)).trans rfl
theorem yi_48 {E : Ev} (h : Lay E) : 48 < nE E := Nat.lt_of_lt_of_le (by decide) h.1
theorem yt_48 {E : Ev} (h : Lay E) : tE E 48 = (1, 8) := (h.2.1 48 (by decide)).trans rfl
theorem yi_49 {E : Ev} (h : Lay E) : 49 < nE E := Nat.lt_of_lt_of_le (by decide) h.1
theorem yt_49 {E : Ev} (h : Lay E) : tE E 49 = (0, 8) := (h.2.1 49 (by decide)).trans rfl
theorem yi_50 {E : Ev} (h : Lay E) : 50 < nE E := Nat.lt_of_lt_of_le (by decide) h.1
theorem yt_50 {E : Ev} (h : Lay E) : tE E 50 = (1, 256) := (h.2.1 50 (by decide)).trans rfl
theorem yi_51 {E : Ev} (h : Lay E) : 51 < nE E := Nat.lt_of_lt_of_le (by decide) h.1
theorem yt_51 {E : Ev} (h : Lay E) : tE E 51 = (105, 0) := (h.2.1 51 (by decide)).trans rfl
theorem yi_52 {E : Ev} (h : Lay E) : 52 < nE E := Nat.lt_of_lt_of_le (by decide) h.1
theorem yt_52 {E : Ev} (h : Lay E) : tE E 52 = (0, 5) := (h.2.1 52 (by decide)).trans rfl
theorem yi_53 {E : Ev} (h : Lay E) : 53 < nE E := Nat.lt_of_lt_of_le (by decide) h.1
theorem yt_53 {E : Ev} (h : Lay E) : tE E 53 = (107, 0) := (h.2.1 53 (by decide)).trans rfl
theorem yi_54 {E : Ev} (h : Lay E) : 54 < nE E := Nat.lt_of_lt_of_le (by decide) h.1
theorem yt_54 {E : Ev} (h : Lay E) : tE E 54 = (0, 8) := (h.2.1 54 (by decide)).trans rfl
theorem yi_55 {E : Ev} (h : Lay E) : 55 < nE E := Nat.lt_of_lt_of_le (by decide) h.1
theorem yt_55 {E : Ev} (h : Lay E) : tE E 55 = (0, 8) := (h.2.1 55 (by decide)).trans rfl
theorem yi_56 {E : Ev} (h : Lay E) : 56 < nE E := Nat.lt_of_lt_of_le (by decide) h.1
theorem yt_56 {E : Ev} (h : Lay E) : tE E 56 = (0, 8) := (h.2.1 56 (by decide)).trans rfl
theorem yi_57 {E : Ev} (h : Lay E) : 57 < nE E := Nat.lt_of_lt_of_le (by decide) h.1
theorem yt_57 {E : Ev} (h : Lay E) : tE E 57 = (104, 0) := (h.2.1 57 (by decide)).trans rfl
theorem yi_58 {E : Ev} (h : Lay E) : 58 < nE E := Nat.lt_of_lt_of_le (by decide) h.1
theorem yt_58 {E : Ev} (h : Lay E) : tE E 58 = (0, 8) := (h.2.1 58 (by decide)).trans rfl
theorem yi_59 {E : Ev} (h : Lay E) : 59 < nE E := Nat.lt_of_lt_of_le (by decide) h.1
theorem yt_59 {E : Ev} (h : Lay E) : tE E 59 = (1, 8) := (h.2.1 59 (by decide)).trans rfl
theorem yi_60 {E : Ev} (h : Lay E) : 60 < nE E := Nat.lt_of_lt_of_le (by decide) h.1
theorem yt_60 {E : Ev} (h : Lay E) : tE E 60 = (0, 8) := (h.2.1 60 (by decide)).trans rfl
theorem yi_61 {E : Ev} (h : Lay E) : 61 < nE E := Nat.lt_of_lt_of_le (by decide) h.1
theorem yt_61 {E : Ev} (h : Lay E) : tE E 61 = (0, 8) := (h.2.1 61 (by decide)).trans rfl
theorem yi_62 {E : Ev} (h : Lay E) : 62 < nE E := Nat.lt_of_lt_of_le (by decide) h.1
theorem yt_62 {E : Ev} (h : Lay E) : tE E 62 = (1, 8) := (h.2.1 62 (by decide)).trans rfl
theorem yi_63 {E : Ev} (h : Lay E) : 63 < nE E := Nat.lt_of_lt_of_le (by decide) h.1
theorem yt_63 {E : Ev} (h : Lay E) : tE E 63 = (0, 61) := (h.2.1 63 (by decide)).trans rfl
theorem yi_64 {E : Ev} (h : Lay E) : 64 < nE E := Nat.lt_of_lt_of_le (by decide) h.1
theorem yt_64 {E : Ev} (h : Lay E) : tE E 64 = (104, 0) := (h.2.1 64 (by decide)).trans rfl
theorem yi_65 {E : Ev} (h : Lay E) : 65 < nE E := Nat.lt_of_lt_of_le (by decide) h.1
theorem yt_65 {E : Ev} (h : Lay E) : tE E 65 = (0, 8) := (h.2.1 65 (by decide)).trans rfl
theorem yi_66 {E : Ev} (h : Lay E) : 66 < nE E := Nat.lt_of_lt_of_le (by decide) h.1
theorem yt_66 {E : Ev} (h : Lay E) : tE E 66 = (1, 8) := (h.2.1 66 (by decide)).trans rfl
theorem yi_67 {E : Ev} (h : Lay E) : 67 < nE E := Nat.lt_of_lt_of_le (by decide) h.1
theorem yt_67 {E : Ev} (h : Lay E) : tE E 67 = (0, 8) := (h.2.1 67 (by decide)).trans rfl
theorem yi_68 {E : Ev} (h : Lay E) : 68 < nE E := Nat.lt_of_lt_of_le (by decide) h.1
theorem yt_68 {E : Ev} (h : Lay E) : tE E 68 = (0, 8) := (h.2.1 68 (by decide)).trans rfl
theorem yi_69 {E : Ev} (h : Lay E) : 69 < nE E := Nat.lt_of_lt_of_le (by decide) h.1
theorem yt_69 {E : Ev} (h : Lay E) : tE E 69 = (1, 8) := (h.2.1 69 (by decide)).trans rfl
theorem yi_70 {E : Ev} (h : Lay E) : 70 < nE E := Nat.lt_of_lt_of_le (by decide) h.1
theorem yt_70 {E : Ev} (h : Lay E) : tE E 70 = (0, 61) := (h.2.1 70 (by decide)).trans rfl
theorem yi_71 {E : Ev} (h : Lay E) : 71 < nE E := Nat.lt_of_lt_of_le (by decide) h.1
theorem yt_71 {E : Ev} (h : Lay E) : tE E 71 = (0, 8) := (h.2.1 71 (by decide)).trans rfl
theorem yi_72 {E : Ev} (h : Lay E) : 72 < nE E := Nat.lt_of_lt_of_le (by decide) h.1
theorem yt_72 {E : Ev} (h : Lay E) : tE E 72 = (0, 8) := (h.2.1 72 (by decide)).trans rfl
theorem yi_73 {E : Ev} (h : Lay E) : 73 < nE E := Nat.lt_of_lt_of_le (by decide) h.1
theorem yt_73 {E : Ev} (h : Lay E) : tE E 73 = (3, 21) := (h.2.1 73 (by decide)).trans rfl
theorem yi_74 {E : Ev} (h : Lay E) : 74 < nE E := Nat.lt_of_lt_of_le (by decide) h.1
theorem yt_74 {E : Ev} (h : Lay E) : tE E 74 = (106, 0) := (h.2.1 74 (by decide)).trans rfl
theorem yi_75 {E : Ev} (h : Lay E) : 75 < nE E := Nat.lt_of_lt_of_le (by decide) h.1
theorem yt_75 {E : Ev} (h : Lay E) : tE E 75 = (0, 60) := (h.2.1 75 (by decide)).trans rfl
theorem yi_76 {E : Ev} (h : Lay E) : 76 < nE E := Nat.lt_of_lt_of_le (by decide) h.1
theorem yt_76 {E : Ev} (h : Lay E) : tE E 76 = (0, 8) := (h.2.1 76 (by decide)).trans rfl
theorem yi_77 {E : Ev} (h : Lay E) : 77 < nE E := Nat.lt_of_lt_of_le (by decide) h.1
theorem yt_77 {E : Ev} (h : Lay E) : tE E 77 = (0, 8) := (h.2.1 77 (by decide)).trans rfl
theorem yi_78 {E : Ev} (h : Lay E) : 78 < nE E := Nat.lt_of_lt_of_le (by decide) h.1
theorem yt_78 {E : Ev} (h : Lay E) : tE E 78 = (0, 8) := (h.2.1 78 (by decide)).trans rfl
theorem yi_79 {E : Ev} (h : Lay E) : 79 < nE E := Nat.lt_of_lt_of_le (by decide) h.1
theorem yt_79 {E : Ev} (h : Lay E) : tE E 79 = (106, 0) := (h.2.1 79 (by decide)).trans rfl
theorem yi_80 {E : Ev} (h : Lay E) : 80 < nE E := Nat.lt_of_lt_of_le (by decide) h.1
theorem yt_80 {E : Ev} (h : Lay E) : tE E 80 = (0, 60) := (h.2.1 80 (by decide)).trans rfl
theorem yi_81 {E : Ev} (h : Lay E) : 81 < nE E := Nat.lt_of_lt_of_le (by decide) h.1
theorem yt_81 {E : Ev} (h : Lay E) : tE E 81 = (0, 8) := (h.2.1 81 (by decide)).trans rfl
theorem yi_82 {E : Ev} (h : Lay E) : 82 < nE E := Nat.lt_of_lt_of_le (by decide) h.1
theorem yt_82 {E : Ev} (h : Lay E) : tE E 82 = (0, 8) := (h.2.1 82 (by decide)).trans rfl
theorem yi_83 {E : Ev} (h : Lay E) : 83 < nE E := Nat.lt_of_lt_of_le (by decide) h.1
theorem yt_83 {E : Ev} (h : Lay E) : tE E 83 = (0, 8) := (h.2.1 83 (by decide)).trans rfl
theorem yi_84 {E : Ev} (h : Lay E) : 84 < nE E := Nat.lt_of_lt_of_le (by decide) h.1
theorem yt_84 {E : Ev} (h : Lay E) : tE E 84 = (106, 0) := (h.2.1 84 (by decide)).trans rfl
theorem yi_85 {E : Ev} (h : Lay E) : 85 < nE E := Nat.lt_of_lt_of_le (by decide) h.1
theorem yt_85 {E : Ev} (h : Lay E) : tE E 85 = (0, 60) := (h.2.1 85 (by decide)).trans rfl
theorem yi_86 {E : Ev} (h : Lay E) : 86 < nE E := Nat.lt_of_lt_of_le (by decide) h.1
theorem yt_86 {E : Ev} (h : Lay E) : tE E 86 = (0, 8) := (h.2.1 86 (by decide)).trans rfl
theorem yi_87 {E : Ev} (h : Lay E) : 87 < nE E := Nat.lt_of_lt_of_le (by decide) h.1
theorem yt_87 {E : Ev} (h : Lay E) : tE E 87 = (0, 8) := (h.2.1 87 (by decide)).trans rfl
theorem yi_88 {E : Ev} (h : Lay E) : 88 < nE E := Nat.lt_of_lt_of_le (by decide) h.1
theorem yt_88 {E : Ev} (h : Lay E) : tE E 88 = (0, 8) := (h.2.1 88 (by decide)).trans rfl
theorem yi_89 {E : Ev} (h : Lay E) : 89 < nE E := Nat.lt_of_lt_of_le (by decide) h.1
theorem yt_89 {E : Ev} (h : Lay E) : tE E 89 = (106, 0) := (h.2.1 89 (by decide)).trans rfl
theorem yi_90 {E : Ev} (h : Lay E) : 90 < nE E := Nat.lt_of_lt_of_le (by decide) h.1
theorem yt_90 {E : Ev} (h : Lay E) : tE E 90 = (0, 60) := (h.2.1 90 (by decide)).trans rfl
theorem yi_91 {E : Ev} (h : Lay E) : 91 < nE E := Nat.lt_of_lt_of_le (by decide) h.1
theorem yt_91 {E : Ev} (h : Lay E) : tE E 91 = (0, 8) := (h.2.1 91 (by decide)).trans rfl
theorem yi_92 {E : Ev} (h : Lay E) : 92 < nE E := Nat.lt_of_lt_of_le (by decide) h.1
theorem yt_92 {E : Ev} (h : Lay E) : tE E 92 = (0, 8) := (h.2.1 92 (by decide)).trans rfl
theorem yi_93 {E : Ev} (h : Lay E) : 93 < nE E := Nat.lt_of_lt_of_le (by decide) h.1
theorem yt_93 {E : Ev} (h : Lay E) : tE E 93 = (0, 8) := (h.2.1 93 (by decide)).trans rfl
theorem yi_94 {E : Ev} (h : Lay E) : 94 < nE E := Nat.lt_of_lt_of_le (by decide) h.1
theorem yt_94 {E : Ev} (h : Lay E) : tE E 94 = (106, 0) := (h.2.1 94 (by decide)).trans rfl
theorem yi_95 {E : Ev} (h : Lay E) : 95 < nE E := Nat.lt_of_lt_of_le (by decide) h.1
theorem yt_95 {E : Ev} (h : Lay E) : tE E 95 = (0, 60) := (h.2.1 95 (by decide)).trans rfl
theorem yi_96 {E : Ev} (h : Lay E) : 96 < nE E := Nat.lt_of_lt_of_le (by decide) h.1
theorem yt_96 {E : Ev} (h : Lay E) : tE E 96 = (0, 8) := (h.2.1 96 (by decide)).trans rfl
theorem yi_97 {E : Ev} (h : Lay E) : 97 < nE E := Nat.lt_of_lt_of_le (by decide) h.1
theorem yt_97 {E : Ev} (h : Lay E) : tE E 97 = (0, 8) := (h.2.1 97 (by decide)).trans rfl
theorem yi_98 {E : Ev} (h : Lay E) : 98 < nE E := Nat.lt_of_lt_of_le (by decide) h.1
theorem yt_98 {E : Ev} (h : Lay E) : tE E 98 = (0, 8) := (h.2.1 98 (by decide)).trans rfl
theorem yi_99 {E : Ev} (h : Lay E) : 99 < nE E := Nat.lt_of_lt_of_le (by decide) h.1
theorem yt_99 {E : Ev} (h : Lay E) : tE E 99 = (106, 0) := (h.2.1 99 (by decide)).trans rfl
theorem yi_100 {E : Ev} (h : Lay E) : 100 < nE E := Nat.lt_of_lt_of_le (by decide) h.1
theorem yt_100 {E : Ev} (h : Lay E) : tE E 100 = (0, 60) := (h.2.1 100 (by decide)).trans rfl
theorem yi_101 {E : Ev} (h : Lay E) : 101 < nE E := Nat.lt_of_lt_of_le (by decide) h.1
theorem yt_101 {E : Ev} (h : Lay E) : tE E 101 = (0, 8) := (h.2.1 101 (by decide)).trans rfl
theorem yi_102 {E : Ev} (h : Lay E) : 102 < nE E := Nat.lt_of_lt_of_le (by decide) h.1
theorem yt_102 {E : Ev} (h : Lay E) : tE E 102 = (0, 8) := (h.2.1 102 (by decide)).trans rfl
theorem yi_103 {E : Ev} (h : Lay E) : 103 < nE E := Nat.lt_of_lt_of_le (by decide) h.1
theorem yt_103 {E : Ev} (h : Lay E) : tE E 103 = (0, 8) := (h.2.1 103 (by decide)).trans rfl
theorem yi_104 {E : Ev} (h : Lay E) : 104 < nE E := Nat.lt_of_lt_of_le (by decide) h.1
theorem yt_104 {E : Ev} (h : Lay E) : tE E 104 = (106, 0) := (h.2.1 104 (by decide)).trans rfl
theorem yi_105 {E : Ev} (h : Lay E) : 105 < nE E := Nat.lt_of_lt_of_le (by decide) h.1
theorem yt_105 {E : Ev} (h : Lay E) : tE E 105 = (0, 60) := (h.2.1 105 (by decide)).trans rfl
theorem yi_106 {E : Ev} (h : Lay E) : 106 < nE E := Nat.lt_of_lt_of_le (by decide) h.1
theorem yt_106 {E : Ev} (h : Lay E) : tE E 106 = (0, 8) := (h.2.1 106 (by decide)).trans rfl
theorem yi_107 {E : Ev} (h : Lay E) : 107 < nE E := Nat.lt_of_lt_of_le (by decide) h.1
theorem yt_107 {E : Ev} (h : Lay E) : tE E 107 = (0, 8) := (h.2.1 107 (by decide)).trans rfl
theorem yi_108 {E : Ev} (h : Lay E) : 108 < nE E := Nat.lt_of_lt_of_le (by decide) h.1
theorem yt_108 {E : Ev} (h : Lay E) : tE E 108 = (0, 8) := (h.2.1 108 (by decide)).trans rfl
theorem yi_109 {E : Ev} (h : Lay E) : 109 < nE E := Nat.lt_of_lt_of_le (by decide) h.1
theorem yt_109 {E : Ev} (h : Lay E) : tE E 109 = (106, 0) := (h.2.1 109 (by decide)).trans rfl
theorem yi_110 {E : Ev} (h : Lay E) : 110 < nE E := Nat.lt_of_lt_of_le (by decide) h.1
theorem yt_110 {E : Ev} (h : Lay E) : tE E 110 = (0, 60) := (h.2.1 110 (by decide)).trans rfl
theorem yi_111 {E : Ev} (h : Lay E) : 111 < nE E := Nat.lt_of_lt_of_le (by decide) h.1
theorem yt_111 {E : Ev} (h : Lay E) : tE E 111 = (0, 8) := (h.2.1 111 (by decide)).trans rfl
theorem yi_112 {E : Ev} (h : Lay E) : 112 < nE E := Nat.lt_of_lt_of_le (by decide) h.1
theorem yt_112 {E : Ev} (h : Lay E) : tE E 112 = (0, 8) := (h.2.1 112 (by decide)).trans rfl
theorem yi_113 {E : Ev} (h : Lay E) : 113 < nE E := Nat.lt_of_lt_of_le (by decide) h.1
theorem yt_113 {E : Ev} (h : Lay E) : tE E 113 = (0, 8) := (h.2.1 113 (by decide)).trans rfl
theorem yi_114 {E : Ev} (h : Lay E) : 114 < nE E := Nat.lt_of_lt_of_le (by decide) h.1
theorem yt_114 {E : Ev} (h : Lay E) : tE E 114 = (106, 0) := (h.2.1 114 (by decide)).trans rfl
theorem yi_115 {E : Ev} (h : Lay E) : 115 < nE E := Nat.lt_of_lt_of_le (by decide) h.1
theorem yt_115 {E : Ev} (h : Lay E) : tE E 115 = (0, 60) := (h.2.1 115 (by decide)).trans rfl
theorem yi_116 {E : Ev} (h : Lay E) : 116 < nE E := Nat.lt_of_lt_of_le (by decide) h.1
theorem yt_116 {E : Ev} (h : Lay E) : tE E 116 = (0, 8) := (h.2.1 116 (by decide)).trans rfl
theorem yi_117 {E : Ev} (h : Lay E) : 117 < nE E := Nat.lt_of_lt_of_le (by decide) h.1
theorem yt_117 {E : Ev} (h : Lay E) : tE E 117 = (0, 8) := (h.2.1 117 (by decide)).trans rfl
theorem yi_118 {E : Ev} (h : Lay E) : 118 < nE E := Nat.lt_of_lt_of_le (by decide) h.1
theorem yt_118 {E : Ev} (h : Lay E) : tE E 118 = (0, 8) := (h.2.1 118 (by decide)).trans rfl
theorem yi_119 {E : Ev} (h : Lay E) : 119 < nE E := Nat.lt_of_lt_of_le (by decide) h.1
theorem yt_119 {E : Ev} (h : Lay E) : tE E 119 = (106, 0) := (h.2.1 119 (by decide)).trans rfl
theorem yi_120 {E : Ev} (h : Lay E) : 120 < nE E := Nat.lt_of_lt_of_le (by decide) h.1
theorem yt_120 {E : Ev} (h : Lay E) : tE E 120 = (0, 60) := (h.2.1 120 (by decide)).trans rfl
theorem yi_121 {E : Ev} (h : Lay E) : 121 < nE E := Nat.lt_of_lt_of_le (by decide) h.1
theorem yt_121 {E : Ev} (h : Lay E) : tE E 121 = (0, 8) := (h.2.1 121 (by decide)).trans rfl
theorem yi_122 {E : Ev} (h : Lay E) : 122 < nE E := Nat.lt_of_lt_of_le (by decide) h.1
theorem yt_122 {E : Ev} (h : Lay E) : tE E 122 = (0, 8) := (h.2.1 122 (by decide)).trans rfl
theorem yi_123 {E : Ev} (h : Lay E) : 123 < nE E := Nat.lt_of_lt_of_le (by decide) h.1
theorem yt_123 {E : Ev} (h : Lay E) : tE E 123 = (0, 8) := (h.2.1 123 (by decide)).trans rfl
theorem yi_124 {E : Ev} (h : Lay E) : 124 < nE E := Nat.lt_of_lt_of_le (by decide) h.1
theorem yt_124 {E : Ev} (h : Lay E) : tE E 124 = (106, 0) := (h.2.1 124 (by decide)).trans rfl
theorem yi_125 {E : Ev} (h : Lay E) : 125 < nE E := Nat.lt_of_lt_of_le (by decide) h.1
theorem yt_125 {E : Ev} (h : Lay E) : tE E 125 = (0, 60) := (h.2.1 125 (by decide)).trans rfl
theorem yi_126 {E : Ev} (h : Lay E) : 126 < nE E := Nat.lt_of_lt_of_le (by decide) h.1
theorem yt_126 {E : Ev} (h : Lay E) : tE E 126 = (0, 8) := (h.2.1 126 (by decide)).trans rfl
theorem yi_127 {E : Ev} (h : Lay E) : 127 < nE E := Nat.lt_of_lt_of_le (by decide) h.1
theorem yt_127 {E : Ev} (h : Lay E) : tE E 127 = (0, 8) := (h.2.1 127 (by decide)).trans rfl
theorem yi_128 {E : Ev} (h : Lay E) : 128 < nE E := Nat.lt_of_lt_of_le (by decide) h.1
theorem yt_128 {E : Ev} (h : Lay E) : tE E 128 = (0, 8) := (h.2.1 128 (by decide)).trans rfl
theorem yi_129 {E : Ev} (h : Lay E) : 129 < nE E := Nat.lt_of_lt_of_le (by decide) h.1
theorem yt_129 {E : Ev} (h : Lay E) : tE E 129 = (106, 0) := (h.2.1 129 (by decide)).trans rfl
theorem yi_130 {E : Ev} (h : Lay E) : 130 < nE E := Nat.lt_of_lt_of_le (by decide) h.1
theorem yt_130 {E : Ev} (h : Lay E) : tE E 130 = (0, 60) := (h.2.1 130 (by decide)).trans rfl
theorem yi_131 {E : Ev} (h : Lay E) : 131 < nE E := Nat.lt_of_lt_of_le (by decide) h.1
theorem yt_131 {E : Ev} (h : Lay E) : tE E 131 = (0, 8) := (h.2.1 131 (by decide)).trans rfl
theorem yi_132 {E : Ev} (h : Lay E) : 132 < nE E := Nat.lt_of_lt_of_le (by decide) h.1
theorem yt_132 {E : Ev} (h : Lay E) : tE E 132 = (0, 8) := (h.2.1 132 (by decide)).trans rfl
theorem yi_133 {E : Ev} (h : Lay E) : 133 < nE E := Nat.lt_of_lt_of_le (by decide) h.1
theorem yt_133 {E : Ev} (h : Lay E) : tE E 133 = (0, 8) := (h.2.1 133 (by decide)).trans rfl
theorem yi_134 {E : Ev} (h : Lay E) : 134 < nE E := Nat.lt_of_lt_of_le (by decide) h.1
theorem yt_134 {E : Ev} (h : Lay E) : tE E 134 = (106, 0) := (h.2.1 134 (by decide)).trans rfl
theorem yi_135 {E : Ev} (h : Lay E) : 135 < nE E := Nat.lt_of_lt_of_le (by decide) h.1
theorem yt_135 {E : Ev} (h : Lay E) : tE E 135 = (0, 60) := (h.2.1 135 (by decide)).trans rfl
theorem yi_136 {E : Ev} (h : Lay E) : 136 < nE E := Nat.lt_of_lt_of_le (by decide) h.1
theorem yt_136 {E : Ev} (h : Lay E) : tE E 136 = (0, 8) := (h.2.1 136 (by decide)).trans rfl
theorem yi_137 {E : Ev} (h : Lay E) : 137 < nE E := Nat.lt_of_lt_of_le (by decide) h.1
theorem yt_137 {E : Ev} (h : Lay E) : tE E 137 = (0, 8) := (h.2.1 137 (by decide)).trans rfl
theorem yi_138 {E : Ev} (h : Lay E) : 138 < nE E := Nat.lt_of_lt_of_le (by decide) h.1
theorem yt_138 {E : Ev} (h : Lay E) : tE E 138 = (0, 8) := (h.2.1 138 (by decide)).trans rfl
theorem yi_139 {E : Ev} (h : Lay E) : 139 < nE E := Nat.lt_of_lt_of_le (by decide) h.1
theorem yt_139 {E : Ev} (h : Lay E) : tE E 139 = (106, 0) := (h.2.1 139 (by decide)).trans rfl
theorem yi_140 {E : Ev} (h : Lay E) : 140 < nE E := Nat.lt_of_lt_of_le (by decide) h.1
theorem yt_140 {E : Ev} (h : Lay E) : tE E 140 = (0, 60) := (h.2.1 140 (by decide)).trans rfl
theorem yi_141 {E : Ev} (h : Lay E) : 141 < nE E := Nat.lt_of_lt_of_le (by decide) h.1
theorem yt_141 {E : Ev} (h : Lay E) : tE E 141 = (0, 8) := (h.2.1 141 (by decide)).trans rfl
theorem yi_142 {E : Ev} (h : Lay E) : 142 < nE E := Nat.lt_of_lt_of_le (by decide) h.1
theorem yt_142 {E : Ev} (h : Lay E) : tE E 142 = (0, 8) := (h.2.1 142 (by decide)).trans rfl
theorem yi_143 {E : Ev} (h : Lay E) : 143 < nE E := Nat.lt_of_lt_of_le (by decide) h.1
theorem yt_143 {E : Ev} (h : Lay E) : tE E 143 = (0, 8) := (h.2.1 143 (by decide)).trans rfl
theorem yi_144 {E : Ev} (h : Lay E) : 144 < nE E := Nat.lt_of_lt_of_le (by decide) h.1
theorem yt_144 {E : Ev} (h : Lay E) : tE E 144 = (106, 0) := (h.2.1 144 (by decide)).trans rfl
theorem yi_145 {E : Ev} (h : Lay E) : 145 < nE E := Nat.lt_of_lt_of_le (by decide) h.1
theorem yt_145 {E : Ev} (h : Lay E) : tE E 145 = (0, 60) := (h.2.1 145 (by decide)).trans rfl
theorem yi_146 {E : Ev} (h : Lay E) : 146 < nE E := Nat.lt_of_lt_of_le (by decide) h.1
theorem yt_146 {E : Ev} (h : Lay E) : tE E 146 = (0, 8) := (h.2.1 146 (by decide)).trans rfl
theorem yi_147 {E : Ev} (h : Lay E) : 147 < nE E := Nat.lt_of_lt_of_le (by decide) h.1
theorem yt_147 {E : Ev} (h : Lay E) : tE E 147 = (0, 8) := (h.2.1 147 (by decide)).trans rfl
theorem yi_148 {E : Ev} (h : Lay E) : 148 < nE E := Nat.lt_of_lt_of_le (by decide) h.1
theorem yt_148 {E : Ev} (h : Lay E) : tE E 148 = (0, 8) := (h.2.1 148 (by decide)).trans rfl
theorem yi_149 {E : Ev} (h : Lay E) : 149 < nE E := Nat.lt_of_lt_of_le (by decide) h.1
theorem yt_149 {E : Ev} (h : Lay E) : tE E 149 = (106, 0) := (h.2.1 149 (by decide)).trans rfl
theorem yi_150 {E : Ev} (h : Lay E) : 150 < nE E := Nat.lt_of_lt_of_le (by decide) h.1
theorem yt_150 {E : Ev} (h : Lay E) : tE E 150 = (0, 60) := (h.2.1 150 (by decide)).trans rfl
theorem yi_151 {E : Ev} (h : Lay E) : 151 < nE E := Nat.lt_of_lt_of_le (by decide) h.1
theorem yt_151 {E : Ev} (h : Lay E) : tE E 151 = (0, 8) := (h.2.1 151 (by decide)).trans rfl
theorem yi_152 {E : Ev} (h : Lay E) : 152 < nE E := Nat.lt_of_lt_of_le (by decide) h.1
theorem yt_152 {E : Ev} (h : Lay E) : tE E 152 = (0, 8) := (h.2.1 152 (by decide)).trans rfl
theorem yi_153 {E : Ev} (h : Lay E) : 153 < nE E := Nat.lt_of_lt_of_le (by decide) h.1
theorem yt_153 {E : Ev} (h : Lay E) : tE E 153 = (0, 8) := (h.2.1 153 (by decide)).trans rfl
theorem yi_154 {E : Ev} (h : Lay E) : 154 < nE E := Nat.lt_of_lt_of_le (by decide) h.1
theorem yt_154 {E : Ev} (h : Lay E) : tE E 154 = (106, 0) := (h.2.1 154 (by decide)).trans rfl
theorem yi_155 {E : Ev} (h : Lay E) : 155 < nE E := Nat.lt_of_lt_of_le (by decide) h.1
theorem yt_155 {E : Ev} (h : Lay E) : tE E 155 = (0, 60) := (h.2.1 155 (by decide)).trans rfl
theorem yi_156 {E : Ev} (h : Lay E) : 156 < nE E := Nat.lt_of_lt_of_le (by decide) h.1
theorem yt_156 {E : Ev} (h : Lay E) : tE E 156 = (0, 8) := (h.2.1 156 (by decide)).trans rfl
theorem yi_157 {E : Ev} (h : Lay E) : 157 < nE E := Nat.lt_of_lt_of_le (by decide) h.1
theorem yt_157 {E : Ev} (h : Lay E) : tE E 157 = (0, 8) := (h.2.1 157 (by decide)).trans rfl
theorem yi_158 {E : Ev} (h : Lay E) : 158 < nE E := Nat.lt_of_lt_of_le (by decide) h.1
theorem yt_158 {E : Ev} (h : Lay E) : tE E 158 = (0, 8) := (h.2.1 158 (by decide)).trans rfl
theorem yi_159 {E : Ev} (h : Lay E) : 159 < nE E := Nat.lt_of_lt_of_le (by decide) h.1
theorem yt_159 {E : Ev} (h : Lay E) : tE E 159 = (106, 0) := (h.2.1 159 (by decide)).trans rfl
theorem yi_160 {E : Ev} (h : Lay E) : 160 < nE E := Nat.lt_of_lt_of_le (by decide) h.1
theorem yt_160 {E : Ev} (h : Lay E) : tE E 160 = (0, 60) := (h.2.1 160 (by decide)).trans rfl
theorem yi_161 {E : Ev} (h : Lay E) : 161 < nE E := Nat.lt_of_lt_of_le (by decide) h.1
theorem yt_161 {E : Ev} (h : Lay E) : tE E 161 = (0, 8) := (h.2.1 161 (by decide)).trans rfl
theorem yi_162 {E : Ev} (h : Lay E) : 162 < nE E := Nat.lt_of_lt_of_le (by decide) h.1
theorem yt_162 {E : Ev} (h : Lay E) : tE E 162 = (0, 8) := (h.2.1 162 (by decide)).trans rfl
theorem yi_163 {E : Ev} (h : Lay E) : 163 < nE E := Nat.lt_of_lt_of_le (by decide) h.1
theorem yt_163 {E : Ev} (h : Lay E) : tE E 163 = (0, 8) := (h.2.1 163 (by decide)).trans rfl
theorem yi_164 {E : Ev} (h : Lay E) : 164 < nE E := Nat.lt_of_lt_of_le (by decide) h.1
theorem yt_164 {E : Ev} (h : Lay E) : tE E 164 = (106, 0) := (h.2.1 164 (by decide)).trans rfl
theorem yi_165 {E : Ev} (h : Lay E) : 165 < nE E := Nat.lt_of_lt_of_le (by decide) h.1
theorem yt_165 {E : Ev} (h : Lay E) : tE E 165 = (0, 60) := (h.2.1 165 (by decide)).trans rfl
theorem yi_166 {E : Ev} (h : Lay E) : 166 < nE E := Nat.lt_of_lt_of_le (by decide) h.1
theorem yt_166 {E : Ev} (h : Lay E) : tE E 166 = (0, 8) := (h.2.1 166 (by decide)).trans rfl
theorem yi_167 {E : Ev} (h : Lay E) : 167 < nE E := Nat.lt_of_lt_of_le (by decide) h.1
theorem yt_167 {E : Ev} (h : Lay E) : tE E 167 = (0, 8) := (h.2.1 167 (by decide)).trans rfl
theorem yi_168 {E : Ev} (h : Lay E) : 168 < nE E := Nat.lt_of_lt_of_le (by decide) h.1
theorem yt_168 {E : Ev} (h : Lay E) : tE E 168 = (0, 8) := (h.2.1 168 (by decide)).trans rfl
theorem yi_169 {E : Ev} (h : Lay E) : 169 < nE E := Nat.lt_of_lt_of_le (by decide) h.1
theorem yt_169 {E : Ev} (h : Lay E) : tE E 169 = (106, 0) := (h.2.1 169 (by decide)).trans rfl
theorem yi_170 {E : Ev} (h : Lay E) : 170 < nE E := Nat.lt_of_lt_of_le (by decide) h.1
theorem yt_170 {E : Ev} (h : Lay E) : tE E 170 = (0, 60) := (h.2.1 170 (by decide)).trans rfl
theorem yi_171 {E : Ev} (h : Lay E) : 171 < nE E := Nat.lt_of_lt_of_le (by decide) h.1
theorem yt_171 {E : Ev} (h : Lay E) : tE E 171 = (0, 8) := (h.2.1 171 (by decide)).trans rfl
theorem yi_172 {E : Ev} (h : Lay E) : 172 < nE E := Nat.lt_of_lt_of_le (by decide) h.1
theorem yt_172 {E : Ev} (h : Lay E) : tE E 172 = (0, 8) := (h.2.1 172 (by decide)).trans rfl
theorem yi_173 {E : Ev} (h : Lay E) : 173 < nE E := Nat.lt_of_lt_of_le (by decide) h.1
theorem yt_173 {E : Ev} (h : Lay E) : tE E 173 = (0, 8) := (h.2.1 173 (by decide)).trans rfl
theorem yi_174 {E : Ev} (h : Lay E) : 174 < nE E := Nat.lt_of_lt_of_le (by decide) h.1
theorem yt_174 {E : Ev} (h : Lay E) : tE E 174 = (106, 0) := (h.2.1 174 (by decide)).trans rfl
theorem yi_175 {E : Ev} (h : Lay E) : 175 < nE E := Nat.lt_of_lt_of_le (by decide) h.1
theorem yt_175 {E : Ev} (h : Lay E) : tE E 175 = (0, 60) := (h.2.1 175 (by decide)).trans rfl
theorem yi_176 {E : Ev} (h : Lay E) : 176 < nE E := Nat.lt_of_lt_of_le (by decide) h.1
theorem yt_176 {E : Ev} (h : Lay E) : tE E 176 = (0, 8) := (h.2.1 176 (by decide)).trans rfl
theorem yi_177 {E : Ev} (h : Lay E) : 177 < nE E := Nat.lt_of_lt_of_le (by decide) h.1
theorem yt_177 {E : Ev} (h : Lay E) : tE E 177 = (0, 8) := (h.2.1 177 (by decide)).trans rfl
theorem yi_178 {E : Ev} (h : Lay E) : 178 < nE E := Nat.lt_of_lt_of_le (by decide) h.1
theorem yt_178 {E : Ev} (h : Lay E) : tE E 178 = (0, 8) := (h.2.1 178 (by decide)).trans rfl
theorem yi_179 {E : Ev} (h : Lay E) : 179 < nE E := Nat.lt_of_lt_of_le (by decide) h.1
theorem yt_179 {E : Ev} (h : Lay E) : tE E 179 = (103, 0) := (h.2.1 179 (by decide)).trans rfl
theorem yi_180 {E : Ev} (h : Lay E) : 180 < nE E := Nat.lt_of_lt_of_le (by decide) h.1
theorem yt_180 {E : Ev} (h : Lay E) : tE E 180 = (4, 21) := (h.2.1 180 (by decide)).trans rfl
theorem yi_181 {E : Ev} (h : Lay E) : 181 < nE E := Nat.lt_of_lt_of_le (by decide) h.1
theorem yt_181 {E : Ev} (h : Lay E) : tE E 181 = (5, 240) := (h.2.1 181 (by decide)).trans rfl
theorem yi_182 {E : Ev} (h : Lay E) : 182 < nE E := Nat.lt_of_lt_of_le (by decide) h.1
theorem yt_182 {E : Ev} (h : Lay E) : tE E 182 = (5, 9) := (h.2.1 182 (by decide)).trans rfl
theorem yi_183 {E : Ev} (h : Lay E) : 183 < nE E := Nat.lt_of_lt_of_le (by decide) h.1
theorem yt_183 {E : Ev} (h : Lay E) : tE E 183 = (108, 0) := (h.2.1 183 (by decide)).trans rfl
theorem yi_184 {E : Ev} (h : Lay E) : 184 < nE E := Nat.lt_of_lt_of_le (by decide) h.1
theorem yt_184 {E : Ev} (h : Lay E) : tE E 184 = (0, 13) := (h.2.1 184 (by decide)).trans rfl
theorem yi_185 {E : Ev} (h : Lay E) : 185 < nE E := Nat.lt_of_lt_of_le (by decide) h.1
theorem yt_185 {E : Ev} (h : Lay E) : tE E 185 = (108, 0) := (h.2.1 185 (by decide)).trans rfl
theorem yi_186 {E : Ev} (h : Lay E) : 186 < nE E := Nat.lt_of_lt_of_le (by decide) h.1
theorem yt_186 {E : Ev} (h : Lay E) : tE E 186 = (0, 13) := (h.2.1 186 (by decide)).trans rfl
theorem yi_187 {E : Ev} (h : Lay E) : 187 < nE E := Nat.lt_of_lt_of_le (by decide) h.1
theorem yt_187 {E : Ev} (h : Lay E) : tE E 187 = (108, 0) := (h.2.1 187 (by decide)).trans rfl
theorem yi_188 {E : Ev} (h : Lay E) : 188 < nE E := Nat.lt_of_lt_of_le (by decide) h.1
theorem yt_188 {E : Ev} (h : Lay E) : tE E 188 = (0, 13) := (h.2.1 188 (by decide)).trans rfl
theorem yi_189 {E : Ev} (h : Lay E) : 189 < nE E := Nat.lt_of_lt_of_le (by decide) h.1
theorem yt_189 {E : Ev} (h : Lay E) : tE E 189 = (108, 0) := (h.2.1 189 (by decide)).trans rfl
theorem yi_190 {E : Ev} (h : Lay E) : 190 < nE E := Nat.lt_of_lt_of_le (by decide) h.1
theorem yt_190 {E : Ev} (h : Lay E) : tE E 190 = (0, 13) := (h.2.1 190 (by decide)).trans rfl
theorem yi_191 {E : Ev} (h : Lay E) : 191 < nE E := Nat.lt_of_lt_of_le (by decide) h.1
theorem yt_191 {E : Ev} (h : Lay E) : tE E 191 = (108, 0) := (h.2.1 191 (by decide)).trans rfl
theorem yi_192 {E : Ev} (h : Lay E) : 192 < nE E := Nat.lt_of_lt_of_le (by decide) h.1
theorem yt_192 {E : Ev} (h : Lay E) : tE E 192 = (0, 13) := (h.2.1 192 (by decide)).trans rfl
theorem yi_193 {E : Ev} (h : Lay E) : 193 < nE E := Nat.lt_of_lt_of_le (by decide) h.1
theorem yt_193 {E : Ev} (h : Lay E) : tE E 193 = (108, 0) := (h.2.1 193 (by decide)).trans rfl
theorem yi_194 {E : Ev} (h : Lay E) : 194 < nE E := Nat.lt_of_lt_of_le (by decide) h.1
theorem yt_194 {E : Ev} (h : Lay E) : tE E 194 = (0, 13) := (h.2.1 194 (by decide)).trans rfl
theorem yi_195 {E : Ev} (h : Lay E) : 195 < nE E := Nat.lt_of_lt_of_le (by decide) h.1
theorem yt_195 {E : Ev} (h : Lay E) : tE E 195 = (108, 0) := (h.2.1 195 (by decide)).trans rfl
theorem yi_196 {E : Ev} (h : Lay E) : 196 < nE E := Nat.lt_of_lt_of_le (by decide) h.1
theorem yt_196 {E : Ev} (h : Lay E) : tE E 196 = (0, 13) := (h.2.1 196 (by decide)).trans rfl
theorem yi_197 {E : Ev} (h : Lay E) : 197 < nE E := Nat.lt_of_lt_of_le (by decide) h.1
theorem yt_197 {E : Ev} (h : Lay E) : tE E 197 = (108, 0) := (h.2.1 197 (by decide)).trans rfl
theorem yi_198 {E : Ev} (h : Lay E) : 198 < nE E := Nat.lt_of_lt_of_le (by decide) h.1
theorem yt_198 {E : Ev} (h : Lay E) : tE E 198 = (0, 13) := (h.2.1 198 (by decide)).trans rfl
theorem yi_199 {E : Ev} (h : Lay E) : 199 < nE E := Nat.lt_of_lt_of_le (by decide) h.1
theorem yt_199 {E : Ev} (h : Lay E) : tE E 199 = (108, 0) := (h.2.1 199 (by decide)).trans rfl
theorem yi_200 {E : Ev} (h : Lay E) : 200 < nE E := Nat.lt_of_lt_of_le (by decide) h.1
theorem yt_200 {E : Ev} (h : Lay E) : tE E 200 = (0, 13) := (h.2.1 200 (by decide)).trans rfl
theorem yi_201 {E : Ev} (h : Lay E) : 201 < nE E := Nat.lt_of_lt_of_le (by decide) h.1
theorem yt_201 {E : Ev} (h : Lay E) : tE E 201 = (108, 0) := (h.2.1 201 (by decide)).trans rfl
theorem yi_202 {E : Ev} (h : Lay E) : 202 < nE E := Nat.lt_of_lt_of_le (by decide) h.1
theorem yt_202 {E : Ev} (h : Lay E) : tE E 202 = (0, 13) := (h.2.1 202 (by decide)).trans rfl
theorem yi_203 {E : Ev} (h : Lay E) : 203 < nE E := Nat.lt_of_lt_of_le (by decide) h.1
theorem yt_203 {E : Ev} (h : Lay E) : tE E 203 = (108, 0) := (h.2.1 203 (by decide)).trans rfl
theorem yi_204 {E : Ev} (h : Lay E) : 204 < nE E := Nat.lt_of_lt_of_le (by decide) h.1
theorem yt_204 {E : Ev} (h : Lay E) : tE E 204 = (0, 13) := (h.2.1 204 (by decide)).trans rfl
theorem yi_205 {E : Ev} (h : Lay E) : 205 < nE E := Nat.lt_of_lt_of_le (by decide) h.1
theorem yt_205 {E : Ev} (h : Lay E) : tE E 205 = (108, 0) := (h.2.1 205 (by decide)).trans rfl
theorem yi_206 {E : Ev} (h : Lay E) : 206 < nE E := Nat.lt_of_lt_of_le (by decide) h.1
theorem yt_206 {E : Ev} (h : Lay E) : tE E 206 = (0, 13) := (h.2.1 206 (by decide)).trans rfl
theorem yi_207 {E : Ev} (h : Lay E) : 207 < nE E := Nat.lt_of_lt_of_le (by decide) h.1
theorem yt_207 {E : Ev} (h : Lay E) : tE E 207 = (108, 0) := (h.2.1 207 (by decide)).trans rfl
theorem yi_208 {E : Ev} (h : Lay E) : 208 < nE E := Nat.lt_of_lt_of_le (by decide) h.1
theorem yt_208 {E : Ev} (h : Lay E) : tE E 208 = (0, 13) := (h.2.1 208 (by decide)).trans rfl
theorem yi_209 {E : Ev} (h : Lay E) : 209 < nE E := Nat.lt_of_lt_of_le (by decide) h.1
theorem yt_209 {E : Ev} (h : Lay E) : tE E 209 = (108, 0) := (h.2.1 209 (by decide)).trans rfl
theorem yi_210 {E : Ev} (h : Lay E) : 210 < nE E := Nat.lt_of_lt_of_le (by decide) h.1
theorem yt_210 {E : Ev} (h : Lay E) : tE E 210 = (0, 13) := (h.2.1 210 (by decide)).trans rfl
theorem yi_211 {E : Ev} (h : Lay E) : 211 < nE E := Nat.lt_of_lt_of_le (by decide) h.1
theorem yt_211 {E : Ev} (h : Lay E) : tE E 211 = (108, 0) := (h.2.1 211 (by decide)).trans rfl
theorem yi_212 {E : Ev} (h : Lay E) : 212 < nE E := Nat.lt_of_lt_of_le (by decide) h.1
theorem yt_212 {E : Ev} (h : Lay E) : tE E 212 = (0, 13) := (h.2.1 212 (by decide)).trans rfl
theorem yi_213 {E : Ev} (h : Lay E) : 213 < nE E := Nat.lt_of_lt_of_le (by decide) h.1
theorem yt_213 {E : Ev} (h : Lay E) : tE E 213 = (108, 0) := (h.2.1 213 (by decide)).trans rfl
theorem yi_214 {E : Ev} (h : Lay E) : 214 < nE E := Nat.lt_of_lt_of_le (by decide) h.1
theorem yt_214 {E : Ev} (h : Lay E) : tE E 214 = (0, 13) := (h.2.1 214 (by decide)).trans rfl
theorem yi_215 {E : Ev} (h : Lay E) : 215 < nE E := Nat.lt_of_lt_of_le (by decide) h.1
theorem yt_215 {E : Ev} (h : Lay E) : tE E 215 = (108, 0) := (h.2.1 215 (by decide)).trans rfl
theorem yi_216 {E : Ev} (h : Lay E) : 216 < nE E := Nat.lt_of_lt_of_le (by decide) h.1
theorem yt_216 {E : Ev} (h : Lay E) : tE E 216 = (0, 13) := (h.2.1 216 (by decide)).trans rfl
theorem yi_217 {E : Ev} (h : Lay E) : 217 < nE E := Nat.lt_of_lt_of_le (by decide) h.1
theorem yt_217 {E : Ev} (h : Lay E) : tE E 217 = (108, 0) := (h.2.1 217 (by decide)).trans rfl
theorem yi_218 {E : Ev} (h : Lay E) : 218 < nE E := Nat.lt_of_lt_of_le (by decide) h.1
theorem yt_218 {E : Ev} (h : Lay E) : tE E 218 = (0, 13) := (h.2.1 218 (by decide)).trans rfl
theorem yi_219 {E : Ev} (h : Lay E) : 219 < nE E := Nat.lt_of_lt_of_le (by decide) h.1
theorem yt_219 {E : Ev} (h : Lay E) : tE E 219 = (110, 0) := (h.2.1 219 (by decide)).trans rfl
theorem yi_220 {E : Ev} (h : Lay E) : 220 < nE E := Nat.lt_of_lt_of_le (by decide) h.1
theorem yt_220 {E : Ev} (h : Lay E) : tE E 220 = (0, 16) := (h.2.1 220 (by decide)).trans rfl
theorem yi_221 {E : Ev} (h : Lay E) : 221 < nE E := Nat.lt_of_lt_of_le (by decide) h.1
theorem yt_221 {E : Ev} (h : Lay E) : tE E 221 = (6, 2) := (h.2.1 221 (by decide)).trans rfl
theorem yi_222 {E : Ev} (h : Lay E) : 222 < nE E := Nat.lt_of_lt_of_le (by decide) h.1
theorem yt_222 {E : Ev} (h : Lay E) : tE E 222 = (0, 16) := (h.2.1 222 (by decide)).trans rfl
theorem yi_223 {E : Ev} (h : Lay E) : 223 < nE E := Nat.lt_of_lt_of_le (by decide) h.1
theorem yt_223 {E : Ev} (h : Lay E) : tE E 223 = (0, 16) := (h.2.1 223 (by decide)).trans rfl
theorem yi_224 {E : Ev} (h : Lay E) : 224 < nE E := Nat.lt_of_lt_of_le (by decide) h.1
theorem yt_224 {E : Ev} (h : Lay E) : tE E 224 = (6, 17) := (h.2.1 224 (by decide)).trans rfl
theorem yi_225 {E : Ev} (h : Lay E) : 225 < nE E := Nat.lt_of_lt_of_le (by decide) h.1
theorem yt_225 {E : Ev} (h : Lay E) : tE E 225 = (0, 16) := (h.2.1 225 (by decide)).trans rfl
theorem yi_226 {E : Ev} (h : Lay E) : 226 < nE E := Nat.lt_of_lt_of_le (by decide) h.1
theorem yt_226 {E : Ev} (h : Lay E) : tE E 226 = (0, 16) := (h.2.1 226 (by decide)).trans rfl
theorem yi_227 {E : Ev} (h : Lay E) : 227 < nE E := Nat.lt_of_lt_of_le (by decide) h.1
theorem yt_227 {E : Ev} (h : Lay E) : tE E 227 = (0, 16) := (h.2.1 227 (by decide)).trans rfl
theorem yi_228 {E : Ev} (h : Lay E) : 228 < nE E := Nat.lt_of_lt_of_le (by decide) h.1
theorem yt_228 {E : Ev} (h : Lay E) : tE E 228 = (0, 16) := (h.2.1 228 (by decide)).trans rfl
theorem yi_229 {E : Ev} (h : Lay E) : 229 < nE E := Nat.lt_of_lt_of_le (by decide) h.1
theorem yt_229 {E : Ev} (h : Lay E) : tE E 229 = (0, 16) := (h.2.1 229 (by decide)).trans rfl
theorem yi_230 {E : Ev} (h : Lay E) : 230 < nE E := Nat.lt_of_lt_of_le (by decide) h.1
theorem yt_230 {E : Ev} (h : Lay E) : tE E 230 = (0, 16) := (h.2.1 230 (by decide)).trans rfl
theorem yi_231 {E : Ev} (h : Lay E) : 231 < nE E := Nat.lt_of_lt_of_le (by decide) h.1
theorem yt_231 {E : Ev} (h : Lay E) : tE E 231 = (0, 16) := (h.2.1 231 (by decide)).trans rfl
theorem yi_232 {E : Ev} (h : Lay E) : 232 < nE E := Nat.lt_of_lt_of_le (by decide) h.1
theorem yt_232 {E : Ev} (h : Lay E) : tE E 232 = (0, 16) := (h.2.1 232 (by decide)).trans rfl
theorem yi_233 {E : Ev} (h : Lay E) : 233 < nE E := Nat.lt_of_lt_of_le (by decide) h.1
theorem yt_233 {E : Ev} (h : Lay E) : tE E 233 = (0, 16) := (h.2.1 233 (by decide)).trans rfl
theorem yi_234 {E : Ev} (h : Lay E) : 234 < nE E := Nat.lt_of_lt_of_le (by decide) h.1
theorem yt_234 {E : Ev} (h : Lay E) : tE E 234 = (0, 16) := (h.2.1 234 (by decide)).trans rfl
theorem yi_235 {E : Ev} (h : Lay E) : 235 < nE E := Nat.lt_of_lt_of_le (by decide) h.1
theorem yt_235 {E : Ev} (h : Lay E) : tE E 235 = (0, 16) := (h.2.1 235 (by decide)).trans rfl
theorem yi_236 {E : Ev} (h : Lay E) : 236 < nE E := Nat.lt_of_lt_of_le (by decide) h.1
theorem yt_236 {E : Ev} (h : Lay E) : tE E 236 = (0, 16) := (h.2.1 236 (by decide)).trans rfl
theorem yi_237 {E : Ev} (h : Lay E) : 237 < nE E := Nat.lt_of_lt_of_le (by decide) h.1
theorem yt_237 {E : Ev} (h : Lay E) : tE E 237 = (0, 16) := (h.2.1 237 (by decide)).trans rfl
theorem yi_238 {E : Ev} (h : Lay E) : 238 < nE E := Nat.lt_of_lt_of_le (by decide) h.1
theorem yt_238 {E : Ev} (h : Lay E) : tE E 238 = (0, 16) := (h.2.1 238 (by decide)).trans rfl
theorem yi_239 {E : Ev} (h : Lay E) : 239 < nE E := Nat.lt_of_lt_of_le (by decide) h.1
theorem yt_239 {E : Ev} (h : Lay E) : tE E 239 = (0, 16) := (h.2.1 239 (by decide)).trans rfl
theorem yi_240 {E : Ev} (h : Lay E) : 240 < nE E := Nat.lt_of_lt_of_le (by decide) h.1
theorem yt_240 {E : Ev} (h : Lay E) : tE E 240 = (0, 16) := (h.2.1 240 (by decide)).trans rfl
theorem yi_241 {E : Ev} (h : Lay E) : 241 < nE E := Nat.lt_of_lt_of_le (by decide) h.1
theorem yt_241 {E : Ev} (h : Lay E) : tE E 241 = (0, 16) := (h.2.1 241 (by decide)).trans rfl
theorem yi_242 {E : Ev} (h : Lay E) : 242 < nE E := Nat.lt_of_lt_of_le (by decide) h.1
theorem yt_242 {E : Ev} (h : Lay E) : tE E 242 = (0, 16) := (h.2.1 242 (by decide)).trans rfl
theorem yi_243 {E : Ev} (h : Lay E) : 243 < nE E := Nat.lt_of_lt_of_le (by decide) h.1
theorem yt_243 {E : Ev} (h : Lay E) : tE E 243 = (101, 0) := (h.2.1 243 (by decide)).trans rfl
theorem yi_244 {E : Ev} (h : Lay E) : 244 < nE E := Nat.lt_of_lt_of_le (by decide) h.1
theorem yt_244 {E : Ev} (h : Lay E) : tE E 244 = (0, 12) := (h.2.1 244 (by decide)).trans rfl
theorem yi_245 {E : Ev} (h : Lay E) : 245 < nE E := Nat.lt_of_lt_of_le (by decide) h.1
theorem yt_245 {E : Ev} (h : Lay E) : tE E 245 = (0, 4096) := (h.2.1 245 (by decide)).trans rfl
theorem yi_246 {E : Ev} (h : Lay E) : 246 < nE E := Nat.lt_of_lt_of_le (by decide) h.1
theorem yt_246 {E : Ev} (h : Lay E) : tE E 246 = (0, 20) := (h.2.1 246 (by decide)).trans rfl
theorem yi_247 {E : Ev} (h : Lay E) : 247 < nE E := Nat.lt_of_lt_of_le (by decide) h.1
theorem yt_247 {E : Ev} (h : Lay E) : tE E 247 = (0, 20) := (h.2.1 247 (by decide)).trans rfl
theorem yi_248 {E : Ev} (h : Lay E) : 248 < nE E := Nat.lt_of_lt_of_le (by decide) h.1
theorem yt_248 {E : Ev} (h : Lay E) : tE E 248 = (0, 20) := (h.2.1 248 (by decide)).trans rfl
theorem yi_249 {E : Ev} (h : Lay E) : 249 < nE E := Nat.lt_of_lt_of_le (by decide) h.1
theorem yt_249 {E : Ev} (h : Lay E) : tE E 249 = (0, 240) := (h.2.1 249 (by decide)).trans rfl
theorem yr_1_0 {E : Ev} (h : Lay E) : rE E 1 0 = some 2 := (h.2.2 1 (by decide) (by decide) (by decide) 0 (by decide)).trans rfl
theorem yr_1_1 {E : Ev} (h : Lay E) : rE E 1 1 = some 41 := (h.2.2 1 (by decide) (by decide) (by decide) 1 (by decide)).trans rfl
theorem yr_1_2 {E : Ev} (h : Lay E) : rE E 1 2 = some 51 := (h.2.2 1 (by decide) (by decide) (by decide) 2 (by decide)).trans rfl
theorem yr_1_3 {E : Ev} (h : Lay E) : rE E 1 3 = some 53 := (h.2.2 1 (by decide) (by decide) (by decide) 3 (by decide)).trans rfl
theorem yr_1_4 {E : Ev} (h : Lay E) : rE E 1 4 = some 179 := (h.2.2 1 (by decide) (by decide) (by decide) 4 (by decide)).trans rfl
theorem yr_1_5 {E : Ev} (h : Lay E) : rE E 1 5 = some 219 := (h.2.2 1 (by decide) (by decide) (by decide) 5 (by decide)).trans rfl
theorem yr_1_6 {E : Ev} (h : Lay E) : rE E 1 6 = some 243 := (h.2.2 1 (by decide) (by decide) (by decide) 6 (by decide)).trans rfl
theorem yr_1_7 {E : Ev} (h : Lay E) : rE E 1 7 = some 246 := (h.2.2 1 (by decide) (by decide) (by decide) 7 (by decide)).trans rfl
theorem yr_1_8 {E : Ev} (h : Lay E) : rE E 1 8 = some 247 := (h.2.2 1 (by decide) (by decide) (by decide) 8 (by decide)).trans rfl
theorem yr_1_9 {E : Ev} (h : Lay E) : rE E 1 9 = some 248 := (h.2.2 1 (by decide) (by decide) (by decide) 9 (by decide)).trans rfl
theorem yr_1_12 {E : Ev} (h : Lay E) : rE E 1 12 = some 249 := (h.2.2 1 (by decide) (by decide) (by decide) 12 (by decide)).trans rfl
theorem yr_2_0 {E : Ev} (h : Lay E) : rE E 2 0 = some 3 := (h.2.2 2 (by decide) (by decide) (by decide) 0 (by decide)).trans rfl
theorem yr_2_4 {E : Ev} (h : Lay E) : rE E 2 4 = some 4 := (h.2.2 2 (by decide) (by decide) (by decide) 4 (by decide)).trans rfl
theorem yr_2_5 {E : Ev} (h : Lay E) : rE E 2 5 = some 5 := (h.2.2 2 (by decide) (by decide) (by decide) 5 (by decide)).trans rfl
theorem yr_2_6 {E : Ev} (h : Lay E) : rE E 2 6 = some 6 := (h.2.2 2 (by decide) (by decide) (by decide) 6 (by decide)).trans rfl
theorem yr_2_7 {E : Ev} (h : Lay E) : rE E 2 7 = some 7 := (h.2.2 2 (by decide) (by decide) (by decide) 7 (by decide)).trans rfl
theorem yr_2_8 {E : Ev} (h : Lay E) : rE E 2 8 = some 8 := (h.2.2 2 (by decide) (by decide) (by decide) 8 (by decide)).trans rfl
theorem yr_2_9 {E : Ev} (h : Lay E) : rE E 2 9 = some 40 := (h.2.2 2 (by decide) (by decide) (by decide) 9 (by decide)).trans rfl
theorem yr_41_0 {E : Ev} (h : Lay E) : rE E 41 0 = some 2 := (h.2.2 41 (by decide) (by decide) (by decide) 0 (by decide)).trans rfl
theorem yr_41_3 {E : Ev} (h : Lay E) : rE E 41 3 = some 42 := (h.2.2 41 (by decide) (by decide) (by decide) 3 (by decide)).trans rfl
theorem yr_41_4 {E : Ev} (h : Lay E) : rE E 41 4 = some 43 := (h.2.2 41 (by decide) (by decide) (by decide) 4 (by decide)).trans rfl
theorem yr_41_5 {E : Ev} (h : Lay E) : rE E 41 5 = some 44 := (h.2.2 41 (by decide) (by decide) (by decide) 5 (by decide)).trans rfl
theorem yr_41_6 {E : Ev} (h : Lay E) : rE E 41 6 = some 45 := (h.2.2 41 (by decide) (by decide) (by decide) 6 (by decide)).trans rfl
theorem yr_41_7 {E : Ev} (h : Lay E) : rE E 41 7 = some 46 := (h.2.2 41 (by decide) (by decide) (by decide) 7 (by decide)).trans rfl
theorem yr_41_8 {E : Ev} (h : Lay E) : rE E 41 8 = some 47 := (h.2.2 41 (by decide) (by decide) (by decide) 8 (by decide)).trans rfl
theorem yr_41_9 {E : Ev} (h : Lay E) : rE E 41 9 = some 48 := (h.2.2 41 (by decide) (by decide) (by decide) 9 (by decide)).trans rfl
theorem yr_41_10 {E : Ev} (h : Lay E) : rE E 41 10 = some 49 := (h.2.2 41 (by decide) (by decide) (by decide) 10 (by decide)).trans rfl
theorem yr_41_11 {E : Ev} (h : Lay E) : rE E 41 11 = some 50 := (h.2.2 41 (by decide) (by decide) (by decide) 11 (by decide)).trans rfl
theorem yr_51_0 {E : Ev} (h : Lay E) : rE E 51 0 = some 2 := (h.2.2 51 (by decide) (by decide) (by decide) 0 (by decide)).trans rfl
theorem yr_51_1 {E : Ev} (h : Lay E) : rE E 51 1 = some 41 := (h.2.2 51 (by decide) (by decide) (by decide) 1 (by decide)).trans rfl
theorem yr_51_2 {E : Ev} (h : Lay E) : rE E 51 2 = some 52 := (h.2.2 51 (by decide) (by decide) (by decide) 2 (by decide)).trans rfl
theorem yr_53_1 {E : Ev} (h : Lay E) : rE E 53 1 = some 54 := (h.2.2 53 (by decide) (by decide) (by decide) 1 (by decide)).trans rfl
theorem yr_53_2 {E : Ev} (h : Lay E) : rE E 53 2 = some 55 := (h.2.2 53 (by decide) (by decide) (by decide) 2 (by decide)).trans rfl
theorem yr_53_3 {E : Ev} (h : Lay E) : rE E 53 3 = some 56 := (h.2.2 53 (by decide) (by decide) (by decide) 3 (by decide)).trans rfl
theorem yr_53_4 {E : Ev} (h : Lay E) : rE E 53 4 = some 57 := (h.2.2 53 (by decide) (by decide) (by decide) 4 (by decide)).trans rfl
theorem yr_53_5 {E : Ev} (h : Lay E) : rE E 53 5 = some 64 := (h.2.2 53 (by decide) (by decide) (by decide) 5 (by decide)).trans rfl
theorem yr_53_7 {E : Ev} (h : Lay E) : rE E 53 7 = some 71 := (h.2.2 53 (by decide) (by decide) (by decide) 7 (by decide)).trans rfl
theorem yr_53_8 {E : Ev} (h : Lay E) : rE E 53 8 = some 72 := (h.2.2 53 (by decide) (by decide) (by decide) 8 (by decide)).trans rfl
theorem yr_53_9 {E : Ev} (h : Lay E) : rE E 53 9 = some 73 := (h.2.2 53 (by decide) (by decide) (by decide) 9 (by decide)).trans rfl
theorem yr_57_2 {E : Ev} (h : Lay E) : rE E 57 2 = some 58 := (h.2.2 57 (by decide) (by decide) (by decide) 2 (by decide)).trans rfl
theorem yr_57_3 {E : Ev} (h : Lay E) : rE E 57 3 = some 59 := (h.2.2 57 (by decide) (by decide) (by decide) 3 (by decide)).trans rfl
theorem yr_57_4 {E : Ev} (h : Lay E) : rE E 57 4 = some 60 := (h.2.2 57 (by decide) (by decide) (by decide) 4 (by decide)).trans rfl
theorem yr_57_5 {E : Ev} (h : Lay E) : rE E 57 5 = some 61 := (h.2.2 57 (by decide) (by decide) (by decide) 5 (by decide)).trans rfl
theorem yr_57_6 {E : Ev} (h : Lay E) : rE E 57 6 = some 62 := (h.2.2 57 (by decide) (by decide) (by decide) 6 (by decide)).trans rfl
theorem yr_57_7 {E : Ev} (h : Lay E) : rE E 57 7 = some 63 := (h.2.2 57 (by decide) (by decide) (by decide) 7 (by decide)).trans rfl
theorem yr_64_2 {E : Ev} (h : Lay E) : rE E 64 2 = some 65 := (h.2.2 64 (by decide) (by decide) (by decide) 2 (by decide)).trans rfl
theorem yr_64_3 {E : Ev} (h : Lay E) : rE E 64 3 = some 66 := (h.2.2 64 (by decide) (by decide) (by decide) 3 (by decide)).trans rfl
theorem yr_64_4 {E : Ev} (h : Lay E) : rE E 64 4 = some 67 := (h.2.2 64 (by decide) (by decide) (by decide) 4 (by decide)).trans rfl
theorem yr_64_5 {E : Ev} (h : Lay E) : rE E 64 5 = some 68 := (h.2.2 64 (by decide) (by decide) (by decide) 5 (by decide)).trans rfl
theorem yr_64_6 {E : Ev} (h : Lay E) : rE E 64 6 = some 69 := (h.2.2 64 (by decide) (by decide) (by decide) 6 (by decide)).trans rfl
theorem yr_64_7 {E : Ev} (h : Lay E) : rE E 64 7 = some 70 := (h.2.2 64 (by decide) (by decide) (by decide) 7 (by decide)).trans rfl
theorem yr_74_3 {E : Ev} (h : Lay E) : rE E 74 3 = some 75 := (h.2.2 74 (by decide) (by decide) (by decide) 3 (by decide)).trans rfl
theorem yr_74_4 {E : Ev} (h : Lay E) : rE E 74 4 = some 76 := (h.2.2 74 (by decide) (by decide) (by decide) 4 (by decide)).trans rfl
theorem yr_74_5 {E : Ev} (h : Lay E) : rE E 74 5 = some 77 := (h.2.2 74 (by decide) (by decide) (by decide) 5 (by decide)).trans rfl
theorem yr_74_6 {E : Ev} (h : Lay E) : rE E 74 6 = some 78 := (h.2.2 74 (by decide) (by decide) (by decide) 6 (by decide)).trans rfl
theorem yr_79_3 {E : Ev} (h : Lay E) : rE E 79 3 = some 80 := (h.2.2 79 (by decide) (by decide) (by decide) 3 (by decide)).trans rfl
theorem yr_79_4 {E : Ev} (h : Lay E) : rE E 79 4 = some 81 := (h.2.2 79 (by decide) (by decide) (by decide) 4 (by decide)).trans rfl
theorem yr_79_5 {E : Ev} (h : Lay E) : rE E 79 5 = some 82 := (h.2.2 79 (by decide) (by decide) (by decide) 5 (by decide)).trans rfl
theorem yr_79_6 {E : Ev} (h : Lay E) : rE E 79 6 = some 83 := (h.2.2 79 (by decide) (by decide) (by decide) 6 (by decide)).trans rfl
theorem yr_84_3 {E : Ev} (h : Lay E) : rE E 84 3 = some 85 := (h.2.2 84 (by decide) (by decide) (by decide) 3 (by decide)).trans rfl
theorem yr_84_4 {E : Ev} (h : Lay E) : rE E 84 4 = some 86 := (h.2.2 84 (by decide) (by decide) (by decide) 4 (by decide)).trans rfl
theorem yr_84_5 {E : Ev} (h : Lay E) : rE E 84 5 = some 87 := (h.2.2 84 (by decide) (by decide) (by decide) 5 (by decide)).trans rfl
theorem yr_84_6 {E : Ev} (h : Lay E) : rE E 84 6 = some 88 := (h.2.2 84 (by decide) (by decide) (by decide) 6 (by decide)).trans rfl
theorem yr_89_3 {E : Ev} (h : Lay E) : rE E 89 3 = some 90 := (h.2.2 89 (by decide) (by decide) (by decide) 3 (by decide)).trans rfl
theorem yr_89_4 {E : Ev} (h : Lay E) : rE E 89 4 = some 91 := (h.2.2 89 (by decide) (by decide) (by decide) 4 (by decide)).trans rfl
theorem yr_89_5 {E : Ev} (h : Lay E) : rE E 89 5 = some 92 := (h.2.2 89 (by decide) (by decide) (by decide) 5 (by decide)).trans rfl
theorem yr_89_6 {E : Ev} (h : Lay E) : rE E 89 6 = some 93 := (h.2.2 89 (by decide) (by decide) (by decide) 6 (by decide)).trans rfl
theorem yr_94_3 {E : Ev} (h : Lay E) : rE E 94 3 = some 95 := (h.2.2 94 (by decide) (by decide) (by decide) 3 (by decide)).trans rfl
theorem yr_94_4 {E : Ev} (h : Lay E) : rE E 94 4 = some 96 := (h.2.2 94 (by decide) (by decide) (by decide) 4 (by decide)).trans rfl
theorem yr_94_5 {E : Ev} (h : Lay E) : rE E 94 5 = some 97 := (h.2.2 94 (by decide) (by decide) (by decide) 5 (by decide)).trans rfl
theorem yr_94_6 {E : Ev} (h : Lay E) : rE E 94 6 = some 98 := (h.2.2 94 (by decide) (by decide) (by decide) 6 (by decide)).trans rfl
theorem yr_99_3 {E : Ev} (h : Lay E) : rE E 99 3 = some 100 := (h.2.2 99 (by decide) (by decide) (by decide) 3 (by decide)).trans rfl
theorem yr_99_4 {E : Ev} (h : Lay E) : rE E 99 4 = some 101 := (h.2.2 99 (by decide) (by decide) (by decide) 4 (by decide)).trans rfl
theorem yr_99_5 {E : Ev} (h : Lay E) : rE E 99 5 = some 102 := (h.2.2 99 (by decide) (by decide) (by decide) 5 (by decide)).trans rfl
theorem yr_99_6 {E : Ev} (h : Lay E) : rE E 99 6 = some 103 := (h.2.2 99 (by decide) (by decide) (by decide) 6 (by decide)).trans rfl
theorem yr_104_3 {E : Ev} (h : Lay E) : rE E 104 3 = some 105 := (h.2.2 104 (by decide) (by decide) (by decide) 3 (by decide)).trans rfl
theorem yr_104_4 {E : Ev} (h : Lay E) : rE E 104 4 = some 106 := (h.2.2 104 (by decide) (by decide) (by decide) 4 (by decide)).trans rfl
theorem yr_104_5 {E : Ev} (h : Lay E) : rE E 104 5 = some 107 := (h.2.2 104 (by decide) (by decide) (by decide) 5 (by decide)).trans rfl
theorem yr_104_6 {E : Ev} (h : Lay E) : rE E 104 6 = some 108 := (h.2.2 104 (by decide) (by decide) (by decide) 6 (by decide)).trans rfl
theorem yr_109_3 {E : Ev} (h : Lay E) : rE E 109 3 = some 110 := (h.2.2 109 (by decide) (by decide) (by decide) 3 (by decide)).trans rfl
theorem yr_109_4 {E : Ev} (h : Lay E) : rE E 109 4 = some 111 := (h.2.2 109 (by decide) (by decide) (by decide) 4 (by decide)).trans rfl
theorem yr_109_5 {E : Ev} (h : Lay E) : rE E 109 5 = some 112 := (h.2.2 109 (by decide) (by decide) (by decide) 5 (by decide)).trans rfl
theorem yr_109_6 {E : Ev} (h : Lay E) : rE E 109 6 = some 113 := (h.2.2 109 (by decide) (by decide) (by decide) 6 (by decide)).trans rfl
theorem yr_114_3 {E : Ev} (h : Lay E) : rE E 114 3 = some 115 := (h.2.2 114 (by decide) (by decide) (by decide) 3 (by decide)).trans rfl
theorem yr_114_4 {E : Ev} (h : Lay E) : rE E 114 4 = some 116 := (h.2.2 114 (by decide) (by decide) (by decide) 4 (by decide)).trans rfl
theorem yr_114_5 {E : Ev} (h : Lay E) : rE E 114 5 = some 117 := (h.2.2 114 (by decide) (by decide) (by decide) 5 (by decide)).trans rfl
theorem yr_114_6 {E : Ev} (h : Lay E) : rE E 114 6 = some 118 := (h.2.2 114 (by decide) (by decide) (by decide) 6 (by decide)).trans rfl
theorem yr_119_3 {E : Ev} (h : Lay E) : rE E 119 3 = some 120 := (h.2.2 119 (by decide) (by decide) (by decide) 3 (by decide)).trans rfl
theorem yr_119_4 {E : Ev} (h : Lay E) : rE E 119 4 = some 121 := (h.2.2 119 (by decide) (by decide) (by decide) 4 (by decide)).trans rfl
theorem yr_119_5 {E : Ev} (h : Lay E) : rE E 119 5 = some 122 := (h.2.2 119 (by decide) (by decide) (by decide) 5 (by decide)).trans rfl
theorem yr_119_6 {E : Ev} (h : Lay E) : rE E 119 6 = some 123 := (h.2.2 119 (by decide) (by decide) (by decide) 6 (by decide)).trans rfl
theorem yr_124_3 {E : Ev} (h : Lay E) : rE E 124 3 = some 125 := (h.2.2 124 (by decide) (by decide) (by decide) 3 (by decide)).trans rfl
theorem yr_124_4 {E : Ev} (h : Lay E) : rE E 124 4 = some 126 := (h.2.2 124 (by decide) (by decide) (by decide) 4 (by decide)).trans rfl
theorem yr_124_5 {E : Ev} (h : Lay E) : rE E 124 5 = some 127 := (h.2.2 124 (by decide) (by decide) (by decide) 5 (by decide)).trans rfl
theorem yr_124_6 {E : Ev} (h : Lay E) : rE E 124 6 = some 128 := (h.2.2 124 (by decide) (by decide) (by decide) 6 (by decide)).trans rfl
theorem yr_129_3 {E : Ev} (h : Lay E) : rE E 129 3 = some 130 := (h.2.2 129 (by decide) (by decide) (by decide) 3 (by decide)).trans rfl
theorem yr_129_4 {E : Ev} (h : Lay E) : rE E 129 4 = some 131 := (h.2.2 129 (by decide) (by decide) (by decide) 4 (by decide)).trans rfl
theorem yr_129_5 {E : Ev} (h : Lay E) : rE E 129 5 = some 132 := (h.2.2 129 (by decide) (by decide) (by decide) 5 (by decide)).trans rfl
theorem yr_129_6 {E : Ev} (h : Lay E) : rE E 129 6 = some 133 := (h.2.2 129 (by decide) (by decide) (by decide) 6 (by decide)).trans rfl
theorem yr_134_3 {E : Ev} (h : Lay E) : rE E 134 3 = some 135 := (h.2.2 134 (by decide) (by decide) (by decide) 3 (by decide)).trans rfl
theorem yr_134_4 {E : Ev} (h : Lay E) : rE E 134 4 = some 136 := (h.2.2 134 (by decide) (by decide) (by decide) 4 (by decide)).trans rfl
theorem yr_134_5 {E : Ev} (h : Lay E) : rE E 134 5 = some 137 := (h.2.2 134 (by decide) (by decide) (by decide) 5 (by decide)).trans rfl
theorem yr_134_6 {E : Ev} (h : Lay E) : rE E 134 6 = some 138 := (h.2.2 134 (by decide) (by decide) (by decide) 6 (by decide)).trans rfl
theorem yr_139_3 {E : Ev} (h : Lay E) : rE E 139 3 = some 140 := (h.2.2 139 (by decide) (by decide) (by decide) 3 (by decide)).trans rfl
theorem yr_139_4 {E : Ev} (h : Lay E) : rE E 139 4 = some 141 := (h.2.2 139 (by decide) (by decide) (by decide) 4 (by decide)).trans rfl
theorem yr_139_5 {E : Ev} (h : Lay E) : rE E 139 5 = some 142 := (h.2.2 139 (by decide) (by decide) (by decide) 5 (by decide)).trans rfl
theorem yr_139_6 {E : Ev} (h : Lay E) : rE E 139 6 = some 143 := (h.2.2 139 (by decide) (by decide) (by decide) 6 (by decide)).trans rfl
theorem yr_144_3 {E : Ev} (h : Lay E) : rE E 144 3 = some 145 := (h.2.2 144 (by decide) (by decide) (by decide) 3 (by decide)).trans rfl
theorem yr_144_4 {E : Ev} (h : Lay E) : rE E 144 4 = some 146 := (h.2.2 144 (by decide) (by decide) (by decide) 4 (by decide)).trans rfl
theorem yr_144_5 {E : Ev} (h : Lay E) : rE E 144 5 = some 147 := (h.2.2 144 (by decide) (by decide) (by decide) 5 (by decide)).trans rfl
theorem yr_144_6 {E : Ev} (h : Lay E) : rE E 144 6 = some 148 := (h.2.2 144 (by decide) (by decide) (by decide) 6 (by decide)).trans rfl
theorem yr_149_3 {E : Ev} (h : Lay E) : rE E 149 3 = some 150 := (h.2.2 149 (by decide) (by decide) (by decide) 3 (by decide)).trans rfl
theorem yr_149_4 {E : Ev} (h : Lay E) : rE E 149 4 = some 151 := (h.2.2 149 (by decide) (by decide) (by decide) 4 (by decide)).trans rfl
theorem yr_149_5 {E : Ev} (h : Lay E) : rE E 149 5 = some 152 := (h.2.2 149 (by decide) (by decide) (by decide) 5 (by decide)).trans rfl
theorem yr_149_6 {E : Ev} (h : Lay E) : rE E 149 6 = some 153 := (h.2.2 149 (by decide) (by decide) (by decide) 6 (by decide)).trans rfl
theorem yr_154_3 {E : Ev} (h : Lay E) : rE E 154 3 = some 155 := (h.2.2 154 (by decide) (by decide) (by decide) 3 (by decide)).trans rfl
theorem yr_154_4 {E : Ev} (h : Lay E) : rE E 154 4 = some 156 := (h.2.2 154 (by decide) (by decide) (by decide) 4 (by decide)).trans rfl
theorem yr_154_5 {E : Ev} (h : Lay E) : rE E 154 5 = some 157 := (h.2.2 154 (by decide) (by decide) (by decide) 5 (by decide)).trans rfl
theorem yr_154_6 {E : Ev} (h : Lay E) : rE E 154 6 = some 158 := (h.2.2 154 (by decide) (by decide) (by decide) 6 (by decide)).trans rfl
theorem yr_159_3 {E : Ev} (h : Lay E) : rE E 159 3 = some 160 := (h.2.2 159 (by decide) (by decide) (by decide) 3 (by decide)).trans rfl
theorem yr_159_4 {E : Ev} (h : Lay E) : rE E 159 4 = some 161 := (h.2.2 159 (by decide) (by decide) (by decide) 4 (by decide)).trans rfl
theorem yr_159_5 {E : Ev} (h : Lay E) : rE E 159 5 = some 162 := (h.2.2 159 (by decide) (by decide) (by decide) 5 (by decide)).trans rfl
theorem yr_159_6 {E : Ev} (h : Lay E) : rE E 159 6 = some 163 := (h.2.2 159 (by decide) (by decide) (by decide) 6 (by decide)).trans rfl
theorem yr_164_3 {E : Ev} (h : Lay E) : rE E 164 3 = some 165 := (h.2.2 164 (by decide) (by decide) (by decide) 3 (by decide)).trans rfl
theorem yr_164_4 {E : Ev} (h : Lay E) : rE E 164 4 = some 166 := (h.2.2 164 (by decide) (by decide) (by decide) 4 (by decide)).trans rfl
theorem yr_164_5 {E : Ev} (h : Lay E) : rE E 164 5 = some 167 := (h.2.2 164 (by decide) (by decide) (by decide) 5 (by decide)).trans rfl
theorem yr_164_6 {E : Ev} (h : Lay E) : rE E 164 6 = some 168 := (h.2.2 164 (by decide) (by decide) (by decide) 6 (by decide)).trans rfl
theorem yr_169_3 {E : Ev} (h : Lay E) : rE E 169 3 = some 170 := (h.2.2 169 (by decide) (by decide) (by decide) 3 (by decide)).trans rfl
theorem yr_169_4 {E : Ev} (h : Lay E) : rE E 169 4 = some 171 := (h.2.2 169 (by decide) (by decide) (by decide) 4 (by decide)).trans rfl
theorem yr_169_5 {E : Ev} (h : Lay E) : rE E 169 5 = some 172 := (h.2.2 169 (by decide) (by decide) (by decide) 5 (by decide)).trans rfl
theorem yr_169_6 {E : Ev} (h : Lay E) : rE E 169 6 = some 173 := (h.2.2 169 (by decide) (by decide) (by decide) 6 (by decide)).trans rfl
theorem yr_174_3 {E : Ev} (h : Lay E) : rE E 174 3 = some 175 := (h.2.2 174 (by decide) (by decide) (by decide) 3 (by decide)).trans rfl
theorem yr_174_4 {E : Ev} (h : Lay E) : rE E 174 4 = some 176 := (h.2.2 174 (by decide) (by decide) (by decide) 4 (by decide)).trans rfl
theorem yr_174_5 {E : Ev} (h : Lay E) : rE E 174 5 = some 177 := (h.2.2 174 (by decide) (by decide) (by decide) 5 (by decide)).trans rfl
theorem yr_174_6 {E : Ev} (h : Lay E) : rE E 174 6 = some 178 := (h.2.2 174 (by decide) (by decide) (by decide) 6 (by decide)).trans rfl
theorem yr_179_0 {E : Ev} (h : Lay E) : rE E 179 0 = some 2 := (h.2.2 179 (by decide) (by decide) (by decide) 0 (by decide)).trans rfl
theorem yr_179_1 {E : Ev} (h : Lay E) : rE E 179 1 = some 180 := (h.2.2 179 (by decide) (by decide) (by decide) 1 (by decide)).trans rfl
theorem yr_179_4 {E : Ev} (h : Lay E) : rE E 179 4 = some 181 := (h.2.2 179 (by decide) (by decide) (by decide) 4 (by decide)).trans rfl
theorem yr_179_5 {E : Ev} (h : Lay E) : rE E 179 5 = some 182 := (h.2.2 179 (by decide) (by decide) (by decide) 5 (by decide)).trans rfl
theorem yr_179_6 {E : Ev} (h : Lay E) : rE E 179 6 = some 183 := (h.2.2 179 (by decide) (by decide) (by decide) 6 (by decide)).trans rfl
theorem yr_179_7 {E : Ev} (h : Lay E) : rE E 179 7 = some 185 := (h.2.2 179 (by decide) (by decide) (by decide) 7 (by decide)).trans rfl
theorem yr_179_8 {E : Ev} (h : Lay E) : rE E 179 8 = some 187 := (h.2.2 179 (by decide) (by decide) (by decide) 8 (by decide)).trans rfl
theorem yr_179_9 {E : Ev} (h : Lay E) : rE E 179 9 = some 189 := (h.2.2 179 (by decide) (by decide) (by decide) 9 (by decide)).trans rfl
theorem yr_179_10 {E : Ev} (h : Lay E) : rE E 179 10 = some 191 := (h.2.2 179 (by decide) (by decide) (by decide) 10 (by decide)).trans rfl
theorem yr_179_11 {E : Ev} (h : Lay E) : rE E 179 11 = some 193 := (h.2.2 179 (by decide) (by decide) (by decide) 11 (by decide)).trans rfl
theorem yr_179_12 {E : Ev} (h : Lay E) : rE E 179 12 = some 195 := (h.2.2 179 (by decide) (by decide) (by decide) 12 (by decide)).trans rfl
theorem yr_179_13 {E : Ev} (h : Lay E) : rE E 179 13 = some 197 := (h.2.2 179 (by decide) (by decide) (by decide) 13 (by decide)).trans rfl
theorem yr_179_14 {E : Ev} (h : Lay E) : rE E 179 14 = some 199 := (h.2.2 179 (by decide) (by decide) (by decide) 14 (by decide)).trans rfl
theorem yr_183_0 {E : Ev} (h : Lay E) : rE E 183 0 = some 184 := (h.2.2 183 (by decide) (by decide) (by decide) 0 (by decide)).trans rfl
theorem yr_185_0 {E : Ev} (h : Lay E) : rE E 185 0 = some 186 := (h.2.2 185 (by decide) (by decide) (by decide) 0 (by decide)).trans rfl
theorem yr_187_0 {E : Ev} (h : Lay E) : rE E 187 0 = some 188 := (h.2.2 187 (by decide) (by decide) (by decide) 0 (by decide)).trans rfl
theorem yr_189_0 {E : Ev} (h : Lay E) : rE E 189 0 = some 190 := (h.2.2 189 (by decide) (by decide) (by decide) 0 (by decide)).trans rfl
theorem yr_191_0 {E : Ev} (h : Lay E) : rE E 191 0 = some 192 := (h.2.2 191 (by decide) (by decide) (by decide) 0 (by decide)).trans rfl
theorem yr_193_0 {E : Ev} (h : Lay E) : rE E 193 0 = some 194 := (h.2.2 193 (by decide) (by decide) (by decide) 0 (by decide)).trans rfl
theorem yr_195_0 {E : Ev} (h : Lay E) : rE E 195 0 = some 196 := (h.2.2 195 (by decide) (by decide) (by decide) 0 (by decide)).trans rfl
theorem yr_197_0 {E : Ev} (h : Lay E) : rE E 197 0 = some 198 := (h.2.2 197 (by decide) (by decide) (by decide) 0 (by decide)).trans rfl
theorem yr_199_0 {E : Ev} (h : Lay E) : rE E 199 0 = some 200 := (h.2.2 199 (by decide) (by decide) (by decide) 0 (by decide)).trans rfl
theorem yr_201_0 {E : Ev} (h : Lay E) : rE E 201 0 = some 202 := (h.2.2 201 (by decide) (by decide) (by decide) 0 (by decide)).trans rfl
theorem yr_203_0 {E : Ev} (h : Lay E) : rE E 203 0 = some 204 := (h.2.2 203 (by decide) (by decide) (by decide) 0 (by decide)).trans rfl
theorem yr_205_0 {E : Ev} (h : Lay E) : rE E 205 0 = some 206 := (h.2.2 205 (by decide) (by decide) (by decide) 0 (by decide)).trans rfl
theorem yr_207_0 {E : Ev} (h : Lay E) : rE E 207 0 = some 208 := (h.2.2 207 (by decide) (by decide) (by decide) 0 (by decide)).trans rfl
theorem yr_209_0 {E : Ev} (h : Lay E) : rE E 209 0 = some 210 := (h.2.2 209 (by decide) (by decide) (by decide) 0 (by decide)).trans rfl
theorem yr_211_0 {E : Ev} (h : Lay E) : rE E 211 0 = some 212 := (h.2.2 211 (by decide) (by decide) (by decide) 0 (by decide)).trans rfl
theorem yr_213_0 {E : Ev} (h : Lay E) : rE E 213 0 = some 214 := (h.2.2 213 (by decide) (by decide) (by decide) 0 (by decide)).trans rfl
theorem yr_215_0 {E : Ev} (h : Lay E) : rE E 215 0 = some 216 := (h.2.2 215 (by decide) (by decide) (by decide) 0 (by decide)).trans rfl
theorem yr_217_0 {E : Ev} (h : Lay E) : rE E 217 0 = some 218 := (h.2.2 217 (by decide) (by decide) (by decide) 0 (by decide)).trans rfl
theorem yr_219_1 {E : Ev} (h : Lay E) : rE E 219 1 = some 220 := (h.2.2 219 (by decide) (by decide) (by decide) 1 (by decide)).trans rfl
theorem yr_219_2 {E : Ev} (h : Lay E) : rE E 219 2 = some 221 := (h.2.2 219 (by decide) (by decide) (by decide) 2 (by decide)).trans rfl
theorem yr_219_3 {E : Ev} (h : Lay E) : rE E 219 3 = some 224 := (h.2.2 219 (by decide) (by decide) (by decide) 3 (by decide)).trans rfl
theorem yr_219_4 {E : Ev} (h : Lay E) : rE E 219 4 = some 242 := (h.2.2 219 (by decide) (by decide) (by decide) 4 (by decide)).trans rfl
theorem yr_243_2 {E : Ev} (h : Lay E) : rE E 243 2 = some 244 := (h.2.2 243 (by decide) (by decide) (by decide) 2 (by decide)).trans rfl
theorem yr_243_3 {E : Ev} (h : Lay E) : rE E 243 3 = some 245 := (h.2.2 243 (by decide) (by decide) (by decide) 3 (by decide)).trans rfl
theorem ya_8 {E : Ev} (h : Lay E) {j : Nat} (hj : j < 31) : rE E 8 j = some (9 + j) := by
  refine (h.2.2 8 (by decide) (by decide) (by decide) j (by omega)).trans ?_
  show (bif Nat.blt j 31 then some (9 + j) else none) = _
  rw [Nat.blt_eq.mpr hj]
  rfl
theorem ya_73 {E : Ev} (h : Lay E) {j : Nat} (hj : j < 21) : rE E 73 j = some (74 + 5 * j) := by
  refine (h.2.2 73 (by decide) (by decide) (by decide) j (by omega)).trans ?_
  show (bif Nat.blt j 21 then some (74 + 5 * j) else none) = _
  rw [Nat.blt_eq.mpr hj]
  rfl
theorem ya_182 {E : Ev} (h : Lay E) {j : Nat} (hj : j < 9) : rE E 182 j = some (201 + 2 * j) := by
  refine (h.2.2 182 (by decide) (by decide) (by decide) j (by omega)).trans ?_
  show (bif Nat.blt j 9 then some (201 + 2 * j) else none) = _
  rw [Nat.blt_eq.mpr hj]
  rfl
theorem ya_221 {E : Ev} (h : Lay E) {j : Nat} (hj : j < 2) : rE E 221 j = some (222 + j) := by
  refine (h.2.2 221 (by decide) (by decide) (by decide) j (by omega)).trans ?_
  show (bif Nat.blt j 2 then some (222 + j) else none) = _
  rw [Nat.blt_eq.mpr hj]
  rfl
theorem ya_224 {E : Ev} (h : Lay E) {j : Nat} (hj : j < 17) : rE E 224 j = some (225 + j) := by
  refine (h.2.2 224 (by decide) (by decide) (by decide) j (by omega)).trans ?_
  show (bif Nat.blt j 17 then some (225 + j) else none) = _
  rw [Nat.blt_eq.mpr hj]
  rfl
abbrev isNa (E : Ev) (p : Nat) : Prop := p + 1 < nE E ∧ tE E p = (108, 0) ∧ rE E p 0 = some (p + 1) ∧ tE E (p + 1) = (0, 13)
theorem isNa_i {E : Ev} {p : Nat} (h : isNa E p) : p < nE E := by have := h.1; omega
theorem isNa_T {E : Ev} {p : Nat} (h : isNa E p) : tE E p = (100 + 8, 0) := h.2.1
theorem isNa_r0 {E : Ev} {p : Nat} (h : isNa E p) : rE E p 0 = some (p + 1) := h.2.2.1
theorem isNa_i1 {E : Ev} {p : Nat} (h : isNa E p) : p + 1 < nE E := by have := h.1; omega
theorem isNa_t1 {E : Ev} {p : Nat} (h : isNa E p) : tE E (p + 1) = (0, 13) := h.2.2.2
abbrev isDi (E : Ev) (p : Nat) : Prop := p + 6 < nE E ∧ tE E p = (104, 0) ∧ rE E p 2 = some (p + 1) ∧ rE E p 3 = some (p + 2) ∧ rE E p 4 = some (p + 3) ∧ rE E p 5 = some (p + 4) ∧ rE E p 6 = some (p + 5) ∧ rE E p 7 = some (p + 6) ∧ tE E (p + 1) = (0, 8) ∧ tE E (p + 2) = (1, 8) ∧ tE E (p + 3) = (0, 8) ∧ tE E (p + 4) = (0, 8) ∧ tE E (p + 5) = (1, 8) ∧ tE E (p + 6) = (0, 61)
theorem isDi_i {E : Ev} {p : Nat} (h : isDi E p) : p < nE E := by have := h.1; omega
theorem isDi_T {E : Ev} {p : Nat} (h : isDi E p) : tE E p = (100 + 4, 0) := h.2.1
theorem isDi_r2 {E : Ev} {p : Nat} (h : isDi E p) : rE E p 2 = some (p + 1) := h.2.2.1
theorem isDi_i1 {E : Ev} {p : Nat} (h : isDi E p) : p + 1 < nE E := by have := h.1; omega
theorem isDi_t1 {E : Ev} {p : Nat} (h : isDi E p) : tE E (p + 1) = (0, 8) := h.2.2.2.2.2.2.2.2.1
theorem isDi_r3 {E : Ev} {p : Nat} (h : isDi E p) : rE E p 3 = some (p + 2) := h.2.2.2.1
theorem isDi_i2 {E : Ev} {p : Nat} (h : isDi E p) : p + 2 < nE E := by have := h.1; omega
theorem isDi_t2 {E : Ev} {p : Nat} (h : isDi E p) : tE E (p + 2) = (1, 8) := h.2.2.2.2.2.2.2.2.2.1
theorem isDi_r4 {E : Ev} {p : Nat} (h : isDi E p) : rE E p 4 = some (p + 3) := h.2.2.2.2.1
theorem isDi_i3 {E : Ev} {p : Nat} (h : isDi E p) : p + 3 < nE E := by have := h.1; omega
theorem isDi_t3 {E : Ev} {p : Nat} (h : isDi E p) : tE E (p + 3) = (0, 8) := h.2.2.2.2.2.2.2.2.2.2.1
theorem isDi_r5 {E : Ev} {p : Nat} (h : isDi E p) : rE E p 5 = some (p + 4) := h.2.2.2.2.2.1
theorem isDi_i4 {E : Ev} {p : Nat} (h : isDi E p) : p + 4 < nE E := by have := h.1; omega
theorem isDi_t4 {E : Ev} {p : Nat} (h : isDi E p) : tE E (p + 4) = (0, 8) := h.2.2.2.2.2.2.2.2.2.2.2.1
theorem isDi_r6 {E : Ev} {p : Nat} (h : isDi E p) : rE E p 6 = some (p + 5) := h.2.2.2.2.2.2.1
theorem isDi_i5 {E : Ev} {p : Nat} (h : isDi E p) : p + 5 < nE E := by have := h.1; omega
theorem isDi_t5 {E : Ev} {p : Nat} (h : isDi E p) : tE E (p + 5) = (1, 8) := h.2.2.2.2.2.2.2.2.2.2.2.2.1
theorem isDi_r7 {E : Ev} {p : Nat} (h : isDi E p) : rE E p 7 = some (p + 6) := h.2.2.2.2.2.2.2.1
theorem isDi_i6 {E : Ev} {p : Nat} (h : isDi E p) : p + 6 < nE E := by have := h.1; omega
theorem isDi_t6 {E : Ev} {p : Nat} (h : isDi E p) : tE E (p + 6) = (0, 61) := h.2.2.2.2.2.2.2.2.2.2.2.2.2
abbrev isKs (E : Ev) (p : Nat) : Prop := p + 4 < nE E ∧ tE E p = (106, 0) ∧ rE E p 3 = some (p + 1) ∧ rE E p 4 = some (p + 2) ∧ rE E p 5 = some (p + 3) ∧ rE E p 6 = some (p + 4) ∧ tE E (p + 1) = (0, 60) ∧ tE E (p + 2) = (0, 8) ∧ tE E (p + 3) = (0, 8) ∧ tE E (p + 4) = (0, 8)
theorem isKs_i {E : Ev} {p : Nat} (h : isKs E p) : p < nE E := by have := h.1; omega
theorem isKs_T {E : Ev} {p : Nat} (h : isKs E p) : tE E p = (100 + 6, 0) := h.2.1
theorem isKs_r3 {E : Ev} {p : Nat} (h : isKs E p) : rE E p 3 = some (p + 1) := h.2.2.1
theorem isKs_i1 {E : Ev} {p : Nat} (h : isKs E p) : p + 1 < nE E := by have := h.1; omega
theorem isKs_t1 {E : Ev} {p : Nat} (h : isKs E p) : tE E (p + 1) = (0, 60) := h.2.2.2.2.2.2.1
theorem isKs_r4 {E : Ev} {p : Nat} (h : isKs E p) : rE E p 4 = some (p + 2) := h.2.2.2.1
theorem isKs_i2 {E : Ev} {p : Nat} (h : isKs E p) : p + 2 < nE E := by have := h.1; omega
theorem isKs_t2 {E : Ev} {p : Nat} (h : isKs E p) : tE E (p + 2) = (0, 8) := h.2.2.2.2.2.2.2.1
theorem isKs_r5 {E : Ev} {p : Nat} (h : isKs E p) : rE E p 5 = some (p + 3) := h.2.2.2.2.1
theorem isKs_i3 {E : Ev} {p : Nat} (h : isKs E p) : p + 3 < nE E := by have := h.1; omega
theorem isKs_t3 {E : Ev} {p : Nat} (h : isKs E p) : tE E (p + 3) = (0, 8) := h.2.2.2.2.2.2.2.2.1
theorem isKs_r6 {E : Ev} {p : Nat} (h : isKs E p) : rE E p 6 = some (p + 4) := h.2.2.2.2.2.1
theorem isKs_i4 {E : Ev} {p : Nat} (h : isKs E p) : p + 4 < nE E := by have := h.1; omega
theorem isKs_t4 {E : Ev} {p : Nat} (h : isKs E p) : tE E (p + 4) = (0, 8) := h.2.2.2.2.2.2.2.2.2
abbrev isCt (E : Ev) (p : Nat) : Prop := p + 4 < nE E ∧ tE E p = (102, 0) ∧ rE E p 6 = some (p + 1) ∧ rE E p 7 = some (p + 2) ∧ rE E p 8 = some (p + 3) ∧ rE E p 9 = some (p + 4) ∧ tE E (p + 1) = (0, 30) ∧ tE E (p + 2) = (0, 3) ∧ tE E (p + 3) = (0, 8) ∧ tE E (p + 4) = (0, 1170)
theorem isCt_i {E : Ev} {p : Nat} (h : isCt E p) : p < nE E := by have := h.1; omega
theorem isCt_T {E : Ev} {p : Nat} (h : isCt E p) : tE E p = (100 + 2, 0) := h.2.1
theorem isCt_r6 {E : Ev} {p : Nat} (h : isCt E p) : rE E p 6 = some (p + 1) := h.2.2.1
theorem isCt_i1 {E : Ev} {p : Nat} (h : isCt E p) : p + 1 < nE E := by have := h.1; omega
theorem isCt_t1 {E : Ev} {p : Nat} (h : isCt E p) : tE E (p + 1) = (0, 30) := h.2.2.2.2.2.2.1
theorem isCt_r7 {E : Ev} {p : Nat} (h : isCt E p) : rE E p 7 = some (p + 2) := h.2.2.2.1
theorem isCt_i2 {E : Ev} {p : Nat} (h : isCt E p) : p + 2 < nE E := by have := h.1; omega
theorem isCt_t2 {E : Ev} {p : Nat} (h : isCt E p) : tE E (p + 2) = (0, 3) := h.2.2.2.2.2.2.2.1
theorem isCt_r8 {E : Ev} {p : Nat} (h : isCt E p) : rE E p 8 = some (p + 3) := h.2.2.2.2.1
theorem isCt_i3 {E : Ev} {p : Nat} (h : isCt E p) : p + 3 < nE E := by have := h.1; omega
theorem isCt_t3 {E : Ev} {p : Nat} (h : isCt E p) : tE E (p + 3) = (0, 8) := h.2.2.2.2.2.2.2.2.1
theorem isCt_r9 {E : Ev} {p : Nat} (h : isCt E p) : rE E p 9 = some (p + 4) := h.2.2.2.2.2.1
theorem isCt_i4 {E : Ev} {p : Nat} (h : isCt E p) : p + 4 < nE E := by have := h.1; omega
theorem isCt_t4 {E : Ev} {p : Nat} (h : isCt E p) : tE E (p + 4) = (0, 1170) := h.2.2.2.2.2.2.2.2.2
theorem lay_new {E : Ev} {d : Dd} (h : Lay E) : Lay (eNew E d) := by
  have h0 : 250 ≤ nE E := h.1
  refine ⟨Nat.le_succ_of_le h0, fun i hi => ?_, fun i hi h180 h181 k hk => ?_⟩
  · exact (va_up_ne _ _ (by have h9 : 250 ≤ E.1.1 := h0; omega)).trans (h.2.1 i hi)
  · have e : rE (eNew E d) i = rE E i := va_up_ne _ _ (by have h9 : 250 ≤ E.1.1 := h0; omega)
    rw [e]
    exact h.2.2 i hi h180 h181 k hk
theorem lay_grid {E : Ev} {N K : Nat} (h : Lay E) : Lay (eGrid E N K) := by
  have h0 : 250 ≤ nE E := h.1
  refine ⟨Nat.le_trans h0 (gw_grid E N K).1, fun i hi => ?_, fun i hi h180 h181 k hk => ?_⟩
  · exact ((gw_grid E N K).2 i (by omega)).trans (h.2.1 i hi)
  · have e : rE (eGrid E N K) i = rE E i := by
      show gR E N i = rE E i
      unfold gR
      rw [bltT (show i < E.1.1 from Nat.lt_of_lt_of_le hi h0)]
      rfl
    rw [e]
    exact h.2.2 i hi h180 h181 k hk
theorem lay_put180 {E : Ev} {k j : Nat} (h : Lay E) : Lay (eRef E 180 k j) := by
  refine ⟨by rw [nE_ref]; exact h.1, fun i hi => by rw [tE_ref]; exact h.2.1 i hi, fun i hi h180 h181 k9 hk => ?_⟩
  by_cases hj : j < nE E
  · rw [rE_ref hj, va_up_ne _ _ h180]
    exact h.2.2 i hi h180 h181 k9 hk
  · have e : eRef E 180 k j = E := by unfold eRef; rw [dif_neg (show ¬ j < E.1.1 from hj)]
    rw [e]
    exact h.2.2 i hi h180 h181 k9 hk
theorem lay_put181 {E : Ev} {k j : Nat} (h : Lay E) : Lay (eRef E 181 k j) := by
  refine ⟨by rw [nE_ref]; exact h.1, fun i hi => by rw [tE_ref]; exact h.2.1 i hi, fun i hi h180 h181 k9 hk => ?_⟩
  by_cases hj : j < nE E
  · rw [rE_ref hj, va_up_ne _ _ h181]
    exact h.2.2 i hi h180 h181 k9 hk
  · have e : eRef E 181 k j = E := by unfold eRef; rw [dif_neg (show ¬ j < E.1.1 from hj)]
    rw [e]
    exact h.2.2 i hi h180 h181 k9 hk
abbrev isIA (E : Ev) (p : Nat) : Prop := p < nE E ∧ (tE E p).1 = 0
theorem isIA_T {E : Ev} {p : Nat} (h : isIA E p) : tE E p = (0, (tE E p).2) := Prod.ext h.2 rfl
abbrev isLA (E : Ev) (p : Nat) : Prop := p < nE E ∧ (tE E p).1 = 1
theorem isLA_T {E : Ev} {p : Nat} (h : isLA E p) : tE E p = (1, (tE E p).2) := Prod.ext h.2 rfl
/-- the fuel of a loop -/
def FU : Nat := 5000

theorem yg_8 {E : Ev} (hL : Lay E) {j : Int} (h : inb j 31) : 9 + j.toNat < nE E ∧ tE E (9 + j.toNat) = (0, 8) := by
  have h1 := inb_lt h
  have key : ∀ k, k < 31 → T0 (9 + k) = (0, 8) := by decide +kernel
  refine ⟨by have := hL.1; omega, ?_⟩
  rw [hL.2.1 _ (by omega)]
  exact key _ h1
theorem yg_73 {E : Ev} (hL : Lay E) {j : Int} (h : inb j 21) : isKs E (74 + 5 * j.toNat) := by
  have h1 := inb_lt h
  have key : ∀ k, k < 21 → T0 (74 + 5 * k) = (106, 0) ∧ R0 (74 + 5 * k) 3 = some (74 + 5 * k + 1) ∧ R0 (74 + 5 * k) 4 = some (74 + 5 * k + 2) ∧ R0 (74 + 5 * k) 5 = some (74 + 5 * k + 3) ∧ R0 (74 + 5 * k) 6 = some (74 + 5 * k + 4) ∧ T0 (74 + 5 * k + 1) = (0, 60) ∧ T0 (74 + 5 * k + 2) = (0, 8) ∧ T0 (74 + 5 * k + 3) = (0, 8) ∧ T0 (74 + 5 * k + 4) = (0, 8) := by decide +kernel
  exact ⟨by have := hL.1; omega, by rw [hL.2.1 _ (by omega)]; exact (key _ h1).1, by rw [hL.2.2 _ (by omega) (by omega) (by omega) 3 (by decide)]; exact (key _ h1).2.1, by rw [hL.2.2 _ (by omega) (by omega) (by omega) 4 (by decide)]; exact (key _ h1).2.2.1, by rw [hL.2.2 _ (by omega) (by omega) (by omega) 5 (by decide)]; exact (key _ h1).2.2.2.1, by rw [hL.2.2 _ (by omega) (by omega) (by omega) 6 (by decide)]; exact (key _ h1).2.2.2.2.1, by rw [hL.2.1 _ (by omega)]; exact (key _ h1).2.2.2.2.2.1, by rw [hL.2.1 _ (by omega)]; exact (key _ h1).2.2.2.2.2.2.1, by rw [hL.2.1 _ (by omega)]; exact (key _ h1).2.2.2.2.2.2.2.1, by rw [hL.2.1 _ (by omega)]; exact (key _ h1).2.2.2.2.2.2.2.2⟩
theorem yg_182 {E : Ev} (hL : Lay E) {j : Int} (h : inb j 9) : isNa E (201 + 2 * j.toNat) := by
  have h1 := inb_lt h
  have key : ∀ k, k < 9 → T0 (201 + 2 * k) = (108, 0) ∧ R0 (201 + 2 * k) 0 = some (201 + 2 * k + 1) ∧ T0 (201 + 2 * k + 1) = (0, 13) := by decide +kernel
  exact ⟨by have := hL.1; omega, by rw [hL.2.1 _ (by omega)]; exact (key _ h1).1, by rw [hL.2.2 _ (by omega) (by omega) (by omega) 0 (by decide)]; exact (key _ h1).2.1, by rw [hL.2.1 _ (by omega)]; exact (key _ h1).2.2⟩
theorem yg_221 {E : Ev} (hL : Lay E) {j : Int} (h : inb j 2) : 222 + j.toNat < nE E ∧ tE E (222 + j.toNat) = (0, 16) := by
  have h1 := inb_lt h
  have key : ∀ k, k < 2 → T0 (222 + k) = (0, 16) := by decide +kernel
  refine ⟨by have := hL.1; omega, ?_⟩
  rw [hL.2.1 _ (by omega)]
  exact key _ h1
theorem yg_224 {E : Ev} (hL : Lay E) {j : Int} (h : inb j 17) : 225 + j.toNat < nE E ∧ tE E (225 + j.toNat) = (0, 16) := by
  have h1 := inb_lt h
  have key : ∀ k, k < 17 → T0 (225 + k) = (0, 16) := by decide +kernel
  refine ⟨by have := hL.1; omega, ?_⟩
  rw [hL.2.1 _ (by omega)]
  exact key _ h1
theorem yo_57 {E : Ev} (hL : Lay E) : isDi E 57 := ⟨yi_63 hL, yt_57 hL, yr_57_2 hL, yr_57_3 hL, yr_57_4 hL, yr_57_5 hL, yr_57_6 hL, yr_57_7 hL, yt_58 hL, yt_59 hL, yt_60 hL, yt_61 hL, yt_62 hL, yt_63 hL⟩
theorem yo_64 {E : Ev} (hL : Lay E) : isDi E 64 := ⟨yi_70 hL, yt_64 hL, yr_64_2 hL, yr_64_3 hL, yr_64_4 hL, yr_64_5 hL, yr_64_6 hL, yr_64_7 hL, yt_65 hL, yt_66 hL, yt_67 hL, yt_68 hL, yt_69 hL, yt_70 hL⟩
theorem yo_74 {E : Ev} (hL : Lay E) : isKs E 74 := ⟨yi_78 hL, yt_74 hL, yr_74_3 hL, yr_74_4 hL, yr_74_5 hL, yr_74_6 hL, yt_75 hL, yt_76 hL, yt_77 hL, yt_78 hL⟩
theorem yo_79 {E : Ev} (hL : Lay E) : isKs E 79 := ⟨yi_83 hL, yt_79 hL, yr_79_3 hL, yr_79_4 hL, yr_79_5 hL, yr_79_6 hL, yt_80 hL, yt_81 hL, yt_82 hL, yt_83 hL⟩
theorem yo_84 {E : Ev} (hL : Lay E) : isKs E 84 := ⟨yi_88 hL, yt_84 hL, yr_84_3 hL, yr_84_4 hL, yr_84_5 hL, yr_84_6 hL, yt_85 hL, yt_86 hL, yt_87 hL, yt_88 hL⟩
theorem yo_89 {E : Ev} (hL : Lay E) : isKs E 89 := ⟨yi_93 hL, yt_89 hL, yr_89_3 hL, yr_89_4 hL, yr_89_5 hL, yr_89_6 hL, yt_90 hL, yt_91 hL, yt_92 hL, yt_93 hL⟩
theorem yo_94 {E : Ev} (hL : Lay E) : isKs E 94 := ⟨yi_98 hL, yt_94 hL, yr_94_3 hL, yr_94_4 hL, yr_94_5 hL, yr_94_6 hL, yt_95 hL, yt_96 hL, yt_97 hL, yt_98 hL⟩
theorem yo_99 {E : Ev} (hL : Lay E) : isKs E 99 := ⟨yi_103 hL, yt_99 hL, yr_99_3 hL, yr_99_4 hL, yr_99_5 hL, yr_99_6 hL, yt_100 hL, yt_101 hL, yt_102 hL, yt_103 hL⟩
theorem yo_104 {E : Ev} (hL : Lay E) : isKs E 104 := ⟨yi_108 hL, yt_104 hL, yr_104_3 hL, yr_104_4 hL, yr_104_5 hL, yr_104_6 hL, yt_105 hL, yt_106 hL, yt_107 hL, yt_108 hL⟩
theorem yo_109 {E : Ev} (hL : Lay E) : isKs E 109 := ⟨yi_113 hL, yt_109 hL, yr_109_3 hL, yr_109_4 hL, yr_109_5 hL, yr_109_6 hL, yt_110 hL, yt_111 hL, yt_112 hL, yt_113 hL⟩
theorem yo_114 {E : Ev} (hL : Lay E) : isKs E 114 := ⟨yi_118 hL, yt_114 hL, yr_114_3 hL, yr_114_4 hL, yr_114_5 hL, yr_114_6 hL, yt_115 hL, yt_116 hL, yt_117 hL, yt_118 hL⟩
theorem yo_119 {E : Ev} (hL : Lay E) : isKs E 119 := ⟨yi_123 hL, yt_119 hL, yr_119_3 hL, yr_119_4 hL, yr_119_5 hL, yr_119_6 hL, yt_120 hL, yt_121 hL, yt_122 hL, yt_123 hL⟩
theorem yo_124 {E : Ev} (hL : Lay E) : isKs E 124 := ⟨yi_128 hL, yt_124 hL, yr_124_3 hL, yr_124_4 hL, yr_124_5 hL, yr_124_6 hL, yt_125 hL, yt_126 hL, yt_127 hL, yt_128 hL⟩
theorem yo_129 {E : Ev} (hL : Lay E) : isKs E 129 := ⟨yi_133 hL, yt_129 hL, yr_129_3 hL, yr_129_4 hL, yr_129_5 hL, yr_129_6 hL, yt_130 hL, yt_131 hL, yt_132 hL, yt_133 hL⟩
theorem yo_134 {E : Ev} (hL : Lay E) : isKs E 134 := ⟨yi_138 hL, yt_134 hL, yr_134_3 hL, yr_134_4 hL, yr_134_5 hL, yr_134_6 hL, yt_135 hL, yt_136 hL, yt_137 hL, yt_138 hL⟩
theorem yo_139 {E : Ev} (hL : Lay E) : isKs E 139 := ⟨yi_143 hL, yt_139 hL, yr_139_3 hL, yr_139_4 hL, yr_139_5 hL, yr_139_6 hL, yt_140 hL, yt_141 hL, yt_142 hL, yt_143 hL⟩
theorem yo_144 {E : Ev} (hL : Lay E) : isKs E 144 := ⟨yi_148 hL, yt_144 hL, yr_144_3 hL, yr_144_4 hL, yr_144_5 hL, yr_144_6 hL, yt_145 hL, yt_146 hL, yt_147 hL, yt_148 hL⟩
theorem yo_149 {E : Ev} (hL : Lay E) : isKs E 149 := ⟨yi_153 hL, yt_149 hL, yr_149_3 hL, yr_149_4 hL, yr_149_5 hL, yr_149_6 hL, yt_150 hL, yt_151 hL, yt_152 hL, yt_153 hL⟩
theorem yo_154 {E : Ev} (hL : Lay E) : isKs E 154 := ⟨yi_158 hL, yt_154 hL, yr_154_3 hL, yr_154_4 hL, yr_154_5 hL, yr_154_6 hL, yt_155 hL, yt_156 hL, yt_157 hL, yt_158 hL⟩
theorem yo_159 {E : Ev} (hL : Lay E) : isKs E 159 := ⟨yi_163 hL, yt_159 hL, yr_159_3 hL, yr_159_4 hL, yr_159_5 hL, yr_159_6 hL, yt_160 hL, yt_161 hL, yt_162 hL, yt_163 hL⟩
theorem yo_164 {E : Ev} (hL : Lay E) : isKs E 164 := ⟨yi_168 hL, yt_164 hL, yr_164_3 hL, yr_164_4 hL, yr_164_5 hL, yr_164_6 hL, yt_165 hL, yt_166 hL, yt_167 hL, yt_168 hL⟩
theorem yo_169 {E : Ev} (hL : Lay E) : isKs E 169 := ⟨yi_173 hL, yt_169 hL, yr_169_3 hL, yr_169_4 hL, yr_169_5 hL, yr_169_6 hL, yt_170 hL, yt_171 hL, yt_172 hL, yt_173 hL⟩
theorem yo_174 {E : Ev} (hL : Lay E) : isKs E 174 := ⟨yi_178 hL, yt_174 hL, yr_174_3 hL, yr_174_4 hL, yr_174_5 hL, yr_174_6 hL, yt_175 hL, yt_176 hL, yt_177 hL, yt_178 hL⟩
theorem yo_183 {E : Ev} (hL : Lay E) : isNa E 183 := ⟨yi_184 hL, yt_183 hL, yr_183_0 hL, yt_184 hL⟩
theorem yo_185 {E : Ev} (hL : Lay E) : isNa E 185 := ⟨yi_186 hL, yt_185 hL, yr_185_0 hL, yt_186 hL⟩
theorem yo_187 {E : Ev} (hL : Lay E) : isNa E 187 := ⟨yi_188 hL, yt_187 hL, yr_187_0 hL, yt_188 hL⟩
theorem yo_189 {E : Ev} (hL : Lay E) : isNa E 189 := ⟨yi_190 hL, yt_189 hL, yr_189_0 hL, yt_190 hL⟩
theorem yo_191 {E : Ev} (hL : Lay E) : isNa E 191 := ⟨yi_192 hL, yt_191 hL, yr_191_0 hL, yt_192 hL⟩
theorem yo_193 {E : Ev} (hL : Lay E) : isNa E 193 := ⟨yi_194 hL, yt_193 hL, yr_193_0 hL, yt_194 hL⟩
theorem yo_195 {E : Ev} (hL : Lay E) : isNa E 195 := ⟨yi_196 hL, yt_195 hL, yr_195_0 hL, yt_196 hL⟩
theorem yo_197 {E : Ev} (hL : Lay E) : isNa E 197 := ⟨yi_198 hL, yt_197 hL, yr_197_0 hL, yt_198 hL⟩
theorem yo_199 {E : Ev} (hL : Lay E) : isNa E 199 := ⟨yi_200 hL, yt_199 hL, yr_199_0 hL, yt_200 hL⟩
theorem yo_201 {E : Ev} (hL : Lay E) : isNa E 201 := ⟨yi_202 hL, yt_201 hL, yr_201_0 hL, yt_202 hL⟩
theorem yo_203 {E : Ev} (hL : Lay E) : isNa E 203 := ⟨yi_204 hL, yt_203 hL, yr_203_0 hL, yt_204 hL⟩
theorem yo_205 {E : Ev} (hL : Lay E) : isNa E 205 := ⟨yi_206 hL, yt_205 hL, yr_205_0 hL, yt_206 hL⟩
theorem yo_207 {E : Ev} (hL : Lay E) : isNa E 207 := ⟨yi_208 hL, yt_207 hL, yr_207_0 hL, yt_208 hL⟩
theorem yo_209 {E : Ev} (hL : Lay E) : isNa E 209 := ⟨yi_210 hL, yt_209 hL, yr_209_0 hL, yt_210 hL⟩
theorem yo_211 {E : Ev} (hL : Lay E) : isNa E 211 := ⟨yi_212 hL, yt_211 hL, yr_211_0 hL, yt_212 hL⟩
theorem yo_213 {E : Ev} (hL : Lay E) : isNa E 213 := ⟨yi_214 hL, yt_213 hL, yr_213_0 hL, yt_214 hL⟩
theorem yo_215 {E : Ev} (hL : Lay E) : isNa E 215 := ⟨yi_216 hL, yt_215 hL, yr_215_0 hL, yt_216 hL⟩
theorem yo_217 {E : Ev} (hL : Lay E) : isNa E 217 := ⟨yi_218 hL, yt_217 hL, yr_217_0 hL, yt_218 hL⟩
