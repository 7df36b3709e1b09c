/-! links by numbers: classes, calls, fields; each with its words by their places -/
theorem mem_p {w : Cond} (i : Nat) (h : (k2_sels lw_privs)[i]? = some w) : w ∈ lw_tbl := List.mem_append_left _ (List.mem_of_getElem? h)
theorem mem_1 {w : Cond} (i : Nat) (h : tables_1_1[i]? = some w) : w ∈ lw_tbl := List.mem_append_right _ (show w ∈ tables_1_1 ++ (tables_1_2 ++ (tables_1_3 ++ (tables_1_4 ++ (tables_1_5 ++ tables_1_6)))) from List.mem_append_left _ (List.mem_of_getElem? h))
theorem mem_2 {w : Cond} (i : Nat) (h : tables_1_2[i]? = some w) : w ∈ lw_tbl := List.mem_append_right _ (show w ∈ tables_1_1 ++ (tables_1_2 ++ (tables_1_3 ++ (tables_1_4 ++ (tables_1_5 ++ tables_1_6)))) from List.mem_append_right _ (List.mem_append_left _ (List.mem_of_getElem? h)))
theorem mem_3 {w : Cond} (i : Nat) (h : tables_1_3[i]? = some w) : w ∈ lw_tbl := List.mem_append_right _ (show w ∈ tables_1_1 ++ (tables_1_2 ++ (tables_1_3 ++ (tables_1_4 ++ (tables_1_5 ++ tables_1_6)))) from List.mem_append_right _ (List.mem_append_right _ (List.mem_append_left _ (List.mem_of_getElem? h))))
theorem mem_4 {w : Cond} (i : Nat) (h : tables_1_4[i]? = some w) : w ∈ lw_tbl := List.mem_append_right _ (show w ∈ tables_1_1 ++ (tables_1_2 ++ (tables_1_3 ++ (tables_1_4 ++ (tables_1_5 ++ tables_1_6)))) from List.mem_append_right _ (List.mem_append_right _ (List.mem_append_right _ (List.mem_append_left _ (List.mem_of_getElem? h)))))
theorem mem_5 {w : Cond} (i : Nat) (h : tables_1_5[i]? = some w) : w ∈ lw_tbl := List.mem_append_right _ (show w ∈ tables_1_1 ++ (tables_1_2 ++ (tables_1_3 ++ (tables_1_4 ++ (tables_1_5 ++ tables_1_6)))) from List.mem_append_right _ (List.mem_append_right _ (List.mem_append_right _ (List.mem_append_right _ (List.mem_append_left _ (List.mem_of_getElem? h))))))
theorem mem_6 {w : Cond} (i : Nat) (h : tables_1_6[i]? = some w) : w ∈ lw_tbl := List.mem_append_right _ (show w ∈ tables_1_1 ++ (tables_1_2 ++ (tables_1_3 ++ (tables_1_4 ++ (tables_1_5 ++ tables_1_6)))) from List.mem_append_right _ (List.mem_append_right _ (List.mem_append_right _ (List.mem_append_right _ (List.mem_append_right _ (List.mem_of_getElem? h))))))
def cn (o : Nat) : String := bif Nat.blt o 10 then (bif Nat.blt o 5 then (bif Nat.blt o 2 then (bif Nat.blt o 1 then ("VerandaTalk$Asked") else ("VerandaTalk$Boundary")) else (bif Nat.blt o 3 then ("VerandaTalk$Frontier") else (bif Nat.blt o 4 then ("VerandaTalk$Hand") else ("VerandaTalk$Loan")))) else (bif Nat.blt o 7 then (bif Nat.blt o 6 then ("VerandaTalk$Marriage") else ("VerandaTalk$Matter")) else (bif Nat.blt o 8 then ("VerandaTalk$Possible") else (bif Nat.blt o 9 then ("VerandaTalk$Station") else ("VerandaTalk$Told"))))) else (bif Nat.blt o 15 then (bif Nat.blt o 12 then (bif Nat.blt o 11 then ("VerandaTalk$Veranda") else ("VerandaTalk")) else (bif Nat.blt o 13 then ("VerandaTalkModel") else (bif Nat.blt o 14 then ("VerandaTalkLaw") else ("java/lang/Character")))) else (bif Nat.blt o 17 then (bif Nat.blt o 16 then ("java/lang/Integer") else ("java/lang/Math")) else (bif Nat.blt o 18 then ("java/lang/String") else (bif Nat.blt o 19 then ("java/lang/StringLatin1") else ("jdk/internal/util/Preconditions")))))
def mO (k : Nat) : Nat := bif Nat.blt k 106 then (bif Nat.blt k 53 then (bif Nat.blt k 26 then (bif Nat.blt k 13 then (bif Nat.blt k 6 then (bif Nat.blt k 3 then (bif Nat.blt k 1 then (13) else (bif Nat.blt k 2 then (0) else (0))) else (bif Nat.blt k 4 then (0) else (bif Nat.blt k 5 then (0) else (0)))) else (bif Nat.blt k 9 then (bif Nat.blt k 7 then (0) else (bif Nat.blt k 8 then (0) else (0))) else (bif Nat.blt k 11 then (bif Nat.blt k 10 then (0) else (0)) else (bif Nat.blt k 12 then (0) else (0))))) else (bif Nat.blt k 19 then (bif Nat.blt k 16 then (bif Nat.blt k 14 then (0) else (bif Nat.blt k 15 then (1) else (1))) else (bif Nat.blt k 17 then (1) else (bif Nat.blt k 18 then (2) else (2)))) else (bif Nat.blt k 22 then (bif Nat.blt k 20 then (2) else (bif Nat.blt k 21 then (3) else (3))) else (bif Nat.blt k 24 then (bif Nat.blt k 23 then (3) else (3)) else (bif Nat.blt k 25 then (4) else (4)))))) else (bif Nat.blt k 39 then (bif Nat.blt k 32 then (bif Nat.blt k 29 then (bif Nat.blt k 27 then (4) else (bif Nat.blt k 28 then (5) else (5))) else (bif Nat.blt k 30 then (5) else (bif Nat.blt k 31 then (6) else (6)))) else (bif Nat.blt k 35 then (bif Nat.blt k 33 then (6) else (bif Nat.blt k 34 then (6) else (6))) else (bif Nat.blt k 37 then (bif Nat.blt k 36 then (6) else (7)) else (bif Nat.blt k 38 then (7) else (7))))) else (bif Nat.blt k 46 then (bif Nat.blt k 42 then (bif Nat.blt k 40 then (8) else (bif Nat.blt k 41 then (8) else (8))) else (bif Nat.blt k 44 then (bif Nat.blt k 43 then (8) else (8)) else (bif Nat.blt k 45 then (8) else (8)))) else (bif Nat.blt k 49 then (bif Nat.blt k 47 then (8) else (bif Nat.blt k 48 then (8) else (8))) else (bif Nat.blt k 51 then (bif Nat.blt k 50 then (8) else (8)) else (bif Nat.blt k 52 then (8) else (8))))))) else (bif Nat.blt k 79 then (bif Nat.blt k 66 then (bif Nat.blt k 59 then (bif Nat.blt k 56 then (bif Nat.blt k 54 then (8) else (bif Nat.blt k 55 then (8) else (9))) else (bif Nat.blt k 57 then (9) else (bif Nat.blt k 58 then (9) else (10)))) else (bif Nat.blt k 62 then (bif Nat.blt k 60 then (10) else (bif Nat.blt k 61 then (10) else (10))) else (bif Nat.blt k 64 then (bif Nat.blt k 63 then (10) else (10)) else (bif Nat.blt k 65 then (10) else (10))))) else (bif Nat.blt k 72 then (bif Nat.blt k 69 then (bif Nat.blt k 67 then (10) else (bif Nat.blt k 68 then (10) else (10))) else (bif Nat.blt k 70 then (10) else (bif Nat.blt k 71 then (10) else (10)))) else (bif Nat.blt k 75 then (bif Nat.blt k 73 then (10) else (bif Nat.blt k 74 then (11) else (11))) else (bif Nat.blt k 77 then (bif Nat.blt k 76 then (11) else (11)) else (bif Nat.blt k 78 then (11) else (11)))))) else (bif Nat.blt k 92 then (bif Nat.blt k 85 then (bif Nat.blt k 82 then (bif Nat.blt k 80 then (11) else (bif Nat.blt k 81 then (11) else (11))) else (bif Nat.blt k 83 then (11) else (bif Nat.blt k 84 then (11) else (11)))) else (bif Nat.blt k 88 then (bif Nat.blt k 86 then (11) else (bif Nat.blt k 87 then (11) else (11))) else (bif Nat.blt k 90 then (bif Nat.blt k 89 then (11) else (11)) else (bif Nat.blt k 91 then (11) else (11))))) else (bif Nat.blt k 99 then (bif Nat.blt k 95 then (bif Nat.blt k 93 then (11) else (bif Nat.blt k 94 then (11) else (11))) else (bif Nat.blt k 97 then (bif Nat.blt k 96 then (11) else (11)) else (bif Nat.blt k 98 then (11) else (11)))) else (bif Nat.blt k 102 then (bif Nat.blt k 100 then (11) else (bif Nat.blt k 101 then (11) else (11))) else (bif Nat.blt k 104 then (bif Nat.blt k 103 then (11) else (11)) else (bif Nat.blt k 105 then (11) else (11)))))))) else (bif Nat.blt k 159 then (bif Nat.blt k 132 then (bif Nat.blt k 119 then (bif Nat.blt k 112 then (bif Nat.blt k 109 then (bif Nat.blt k 107 then (11) else (bif Nat.blt k 108 then (11) else (11))) else (bif Nat.blt k 110 then (11) else (bif Nat.blt k 111 then (11) else (11)))) else (bif Nat.blt k 115 then (bif Nat.blt k 113 then (12) else (bif Nat.blt k 114 then (12) else (12))) else (bif Nat.blt k 117 then (bif Nat.blt k 116 then (12) else (12)) else (bif Nat.blt k 118 then (12) else (12))))) else (bif Nat.blt k 125 then (bif Nat.blt k 122 then (bif Nat.blt k 120 then (12) else (bif Nat.blt k 121 then (12) else (12))) else (bif Nat.blt k 123 then (12) else (bif Nat.blt k 124 then (12) else (12)))) else (bif Nat.blt k 128 then (bif Nat.blt k 126 then (12) else (bif Nat.blt k 127 then (12) else (12))) else (bif Nat.blt k 130 then (bif Nat.blt k 129 then (12) else (12)) else (bif Nat.blt k 131 then (12) else (12)))))) else (bif Nat.blt k 145 then (bif Nat.blt k 138 then (bif Nat.blt k 135 then (bif Nat.blt k 133 then (12) else (bif Nat.blt k 134 then (12) else (12))) else (bif Nat.blt k 136 then (12) else (bif Nat.blt k 137 then (12) else (12)))) else (bif Nat.blt k 141 then (bif Nat.blt k 139 then (12) else (bif Nat.blt k 140 then (12) else (12))) else (bif Nat.blt k 143 then (bif Nat.blt k 142 then (12) else (12)) else (bif Nat.blt k 144 then (12) else (12))))) else (bif Nat.blt k 152 then (bif Nat.blt k 148 then (bif Nat.blt k 146 then (12) else (bif Nat.blt k 147 then (12) else (12))) else (bif Nat.blt k 150 then (bif Nat.blt k 149 then (12) else (12)) else (bif Nat.blt k 151 then (12) else (12)))) else (bif Nat.blt k 155 then (bif Nat.blt k 153 then (12) else (bif Nat.blt k 154 then (12) else (12))) else (bif Nat.blt k 157 then (bif Nat.blt k 156 then (12) else (12)) else (bif Nat.blt k 158 then (12) else (12))))))) else (bif Nat.blt k 186 then (bif Nat.blt k 172 then (bif Nat.blt k 165 then (bif Nat.blt k 162 then (bif Nat.blt k 160 then (12) else (bif Nat.blt k 161 then (12) else (12))) else (bif Nat.blt k 163 then (12) else (bif Nat.blt k 164 then (12) else (12)))) else (bif Nat.blt k 168 then (bif Nat.blt k 166 then (12) else (bif Nat.blt k 167 then (12) else (12))) else (bif Nat.blt k 170 then (bif Nat.blt k 169 then (12) else (12)) else (bif Nat.blt k 171 then (12) else (12))))) else (bif Nat.blt k 179 then (bif Nat.blt k 175 then (bif Nat.blt k 173 then (12) else (bif Nat.blt k 174 then (12) else (12))) else (bif Nat.blt k 177 then (bif Nat.blt k 176 then (12) else (12)) else (bif Nat.blt k 178 then (12) else (12)))) else (bif Nat.blt k 182 then (bif Nat.blt k 180 then (12) else (bif Nat.blt k 181 then (12) else (12))) else (bif Nat.blt k 184 then (bif Nat.blt k 183 then (12) else (12)) else (bif Nat.blt k 185 then (12) else (12)))))) else (bif Nat.blt k 199 then (bif Nat.blt k 192 then (bif Nat.blt k 189 then (bif Nat.blt k 187 then (12) else (bif Nat.blt k 188 then (12) else (12))) else (bif Nat.blt k 190 then (12) else (bif Nat.blt k 191 then (12) else (12)))) else (bif Nat.blt k 195 then (bif Nat.blt k 193 then (12) else (bif Nat.blt k 194 then (12) else (17))) else (bif Nat.blt k 197 then (bif Nat.blt k 196 then (17) else (17)) else (bif Nat.blt k 198 then (17) else (17))))) else (bif Nat.blt k 206 then (bif Nat.blt k 202 then (bif Nat.blt k 200 then (17) else (bif Nat.blt k 201 then (17) else (17))) else (bif Nat.blt k 204 then (bif Nat.blt k 203 then (18) else (18)) else (bif Nat.blt k 205 then (18) else (18)))) else (bif Nat.blt k 209 then (bif Nat.blt k 207 then (19) else (bif Nat.blt k 208 then (15) else (16))) else (bif Nat.blt k 211 then (bif Nat.blt k 210 then (16) else (14)) else (bif Nat.blt k 212 then (14) else (14))))))))
def mA (k : Nat) : Nat := bif Nat.blt k 106 then (bif Nat.blt k 53 then (bif Nat.blt k 26 then (bif Nat.blt k 13 then (bif Nat.blt k 6 then (bif Nat.blt k 3 then (bif Nat.blt k 1 then (1) else (bif Nat.blt k 2 then (0) else (2))) else (bif Nat.blt k 4 then (4) else (bif Nat.blt k 5 then (2) else (1)))) else (bif Nat.blt k 9 then (bif Nat.blt k 7 then (2) else (bif Nat.blt k 8 then (2) else (2))) else (bif Nat.blt k 11 then (bif Nat.blt k 10 then (1) else (2)) else (bif Nat.blt k 12 then (3) else (1))))) else (bif Nat.blt k 19 then (bif Nat.blt k 16 then (bif Nat.blt k 14 then (2) else (bif Nat.blt k 15 then (4) else (2))) else (bif Nat.blt k 17 then (1) else (bif Nat.blt k 18 then (4) else (2)))) else (bif Nat.blt k 22 then (bif Nat.blt k 20 then (1) else (bif Nat.blt k 21 then (0) else (1))) else (bif Nat.blt k 24 then (bif Nat.blt k 23 then (0) else (2)) else (bif Nat.blt k 25 then (4) else (2)))))) else (bif Nat.blt k 39 then (bif Nat.blt k 32 then (bif Nat.blt k 29 then (bif Nat.blt k 27 then (1) else (bif Nat.blt k 28 then (4) else (2))) else (bif Nat.blt k 30 then (1) else (bif Nat.blt k 31 then (4) else (2)))) else (bif Nat.blt k 35 then (bif Nat.blt k 33 then (1) else (bif Nat.blt k 34 then (1) else (1))) else (bif Nat.blt k 37 then (bif Nat.blt k 36 then (1) else (4)) else (bif Nat.blt k 38 then (2) else (1))))) else (bif Nat.blt k 46 then (bif Nat.blt k 42 then (bif Nat.blt k 40 then (0) else (bif Nat.blt k 41 then (2) else (0))) else (bif Nat.blt k 44 then (bif Nat.blt k 43 then (1) else (1)) else (bif Nat.blt k 45 then (1) else (1)))) else (bif Nat.blt k 49 then (bif Nat.blt k 47 then (0) else (bif Nat.blt k 48 then (1) else (1))) else (bif Nat.blt k 51 then (bif Nat.blt k 50 then (1) else (1)) else (bif Nat.blt k 52 then (0) else (1))))))) else (bif Nat.blt k 79 then (bif Nat.blt k 66 then (bif Nat.blt k 59 then (bif Nat.blt k 56 then (bif Nat.blt k 54 then (3) else (bif Nat.blt k 55 then (2) else (4))) else (bif Nat.blt k 57 then (2) else (bif Nat.blt k 58 then (1) else (0)))) else (bif Nat.blt k 62 then (bif Nat.blt k 60 then (1) else (bif Nat.blt k 61 then (1) else (1))) else (bif Nat.blt k 64 then (bif Nat.blt k 63 then (1) else (0)) else (bif Nat.blt k 65 then (0) else (1))))) else (bif Nat.blt k 72 then (bif Nat.blt k 69 then (bif Nat.blt k 67 then (0) else (bif Nat.blt k 68 then (1) else (1))) else (bif Nat.blt k 70 then (0) else (bif Nat.blt k 71 then (1) else (1)))) else (bif Nat.blt k 75 then (bif Nat.blt k 73 then (0) else (bif Nat.blt k 74 then (0) else (1))) else (bif Nat.blt k 77 then (bif Nat.blt k 76 then (0) else (2)) else (bif Nat.blt k 78 then (2) else (3)))))) else (bif Nat.blt k 92 then (bif Nat.blt k 85 then (bif Nat.blt k 82 then (bif Nat.blt k 80 then (3) else (bif Nat.blt k 81 then (2) else (1))) else (bif Nat.blt k 83 then (1) else (bif Nat.blt k 84 then (1) else (1)))) else (bif Nat.blt k 88 then (bif Nat.blt k 86 then (2) else (bif Nat.blt k 87 then (1) else (2))) else (bif Nat.blt k 90 then (bif Nat.blt k 89 then (1) else (3)) else (bif Nat.blt k 91 then (1) else (2))))) else (bif Nat.blt k 99 then (bif Nat.blt k 95 then (bif Nat.blt k 93 then (3) else (bif Nat.blt k 94 then (1) else (2))) else (bif Nat.blt k 97 then (bif Nat.blt k 96 then (1) else (2)) else (bif Nat.blt k 98 then (0) else (3)))) else (bif Nat.blt k 102 then (bif Nat.blt k 100 then (1) else (bif Nat.blt k 101 then (2) else (0))) else (bif Nat.blt k 104 then (bif Nat.blt k 103 then (0) else (1)) else (bif Nat.blt k 105 then (1) else (1)))))))) else (bif Nat.blt k 159 then (bif Nat.blt k 132 then (bif Nat.blt k 119 then (bif Nat.blt k 112 then (bif Nat.blt k 109 then (bif Nat.blt k 107 then (1) else (bif Nat.blt k 108 then (3) else (2))) else (bif Nat.blt k 110 then (3) else (bif Nat.blt k 111 then (2) else (3)))) else (bif Nat.blt k 115 then (bif Nat.blt k 113 then (0) else (bif Nat.blt k 114 then (3) else (1))) else (bif Nat.blt k 117 then (bif Nat.blt k 116 then (0) else (0)) else (bif Nat.blt k 118 then (1) else (0))))) else (bif Nat.blt k 125 then (bif Nat.blt k 122 then (bif Nat.blt k 120 then (1) else (bif Nat.blt k 121 then (1) else (0))) else (bif Nat.blt k 123 then (1) else (bif Nat.blt k 124 then (1) else (0)))) else (bif Nat.blt k 128 then (bif Nat.blt k 126 then (0) else (bif Nat.blt k 127 then (0) else (2))) else (bif Nat.blt k 130 then (bif Nat.blt k 129 then (2) else (0)) else (bif Nat.blt k 131 then (0) else (2)))))) else (bif Nat.blt k 145 then (bif Nat.blt k 138 then (bif Nat.blt k 135 then (bif Nat.blt k 133 then (0) else (bif Nat.blt k 134 then (1) else (1))) else (bif Nat.blt k 136 then (1) else (bif Nat.blt k 137 then (1) else (1)))) else (bif Nat.blt k 141 then (bif Nat.blt k 139 then (1) else (bif Nat.blt k 140 then (1) else (0))) else (bif Nat.blt k 143 then (bif Nat.blt k 142 then (2) else (2)) else (bif Nat.blt k 144 then (2) else (3))))) else (bif Nat.blt k 152 then (bif Nat.blt k 148 then (bif Nat.blt k 146 then (3) else (bif Nat.blt k 147 then (2) else (1))) else (bif Nat.blt k 150 then (bif Nat.blt k 149 then (0) else (0)) else (bif Nat.blt k 151 then (1) else (0)))) else (bif Nat.blt k 155 then (bif Nat.blt k 153 then (2) else (bif Nat.blt k 154 then (0) else (1))) else (bif Nat.blt k 157 then (bif Nat.blt k 156 then (1) else (1)) else (bif Nat.blt k 158 then (0) else (1))))))) else (bif Nat.blt k 186 then (bif Nat.blt k 172 then (bif Nat.blt k 165 then (bif Nat.blt k 162 then (bif Nat.blt k 160 then (1) else (bif Nat.blt k 161 then (1) else (2))) else (bif Nat.blt k 163 then (1) else (bif Nat.blt k 164 then (1) else (3)))) else (bif Nat.blt k 168 then (bif Nat.blt k 166 then (2) else (bif Nat.blt k 167 then (1) else (3))) else (bif Nat.blt k 170 then (bif Nat.blt k 169 then (1) else (0)) else (bif Nat.blt k 171 then (1) else (2))))) else (bif Nat.blt k 179 then (bif Nat.blt k 175 then (bif Nat.blt k 173 then (3) else (bif Nat.blt k 174 then (3) else (1))) else (bif Nat.blt k 177 then (bif Nat.blt k 176 then (2) else (2)) else (bif Nat.blt k 178 then (1) else (2)))) else (bif Nat.blt k 182 then (bif Nat.blt k 180 then (0) else (bif Nat.blt k 181 then (1) else (2))) else (bif Nat.blt k 184 then (bif Nat.blt k 183 then (1) else (1)) else (bif Nat.blt k 185 then (1) else (1)))))) else (bif Nat.blt k 199 then (bif Nat.blt k 192 then (bif Nat.blt k 189 then (bif Nat.blt k 187 then (1) else (bif Nat.blt k 188 then (1) else (3))) else (bif Nat.blt k 190 then (1) else (bif Nat.blt k 191 then (2) else (0)))) else (bif Nat.blt k 195 then (bif Nat.blt k 193 then (0) else (bif Nat.blt k 194 then (1) else (0))) else (bif Nat.blt k 197 then (bif Nat.blt k 196 then (0) else (1)) else (bif Nat.blt k 198 then (1) else (2))))) else (bif Nat.blt k 206 then (bif Nat.blt k 202 then (bif Nat.blt k 200 then (0) else (bif Nat.blt k 201 then (0) else (2))) else (bif Nat.blt k 204 then (bif Nat.blt k 203 then (2) else (1)) else (bif Nat.blt k 205 then (4) else (4)))) else (bif Nat.blt k 209 then (bif Nat.blt k 207 then (3) else (bif Nat.blt k 208 then (1) else (2))) else (bif Nat.blt k 211 then (bif Nat.blt k 210 then (2) else (1)) else (bif Nat.blt k 212 then (1) else (1))))))))
/-- what a call entry (kind, receiver's class, method, named class) says: 0 its own class's method, 1 inherited or overriding, 2 static, 3 <init>, 4 a nest mate's <init>, 5 super -/
def COK (o i : Nat) (x : Nat × Nat × Nat × Nat) : Prop := match x with
  | (0, t, k', _) => (mY k').cls = cn t ∧ Cond.methodLink (cn o) i (mY k') ∈ lw_tbl ∧ Cond.instanceMethod (mY k') ∈ lw_tbl ∧ Cond.selects (cn t) (mY k') (mY k') ∈ lw_tbl
  | (1, t, k', xc) => ∃ ow : String, (ow ≠ "java/lang/invoke/MethodHandle" ∧ ow ≠ "java/lang/invoke/VarHandle") ∧ Cond.methodLink (cn o) i ⟨cn xc, (mY k').name, (mY k').desc⟩ ∈ lw_tbl ∧ Cond.sameMethod (cn xc) ow (mY k').name (mY k').desc ∈ lw_tbl ∧ Cond.selects (cn t) ⟨cn xc, (mY k').name, (mY k').desc⟩ (mY k') ∈ lw_tbl ∧ Cond.instanceMethod (mY k') ∈ lw_tbl ∧ (Cond.declares ⟨ow, (mY k').name, (mY k').desc⟩ ∈ lw_tbl ∨ ∃ kk : Nat, mY kk = ⟨ow, (mY k').name, (mY k').desc⟩ ∧ Cond.instanceMethod (mY kk) ∈ lw_tbl ∧ Cond.code (mY kk) (mB kk) (mL kk) (mR kk) ∈ lw_tbl)
  | (2, _, k', _) => Cond.methodLink (cn o) i (mY k') ∈ lw_tbl ∧ Cond.static (mY k') ∈ lw_tbl
  | (3, _, k', _) => Cond.methodLink (cn o) i (mY k') ∈ lw_tbl ∧ Cond.instanceMethod (mY k') ∈ lw_tbl ∧ (mY k').name = "<init>" ∧ mR k' = none
  | (4, _, k', _) => Cond.methodLinkNest (cn o) i (mY k') "VerandaTalk" ∈ lw_tbl ∧ Cond.instanceMethod (mY k') ∈ lw_tbl ∧ (mY k').name = "<init>" ∧ mR k' = none
  | (5, _, k', xc) => Cond.methodLink (cn o) i ⟨cn xc, (mY k').name, (mY k').desc⟩ ∈ lw_tbl ∧ Cond.sameMethod (cn xc) (mY k').cls (mY k').name (mY k').desc ∈ lw_tbl ∧ Cond.superclass (cn o) (cn xc) ∈ lw_tbl ∧ (cn xc = (mY k').cls ∨ Cond.superclass (cn xc) (mY k').cls ∈ lw_tbl) ∧ Cond.instanceMethod (mY k') ∈ lw_tbl ∧ (mY k').name ≠ "<init>"
  | _ => False
def vwAt (t : Nat) : vw_C := vwCl.getD t ("", TX0, 0)
/-- what a field entry (named class, field, object's class) says -/
def FOK (o i : Nat) (x : Nat × Nat × Nat) : Prop := match x with
  | (c, a, t) => Cond.fieldLink (cn o) i (cn c) ((vwAt t).2.1 a).2.1 ((vwAt t).2.1 a).2.2.1 ∈ lw_tbl ∧ (((vwAt t).2.1 a).1 = cn c ∨ Cond.sameField (cn c) ((vwAt t).2.1 a).1 ((vwAt t).2.1 a).2.1 ((vwAt t).2.1 a).2.2.1 ∈ lw_tbl)
def CLL : List ((Nat × Nat) × List (Nat × Nat × Nat × Nat)) := [((0, 11), [(4, 0, 58, 0)]), ((0, 45), [(0, 10, 59, 0)]), ((0, 49), [(0, 10, 69, 0)]), ((0, 53), [(0, 10, 70, 0)]), ((0, 60), [(0, 10, 62, 0)]), ((0, 64), [(2, 0, 209, 0)]), ((0, 73), [(2, 0, 5, 0)]), ((0, 77), [(0, 0, 6, 0)]), ((0, 81), [(0, 0, 8, 0)]), ((0, 85), [(0, 0, 7, 0)]), ((0, 91), [(2, 0, 207, 0)]), ((0, 105), [(0, 10, 63, 0)]), ((0, 111), [(0, 0, 12, 0)]), ((0, 118), [(0, 3, 22, 0)]), ((0, 123), [(0, 3, 23, 0)]), ((1, 1), [(3, 0, 30, 0)]), ((1, 19), [(1, 1, 35, 1), (1, 2, 35, 1)]), ((1, 23), [(5, 0, 33, 6)]), ((2, 1), [(3, 0, 14, 0)]), ((2, 7), [(5, 0, 15, 1)]), ((2, 23), [(1, 2, 35, 2)]), ((2, 27), [(5, 0, 32, 1)]), ((3, 56), [(2, 0, 208, 0)]), ((3, 62), [(0, 10, 62, 0)]), ((4, 1), [(3, 0, 30, 0)]), ((4, 18), [(2, 0, 207, 0)]), ((4, 24), [(1, 4, 35, 4), (1, 9, 35, 4)]), ((4, 28), [(5, 0, 34, 6)]), ((5, 1), [(3, 0, 30, 0)]), ((5, 19), [(1, 5, 35, 5), (1, 7, 35, 5)]), ((5, 23), [(5, 0, 32, 6)]), ((6, 23), [(1, 1, 35, 6), (1, 2, 35, 6), (1, 4, 35, 6), (1, 5, 35, 6), (0, 6, 35, 0), (1, 7, 35, 6), (1, 9, 35, 6)]), ((6, 27), [(1, 1, 32, 6), (1, 2, 19, 6), (1, 4, 32, 6), (1, 5, 29, 6), (0, 6, 32, 0), (1, 7, 29, 6), (1, 9, 32, 6)]), ((6, 31), [(1, 1, 16, 6), (1, 2, 16, 6), (1, 4, 33, 6), (1, 5, 33, 6), (0, 6, 33, 0), (1, 7, 33, 6), (1, 9, 57, 6)]), ((7, 1), [(3, 0, 27, 0)]), ((7, 13), [(5, 0, 28, 5)]), ((7, 17), [(1, 7, 35, 7)]), ((7, 23), [(5, 0, 34, 5)]), ((7, 27), [(1, 7, 29, 7)]), ((8, 44), [(2, 0, 209, 0)]), ((8, 50), [(0, 8, 41, 0)]), ((8, 54), [(0, 8, 50, 0)]), ((8, 58), [(0, 8, 51, 0)]), ((8, 62), [(2, 0, 42, 0)]), ((8, 66), [(0, 8, 49, 0)]), ((8, 70), [(0, 8, 46, 0)]), ((8, 73), [(0, 8, 43, 0)]), ((8, 85), [(0, 8, 44, 0)]), ((8, 88), [(0, 8, 52, 0)]), ((8, 92), [(0, 8, 45, 0)]), ((8, 97), [(0, 8, 48, 0)]), ((8, 103), [(2, 0, 47, 0)]), ((8, 107), [(0, 17, 197, 0)]), ((8, 112), [(0, 17, 194, 0)]), ((8, 115), [(0, 17, 196, 0)]), ((8, 119), [(0, 17, 195, 0)]), ((8, 122), [(2, 0, 53, 0)]), ((9, 3), [(3, 0, 24, 0)]), ((9, 9), [(5, 0, 25, 4)]), ((9, 28), [(1, 9, 35, 9)]), ((9, 32), [(5, 0, 33, 4)]), ((10, 60), [(4, 0, 39, 0)]), ((10, 80), [(0, 10, 63, 0)]), ((10, 84), [(0, 10, 64, 0)]), ((10, 87), [(0, 10, 65, 0)]), ((10, 91), [(0, 10, 68, 0)]), ((10, 95), [(1, 1, 15, 6), (1, 2, 18, 6), (1, 4, 25, 6), (1, 5, 28, 6), (0, 6, 31, 0), (1, 7, 37, 6), (1, 9, 56, 6)]), ((10, 99), [(2, 0, 207, 0)]), ((10, 107), [(0, 8, 54, 0)]), ((10, 114), [(0, 10, 67, 0)]), ((10, 117), [(2, 0, 208, 0)]), ((10, 123), [(2, 0, 209, 0)]), ((10, 129), [(0, 10, 62, 0)]), ((10, 132), [(0, 10, 71, 0)]), ((11, 13), [(4, 0, 58, 0)]), ((11, 20), [(4, 0, 20, 0)]), ((11, 33), [(3, 0, 1, 0)]), ((11, 44), [(4, 0, 39, 0)]), ((11, 64), [(0, 8, 40, 0)]), ((11, 68), [(0, 10, 61, 0)]), ((11, 75), [(0, 11, 111, 0)]), ((11, 79), [(0, 10, 60, 0)]), ((11, 83), [(0, 11, 104, 0)]), ((11, 106), [(0, 10, 65, 0)]), ((11, 109), [(0, 10, 67, 0)]), ((11, 119), [(2, 0, 107, 0)]), ((11, 138), [(0, 10, 66, 0)]), ((11, 142), [(0, 10, 69, 0)]), ((11, 145), [(0, 10, 72, 0)]), ((11, 148), [(0, 0, 9, 0)]), ((11, 152), [(0, 10, 70, 0)]), ((11, 156), [(2, 0, 105, 0)]), ((11, 159), [(0, 0, 2, 0)]), ((11, 163), [(0, 0, 3, 0)]), ((11, 167), [(0, 0, 4, 0)]), ((11, 180), [(0, 10, 71, 0)]), ((11, 195), [(0, 0, 10, 0)]), ((11, 205), [(0, 0, 11, 0)]), ((11, 209), [(2, 0, 106, 0)]), ((11, 214), [(2, 0, 109, 0)]), ((11, 218), [(0, 10, 64, 0)]), ((11, 221), [(2, 0, 207, 0)]), ((11, 235), [(0, 0, 13, 0)]), ((11, 252), [(1, 1, 32, 6), (1, 2, 19, 6), (1, 4, 32, 6), (1, 5, 29, 6), (0, 6, 32, 0), (1, 7, 29, 6), (1, 9, 32, 6)]), ((11, 257), [(1, 1, 16, 6), (1, 2, 16, 6), (1, 4, 33, 6), (1, 5, 33, 6), (0, 6, 33, 0), (1, 7, 33, 6), (1, 9, 57, 6)]), ((11, 260), [(1, 1, 34, 6), (1, 2, 34, 6), (1, 4, 26, 6), (1, 5, 34, 6), (0, 6, 34, 0), (1, 7, 38, 6), (1, 9, 26, 6)]), ((11, 263), [(2, 0, 108, 0)]), ((11, 267), [(0, 10, 59, 0)]), ((11, 271), [(0, 3, 21, 0)]), ((11, 277), [(2, 0, 110, 0)]), ((11, 283), [(3, 0, 27, 0)]), ((11, 288), [(3, 0, 14, 0)]), ((11, 291), [(3, 0, 24, 0)]), ((11, 294), [(3, 0, 36, 0)]), ((11, 297), [(3, 0, 17, 0)]), ((11, 300), [(3, 0, 55, 0)]), ((11, 301), [(3, 0, 30, 0)]), ((12, 44), [(2, 0, 113, 0)]), ((12, 58), [(0, 12, 118, 0)]), ((12, 62), [(0, 17, 194, 0)]), ((12, 67), [(0, 17, 196, 0)]), ((12, 71), [(0, 12, 119, 0)]), ((12, 81), [(0, 12, 124, 0)]), ((12, 84), [(0, 12, 123, 0)]), ((12, 87), [(0, 12, 126, 0)]), ((12, 92), [(0, 12, 122, 0)]), ((12, 98), [(0, 12, 121, 0)]), ((12, 101), [(0, 12, 125, 0)]), ((12, 104), [(0, 12, 120, 0)]), ((12, 110), [(0, 12, 128, 0)]), ((12, 118), [(0, 12, 127, 0)]), ((12, 123), [(0, 12, 129, 0)]), ((12, 126), [(0, 12, 131, 0)]), ((12, 130), [(0, 12, 133, 0)]), ((12, 134), [(2, 0, 134, 0)]), ((12, 137), [(0, 12, 135, 0)]), ((12, 140), [(0, 12, 136, 0)]), ((12, 143), [(0, 12, 138, 0)]), ((12, 147), [(0, 12, 139, 0)]), ((12, 150), [(0, 12, 137, 0)]), ((12, 153), [(0, 12, 114, 0)]), ((12, 157), [(0, 12, 141, 0)]), ((12, 160), [(0, 12, 150, 0)]), ((12, 164), [(0, 12, 152, 0)]), ((12, 167), [(0, 12, 148, 0)]), ((12, 170), [(0, 12, 149, 0)]), ((12, 173), [(0, 12, 140, 0)]), ((12, 176), [(0, 12, 151, 0)]), ((12, 179), [(0, 12, 153, 0)]), ((12, 182), [(0, 12, 132, 0)]), ((12, 185), [(0, 12, 155, 0)]), ((12, 189), [(0, 12, 156, 0)]), ((12, 192), [(0, 12, 157, 0)]), ((12, 195), [(0, 12, 115, 0)]), ((12, 198), [(0, 12, 160, 0)]), ((12, 201), [(0, 12, 116, 0)]), ((12, 204), [(0, 12, 163, 0)]), ((12, 207), [(0, 12, 164, 0)]), ((12, 211), [(0, 12, 168, 0)]), ((12, 214), [(0, 12, 169, 0)]), ((12, 222), [(2, 0, 172, 0)]), ((12, 226), [(0, 12, 176, 0)]), ((12, 233), [(0, 12, 180, 0)]), ((12, 242), [(2, 0, 181, 0)]), ((12, 246), [(0, 12, 182, 0)]), ((12, 249), [(0, 12, 183, 0)]), ((12, 255), [(0, 12, 184, 0)]), ((12, 258), [(0, 12, 185, 0)]), ((12, 261), [(0, 12, 186, 0)]), ((12, 264), [(0, 12, 187, 0)]), ((13, 9), [(3, 0, 73, 0)]), ((13, 12), [(3, 0, 112, 0)]), ((13, 13), [(0, 11, 74, 0)]), ((13, 17), [(0, 12, 117, 0)]), ((13, 18), [(0, 11, 75, 0)]), ((13, 22), [(0, 12, 130, 0)]), ((13, 23), [(0, 11, 76, 0)]), ((13, 27), [(0, 12, 142, 0)]), ((13, 28), [(0, 11, 77, 0)]), ((13, 31), [(0, 12, 143, 0)]), ((13, 32), [(0, 11, 78, 0)]), ((13, 36), [(0, 12, 144, 0)]), ((13, 37), [(0, 11, 79, 0)]), ((13, 41), [(0, 12, 145, 0)]), ((13, 42), [(0, 11, 80, 0)]), ((13, 46), [(0, 12, 146, 0)]), ((13, 47), [(0, 11, 81, 0)]), ((13, 50), [(0, 12, 147, 0)]), ((13, 51), [(0, 11, 82, 0)]), ((13, 54), [(0, 12, 154, 0)]), ((13, 55), [(0, 11, 83, 0)]), ((13, 58), [(0, 12, 158, 0)]), ((13, 59), [(0, 11, 84, 0)]), ((13, 62), [(0, 12, 159, 0)]), ((13, 63), [(0, 11, 85, 0)]), ((13, 66), [(0, 12, 161, 0)]), ((13, 67), [(0, 11, 86, 0)]), ((13, 70), [(0, 12, 162, 0)]), ((13, 71), [(0, 11, 87, 0)]), ((13, 74), [(0, 12, 165, 0)]), ((13, 75), [(0, 11, 88, 0)]), ((13, 78), [(0, 12, 166, 0)]), ((13, 79), [(0, 11, 89, 0)]), ((13, 82), [(0, 12, 167, 0)]), ((13, 83), [(0, 11, 90, 0)]), ((13, 86), [(0, 12, 170, 0)]), ((13, 87), [(0, 11, 91, 0)]), ((13, 90), [(0, 12, 171, 0)]), ((13, 91), [(0, 11, 92, 0)]), ((13, 95), [(0, 12, 173, 0)]), ((13, 96), [(0, 11, 93, 0)]), ((13, 100), [(0, 12, 174, 0)]), ((13, 101), [(0, 11, 94, 0)]), ((13, 104), [(0, 12, 175, 0)]), ((13, 105), [(0, 11, 95, 0)]), ((13, 108), [(0, 12, 177, 0)]), ((13, 109), [(0, 11, 96, 0)]), ((13, 112), [(0, 12, 178, 0)]), ((13, 113), [(0, 11, 97, 0)]), ((13, 116), [(0, 12, 179, 0)]), ((13, 117), [(0, 11, 98, 0)]), ((13, 120), [(0, 12, 188, 0)]), ((13, 121), [(0, 11, 99, 0)]), ((13, 124), [(0, 12, 189, 0)]), ((13, 125), [(0, 11, 100, 0)]), ((13, 128), [(0, 12, 190, 0)]), ((13, 129), [(0, 11, 101, 0)]), ((13, 132), [(0, 12, 191, 0)]), ((13, 133), [(0, 11, 102, 0)]), ((13, 136), [(0, 12, 192, 0)]), ((13, 137), [(0, 11, 103, 0)]), ((13, 140), [(0, 12, 193, 0)]), ((17, 335), [(0, 17, 199, 0)]), ((17, 492), [(0, 17, 200, 0)]), ((17, 495), [(2, 0, 202, 0)]), ((17, 505), [(0, 17, 194, 0)]), ((17, 633), [(0, 17, 198, 0)]), ((17, 637), [(2, 0, 204, 0)]), ((17, 1059), [(2, 0, 206, 0)]), ((18, 9), [(2, 0, 201, 0)]), ((18, 38), [(2, 0, 209, 0)]), ((18, 88), [(2, 0, 203, 0)]), ((18, 92), [(2, 0, 208, 0)]), ((18, 95), [(2, 0, 205, 0)])]
def FLL : List ((Nat × Nat) × List (Nat × Nat × Nat)) := [((0, 12), [(0, 0, 0)]), ((0, 18), [(0, 1, 0)]), ((0, 22), [(0, 2, 0)]), ((0, 26), [(0, 3, 0)]), ((0, 29), [(0, 4, 0)]), ((0, 33), [(0, 5, 0)]), ((0, 36), [(0, 6, 0)]), ((0, 39), [(0, 7, 0)]), ((0, 42), [(0, 8, 0)]), ((0, 57), [(10, 13, 10)]), ((0, 70), [(10, 8, 10)]), ((0, 88), [(10, 9, 10)]), ((0, 96), [(10, 11, 10)]), ((0, 108), [(10, 5, 10)]), ((0, 115), [(10, 2, 10)]), ((0, 127), [(3, 8, 3)]), ((0, 130), [(3, 7, 3)]), ((0, 133), [(3, 6, 3)]), ((0, 136), [(10, 10, 10)]), ((1, 7), [(10, 2, 10)]), ((1, 13), [(1, 0, 1), (1, 0, 2)]), ((2, 11), [(10, 5, 10)]), ((2, 17), [(2, 0, 2)]), ((3, 9), [(3, 0, 3)]), ((3, 15), [(3, 1, 3)]), ((3, 19), [(3, 2, 3)]), ((3, 23), [(3, 3, 3)]), ((3, 26), [(3, 4, 3)]), ((3, 29), [(3, 5, 3)]), ((3, 32), [(3, 6, 3)]), ((3, 35), [(3, 7, 3)]), ((3, 38), [(3, 8, 3)]), ((3, 41), [(3, 9, 3)]), ((3, 44), [(3, 10, 3)]), ((3, 47), [(3, 11, 3)]), ((4, 7), [(10, 9, 10)]), ((4, 13), [(4, 0, 4), (4, 0, 9)]), ((5, 7), [(10, 3, 10)]), ((5, 13), [(5, 0, 5), (5, 0, 7)]), ((6, 7), [(6, 0, 1), (6, 0, 2), (6, 0, 4), (6, 0, 5), (6, 0, 6), (6, 0, 7), (6, 0, 9)]), ((6, 13), [(6, 1, 1), (6, 1, 2), (6, 1, 4), (6, 1, 5), (6, 1, 6), (6, 1, 7), (6, 1, 9)]), ((6, 16), [(6, 2, 1), (6, 2, 2), (6, 2, 4), (6, 2, 5), (6, 2, 6), (6, 2, 7), (6, 2, 9)]), ((6, 19), [(6, 3, 1), (6, 3, 2), (6, 3, 4), (6, 3, 5), (6, 3, 6), (6, 3, 7), (6, 3, 9)]), ((7, 7), [(10, 12, 10)]), ((8, 9), [(8, 0, 8)]), ((8, 15), [(8, 1, 8)]), ((8, 18), [(8, 2, 8)]), ((8, 21), [(8, 3, 8)]), ((8, 25), [(8, 4, 8)]), ((8, 28), [(8, 5, 8)]), ((8, 31), [(8, 6, 8)]), ((8, 34), [(8, 7, 8)]), ((8, 38), [(8, 8, 8)]), ((8, 41), [(8, 9, 8)]), ((9, 13), [(10, 6, 10)]), ((9, 19), [(9, 0, 9)]), ((9, 25), [(10, 12, 10)]), ((9, 36), [(9, 2, 9)]), ((10, 11), [(10, 0, 10)]), ((10, 17), [(10, 1, 10)]), ((10, 21), [(10, 2, 10)]), ((10, 24), [(10, 3, 10)]), ((10, 27), [(10, 4, 10)]), ((10, 30), [(10, 5, 10)]), ((10, 33), [(10, 6, 10)]), ((10, 36), [(10, 7, 10)]), ((10, 39), [(10, 8, 10)]), ((10, 43), [(10, 9, 10)]), ((10, 46), [(10, 10, 10)]), ((10, 49), [(10, 11, 10)]), ((10, 52), [(10, 12, 10)]), ((10, 55), [(10, 13, 10)]), ((10, 61), [(10, 14, 10)]), ((10, 65), [(10, 15, 10)]), ((10, 74), [(6, 1, 1), (6, 1, 2), (6, 1, 4), (6, 1, 5), (6, 1, 6), (6, 1, 7), (6, 1, 9)]), ((10, 77), [(6, 2, 1), (6, 2, 2), (6, 2, 4), (6, 2, 5), (6, 2, 6), (6, 2, 7), (6, 2, 9)]), ((10, 79), [(8, 0, 8)]), ((10, 104), [(8, 2, 8)]), ((10, 111), [(8, 3, 8)]), ((10, 126), [(8, 1, 8)]), ((11, 14), [(11, 0, 11)]), ((11, 21), [(11, 1, 11)]), ((11, 25), [(11, 2, 11)]), ((11, 28), [(11, 3, 11)]), ((11, 34), [(11, 4, 11)]), ((11, 38), [(11, 5, 11)]), ((11, 45), [(11, 6, 11)]), ((11, 49), [(11, 7, 11)]), ((11, 53), [(3, 1, 3)]), ((11, 57), [(3, 0, 3)]), ((11, 61), [(10, 15, 10)]), ((11, 72), [(10, 8, 10)]), ((11, 88), [(10, 1, 10)]), ((11, 91), [(10, 2, 10)]), ((11, 94), [(10, 3, 10)]), ((11, 97), [(10, 4, 10)]), ((11, 100), [(10, 9, 10)]), ((11, 103), [(10, 10, 10)]), ((11, 113), [(10, 5, 10)]), ((11, 116), [(10, 6, 10)]), ((11, 123), [(10, 12, 10)]), ((11, 126), [(10, 13, 10)]), ((11, 129), [(10, 14, 10)]), ((11, 132), [(8, 1, 8)]), ((11, 135), [(10, 11, 10)]), ((11, 171), [(0, 3, 0)]), ((11, 174), [(0, 4, 0)]), ((11, 177), [(0, 5, 0)]), ((11, 183), [(3, 5, 3)]), ((11, 186), [(3, 2, 3)]), ((11, 189), [(3, 3, 3)]), ((11, 192), [(3, 4, 3)]), ((11, 199), [(0, 6, 0)]), ((11, 202), [(0, 7, 0)]), ((11, 226), [(3, 8, 3)]), ((11, 229), [(3, 6, 3)]), ((11, 232), [(3, 7, 3)]), ((11, 239), [(3, 11, 3)]), ((11, 242), [(3, 9, 3)]), ((11, 245), [(3, 10, 3)]), ((11, 248), [(10, 0, 10)]), ((12, 9), [(12, 1, 12)]), ((12, 15), [(12, 2, 12)]), ((12, 18), [(12, 3, 12)]), ((12, 21), [(12, 5, 12)]), ((12, 25), [(12, 11, 12)]), ((12, 28), [(12, 12, 12)]), ((12, 32), [(12, 13, 12)]), ((12, 35), [(12, 14, 12)]), ((12, 38), [(12, 15, 12)]), ((12, 48), [(12, 7, 12)]), ((12, 51), [(12, 8, 12)]), ((12, 54), [(12, 9, 12)]), ((12, 75), [(12, 6, 12)]), ((12, 78), [(12, 10, 12)]), ((12, 230), [(12, 16, 12)]), ((12, 236), [(12, 18, 12)]), ((12, 239), [(12, 17, 12)]), ((12, 252), [(12, 19, 12)]), ((12, 267), [(12, 4, 12)])]
set_option maxRecDepth 100000 in
theorem cl_0 : ∀ x ∈ ([(4, 0, 58, 0)] : List (Nat × Nat × Nat × Nat)), COK 0 11 x := List.forall_mem_cons.mpr ⟨⟨mem_1 225 rfl, mem_1 33 rfl, rfl, rfl⟩, fun _ h => absurd h List.not_mem_nil⟩
set_option maxRecDepth 100000 in
theorem cl_1 : ∀ x ∈ ([(0, 10, 59, 0)] : List (Nat × Nat × Nat × Nat)), COK 0 45 x := List.forall_mem_cons.mpr ⟨⟨rfl, mem_4 5 rfl, mem_4 6 rfl, mem_4 7 rfl⟩, fun _ h => absurd h List.not_mem_nil⟩
set_option maxRecDepth 100000 in
theorem cl_2 : ∀ x ∈ ([(0, 10, 69, 0)] : List (Nat × Nat × Nat × Nat)), COK 0 49 x := List.forall_mem_cons.mpr ⟨⟨rfl, mem_4 12 rfl, mem_3 197 rfl, mem_3 198 rfl⟩, fun _ h => absurd h List.not_mem_nil⟩
set_option maxRecDepth 100000 in
theorem cl_3 : ∀ x ∈ ([(0, 10, 70, 0)] : List (Nat × Nat × Nat × Nat)), COK 0 53 x := List.forall_mem_cons.mpr ⟨⟨rfl, mem_4 13 rfl, mem_3 221 rfl, mem_3 222 rfl⟩, fun _ h => absurd h List.not_mem_nil⟩
set_option maxRecDepth 100000 in
theorem cl_4 : ∀ x ∈ ([(0, 10, 62, 0)] : List (Nat × Nat × Nat × Nat)), COK 0 60 x := List.forall_mem_cons.mpr ⟨⟨rfl, mem_4 22 rfl, mem_3 227 rfl, mem_3 228 rfl⟩, fun _ h => absurd h List.not_mem_nil⟩
set_option maxRecDepth 100000 in
theorem cl_5 : ∀ x ∈ ([(2, 0, 209, 0)] : List (Nat × Nat × Nat × Nat)), COK 0 64 x := List.forall_mem_cons.mpr ⟨⟨mem_3 215 rfl, mem_2 60 rfl⟩, fun _ h => absurd h List.not_mem_nil⟩
set_option maxRecDepth 100000 in
theorem cl_6 : ∀ x ∈ ([(2, 0, 5, 0)] : List (Nat × Nat × Nat × Nat)), COK 0 73 x := List.forall_mem_cons.mpr ⟨⟨mem_4 31 rfl, mem_4 32 rfl⟩, fun _ h => absurd h List.not_mem_nil⟩
set_option maxRecDepth 100000 in
theorem cl_7 : ∀ x ∈ ([(0, 0, 6, 0)] : List (Nat × Nat × Nat × Nat)), COK 0 77 x := List.forall_mem_cons.mpr ⟨⟨rfl, mem_4 34 rfl, mem_4 36 rfl, mem_p 13 rfl⟩, fun _ h => absurd h List.not_mem_nil⟩
set_option maxRecDepth 100000 in
theorem cl_8 : ∀ x ∈ ([(0, 0, 8, 0)] : List (Nat × Nat × Nat × Nat)), COK 0 81 x := List.forall_mem_cons.mpr ⟨⟨rfl, mem_4 38 rfl, mem_4 40 rfl, mem_p 14 rfl⟩, fun _ h => absurd h List.not_mem_nil⟩
set_option maxRecDepth 100000 in
theorem cl_9 : ∀ x ∈ ([(0, 0, 7, 0)] : List (Nat × Nat × Nat × Nat)), COK 0 85 x := List.forall_mem_cons.mpr ⟨⟨rfl, mem_4 43 rfl, mem_4 45 rfl, mem_p 15 rfl⟩, fun _ h => absurd h List.not_mem_nil⟩
set_option maxRecDepth 100000 in
theorem cl_10 : ∀ x ∈ ([(2, 0, 207, 0)] : List (Nat × Nat × Nat × Nat)), COK 0 91 x := List.forall_mem_cons.mpr ⟨⟨mem_3 214 rfl, mem_3 129 rfl⟩, fun _ h => absurd h List.not_mem_nil⟩
set_option maxRecDepth 100000 in
theorem cl_11 : ∀ x ∈ ([(0, 10, 63, 0)] : List (Nat × Nat × Nat × Nat)), COK 0 105 x := List.forall_mem_cons.mpr ⟨⟨rfl, mem_3 213 rfl, mem_3 117 rfl, mem_3 118 rfl⟩, fun _ h => absurd h List.not_mem_nil⟩
set_option maxRecDepth 100000 in
theorem cl_12 : ∀ x ∈ ([(0, 0, 12, 0)] : List (Nat × Nat × Nat × Nat)), COK 0 111 x := List.forall_mem_cons.mpr ⟨⟨rfl, mem_4 64 rfl, mem_4 66 rfl, mem_p 16 rfl⟩, fun _ h => absurd h List.not_mem_nil⟩
set_option maxRecDepth 100000 in
theorem cl_13 : ∀ x ∈ ([(0, 3, 22, 0)] : List (Nat × Nat × Nat × Nat)), COK 0 118 x := List.forall_mem_cons.mpr ⟨⟨rfl, mem_4 68 rfl, mem_4 69 rfl, mem_4 70 rfl⟩, fun _ h => absurd h List.not_mem_nil⟩
set_option maxRecDepth 100000 in
theorem cl_14 : ∀ x ∈ ([(0, 3, 23, 0)] : List (Nat × Nat × Nat × Nat)), COK 0 123 x := List.forall_mem_cons.mpr ⟨⟨rfl, mem_4 73 rfl, mem_4 74 rfl, mem_4 75 rfl⟩, fun _ h => absurd h List.not_mem_nil⟩
set_option maxRecDepth 100000 in
theorem cl_15 : ∀ x ∈ ([(3, 0, 30, 0)] : List (Nat × Nat × Nat × Nat)), COK 1 1 x := List.forall_mem_cons.mpr ⟨⟨mem_3 37 rfl, mem_3 2 rfl, rfl, rfl⟩, fun _ h => absurd h List.not_mem_nil⟩
set_option maxRecDepth 100000 in
theorem cl_16 : ∀ x ∈ ([(1, 1, 35, 1), (1, 2, 35, 1)] : List (Nat × Nat × Nat × Nat)), COK 1 19 x := List.forall_mem_cons.mpr ⟨⟨"VerandaTalk$Matter", ⟨by decide +kernel, by decide +kernel⟩, mem_4 167 rfl, mem_4 168 rfl, mem_4 169 rfl, mem_4 142 rfl, Or.inr ⟨35, rfl, mem_4 142 rfl, mem_4 143 rfl⟩⟩, List.forall_mem_cons.mpr ⟨⟨"VerandaTalk$Matter", ⟨by decide +kernel, by decide +kernel⟩, mem_4 167 rfl, mem_4 168 rfl, mem_4 170 rfl, mem_4 142 rfl, Or.inr ⟨35, rfl, mem_4 142 rfl, mem_4 143 rfl⟩⟩, fun _ h => absurd h List.not_mem_nil⟩⟩
set_option maxRecDepth 100000 in
theorem cl_17 : ∀ x ∈ ([(5, 0, 33, 6)] : List (Nat × Nat × Nat × Nat)), COK 1 23 x := List.forall_mem_cons.mpr ⟨⟨mem_4 171 rfl, mem_4 163 rfl, mem_3 42 rfl, Or.inl rfl, mem_4 161 rfl, by decide +kernel⟩, fun _ h => absurd h List.not_mem_nil⟩
set_option maxRecDepth 100000 in
theorem cl_18 : ∀ x ∈ ([(3, 0, 14, 0)] : List (Nat × Nat × Nat × Nat)), COK 2 1 x := List.forall_mem_cons.mpr ⟨⟨mem_3 70 rfl, mem_3 35 rfl, rfl, rfl⟩, fun _ h => absurd h List.not_mem_nil⟩
set_option maxRecDepth 100000 in
theorem cl_19 : ∀ x ∈ ([(5, 0, 15, 1)] : List (Nat × Nat × Nat × Nat)), COK 2 7 x := List.forall_mem_cons.mpr ⟨⟨mem_3 151 rfl, mem_6 169 rfl, mem_3 75 rfl, Or.inl rfl, mem_3 146 rfl, by decide +kernel⟩, fun _ h => absurd h List.not_mem_nil⟩
set_option maxRecDepth 100000 in
theorem cl_20 : ∀ x ∈ ([(1, 2, 35, 2)] : List (Nat × Nat × Nat × Nat)), COK 2 23 x := List.forall_mem_cons.mpr ⟨⟨"VerandaTalk$Matter", ⟨by decide +kernel, by decide +kernel⟩, mem_4 138 rfl, mem_4 139 rfl, mem_4 141 rfl, mem_4 142 rfl, Or.inr ⟨35, rfl, mem_4 142 rfl, mem_4 143 rfl⟩⟩, fun _ h => absurd h List.not_mem_nil⟩
set_option maxRecDepth 100000 in
theorem cl_21 : ∀ x ∈ ([(5, 0, 32, 1)] : List (Nat × Nat × Nat × Nat)), COK 2 27 x := List.forall_mem_cons.mpr ⟨⟨mem_4 144 rfl, mem_4 145 rfl, mem_3 75 rfl, Or.inr (mem_3 42 rfl), mem_4 131 rfl, by decide +kernel⟩, fun _ h => absurd h List.not_mem_nil⟩
set_option maxRecDepth 100000 in
theorem cl_22 : ∀ x ∈ ([(2, 0, 208, 0)] : List (Nat × Nat × Nat × Nat)), COK 3 56 x := List.forall_mem_cons.mpr ⟨⟨mem_4 72 rfl, mem_2 178 rfl⟩, fun _ h => absurd h List.not_mem_nil⟩
set_option maxRecDepth 100000 in
theorem cl_23 : ∀ x ∈ ([(0, 10, 62, 0)] : List (Nat × Nat × Nat × Nat)), COK 3 62 x := List.forall_mem_cons.mpr ⟨⟨rfl, mem_4 77 rfl, mem_3 227 rfl, mem_3 228 rfl⟩, fun _ h => absurd h List.not_mem_nil⟩
set_option maxRecDepth 100000 in
theorem cl_24 : ∀ x ∈ ([(3, 0, 30, 0)] : List (Nat × Nat × Nat × Nat)), COK 4 1 x := List.forall_mem_cons.mpr ⟨⟨mem_3 48 rfl, mem_3 2 rfl, rfl, rfl⟩, fun _ h => absurd h List.not_mem_nil⟩
set_option maxRecDepth 100000 in
theorem cl_25 : ∀ x ∈ ([(2, 0, 207, 0)] : List (Nat × Nat × Nat × Nat)), COK 4 18 x := List.forall_mem_cons.mpr ⟨⟨mem_3 155 rfl, mem_3 129 rfl⟩, fun _ h => absurd h List.not_mem_nil⟩
set_option maxRecDepth 100000 in
theorem cl_26 : ∀ x ∈ ([(1, 4, 35, 4), (1, 9, 35, 4)] : List (Nat × Nat × Nat × Nat)), COK 4 24 x := List.forall_mem_cons.mpr ⟨⟨"VerandaTalk$Matter", ⟨by decide +kernel, by decide +kernel⟩, mem_4 196 rfl, mem_4 197 rfl, mem_4 198 rfl, mem_4 142 rfl, Or.inr ⟨35, rfl, mem_4 142 rfl, mem_4 143 rfl⟩⟩, List.forall_mem_cons.mpr ⟨⟨"VerandaTalk$Matter", ⟨by decide +kernel, by decide +kernel⟩, mem_4 196 rfl, mem_4 197 rfl, mem_4 199 rfl, mem_4 142 rfl, Or.inr ⟨35, rfl, mem_4 142 rfl, mem_4 143 rfl⟩⟩, fun _ h => absurd h List.not_mem_nil⟩⟩
set_option maxRecDepth 100000 in
theorem cl_27 : ∀ x ∈ ([(5, 0, 34, 6)] : List (Nat × Nat × Nat × Nat)), COK 4 28 x := List.forall_mem_cons.mpr ⟨⟨mem_4 200 rfl, mem_4 190 rfl, mem_3 53 rfl, Or.inl rfl, mem_4 188 rfl, by decide +kernel⟩, fun _ h => absurd h List.not_mem_nil⟩
set_option maxRecDepth 100000 in
theorem cl_28 : ∀ x ∈ ([(3, 0, 30, 0)] : List (Nat × Nat × Nat × Nat)), COK 5 1 x := List.forall_mem_cons.mpr ⟨⟨mem_3 1 rfl, mem_3 2 rfl, rfl, rfl⟩, fun _ h => absurd h List.not_mem_nil⟩
set_option maxRecDepth 100000 in
theorem cl_29 : ∀ x ∈ ([(1, 5, 35, 5), (1, 7, 35, 5)] : List (Nat × Nat × Nat × Nat)), COK 5 19 x := List.forall_mem_cons.mpr ⟨⟨"VerandaTalk$Matter", ⟨by decide +kernel, by decide +kernel⟩, mem_4 151 rfl, mem_4 152 rfl, mem_4 153 rfl, mem_4 142 rfl, Or.inr ⟨35, rfl, mem_4 142 rfl, mem_4 143 rfl⟩⟩, List.forall_mem_cons.mpr ⟨⟨"VerandaTalk$Matter", ⟨by decide +kernel, by decide +kernel⟩, mem_4 151 rfl, mem_4 152 rfl, mem_4 154 rfl, mem_4 142 rfl, Or.inr ⟨35, rfl, mem_4 142 rfl, mem_4 143 rfl⟩⟩, fun _ h => absurd h List.not_mem_nil⟩⟩
set_option maxRecDepth 100000 in
theorem cl_30 : ∀ x ∈ ([(5, 0, 32, 6)] : List (Nat × Nat × Nat × Nat)), COK 5 23 x := List.forall_mem_cons.mpr ⟨⟨mem_4 155 rfl, mem_4 133 rfl, mem_3 31 rfl, Or.inl rfl, mem_4 131 rfl, by decide +kernel⟩, fun _ h => absurd h List.not_mem_nil⟩
set_option maxRecDepth 100000 in
theorem cl_31 : ∀ x ∈ ([(1, 1, 35, 6), (1, 2, 35, 6), (1, 4, 35, 6), (1, 5, 35, 6), (0, 6, 35, 0), (1, 7, 35, 6), (1, 9, 35, 6)] : List (Nat × Nat × Nat × Nat)), COK 6 23 x := List.forall_mem_cons.mpr ⟨⟨"VerandaTalk$Matter", ⟨by decide +kernel, by decide +kernel⟩, mem_4 159 rfl, mem_6 172 rfl, mem_6 173 rfl, mem_4 142 rfl, Or.inr ⟨35, rfl, mem_4 142 rfl, mem_4 143 rfl⟩⟩, List.forall_mem_cons.mpr ⟨⟨"VerandaTalk$Matter", ⟨by decide +kernel, by decide +kernel⟩, mem_4 159 rfl, mem_6 172 rfl, mem_6 174 rfl, mem_4 142 rfl, Or.inr ⟨35, rfl, mem_4 142 rfl, mem_4 143 rfl⟩⟩, List.forall_mem_cons.mpr ⟨⟨"VerandaTalk$Matter", ⟨by decide +kernel, by decide +kernel⟩, mem_4 159 rfl, mem_6 172 rfl, mem_6 175 rfl, mem_4 142 rfl, Or.inr ⟨35, rfl, mem_4 142 rfl, mem_4 143 rfl⟩⟩, List.forall_mem_cons.mpr ⟨⟨"VerandaTalk$Matter", ⟨by decide +kernel, by decide +kernel⟩, mem_4 159 rfl, mem_6 172 rfl, mem_6 176 rfl, mem_4 142 rfl, Or.inr ⟨35, rfl, mem_4 142 rfl, mem_4 143 rfl⟩⟩, List.forall_mem_cons.mpr ⟨⟨rfl, mem_4 159 rfl, mem_4 142 rfl, mem_6 177 rfl⟩, List.forall_mem_cons.mpr ⟨⟨"VerandaTalk$Matter", ⟨by decide +kernel, by decide +kernel⟩, mem_4 159 rfl, mem_6 172 rfl, mem_6 178 rfl, mem_4 142 rfl, Or.inr ⟨35, rfl, mem_4 142 rfl, mem_4 143 rfl⟩⟩, List.forall_mem_cons.mpr ⟨⟨"VerandaTalk$Matter", ⟨by decide +kernel, by decide +kernel⟩, mem_4 159 rfl, mem_6 172 rfl, mem_6 179 rfl, mem_4 142 rfl, Or.inr ⟨35, rfl, mem_4 142 rfl, mem_4 143 rfl⟩⟩, fun _ h => absurd h List.not_mem_nil⟩⟩⟩⟩⟩⟩⟩
set_option maxRecDepth 100000 in
theorem cl_32 : ∀ x ∈ ([(1, 1, 32, 6), (1, 2, 19, 6), (1, 4, 32, 6), (1, 5, 29, 6), (0, 6, 32, 0), (1, 7, 29, 6), (1, 9, 32, 6)] : List (Nat × Nat × Nat × Nat)), COK 6 27 x := List.forall_mem_cons.mpr ⟨⟨"VerandaTalk$Matter", ⟨by decide +kernel, by decide +kernel⟩, mem_4 186 rfl, mem_4 133 rfl, mem_4 134 rfl, mem_4 131 rfl, Or.inr ⟨32, rfl, mem_4 131 rfl, mem_4 158 rfl⟩⟩, List.forall_mem_cons.mpr ⟨⟨"VerandaTalk$Matter", ⟨by decide +kernel, by decide +kernel⟩, mem_4 186 rfl, mem_4 133 rfl, mem_4 135 rfl, mem_4 136 rfl, Or.inl (mem_4 146 rfl)⟩, List.forall_mem_cons.mpr ⟨⟨"VerandaTalk$Matter", ⟨by decide +kernel, by decide +kernel⟩, mem_4 186 rfl, mem_4 133 rfl, mem_4 147 rfl, mem_4 131 rfl, Or.inr ⟨32, rfl, mem_4 131 rfl, mem_4 158 rfl⟩⟩, List.forall_mem_cons.mpr ⟨⟨"VerandaTalk$Matter", ⟨by decide +kernel, by decide +kernel⟩, mem_4 186 rfl, mem_4 133 rfl, mem_4 148 rfl, mem_4 149 rfl, Or.inl (mem_4 146 rfl)⟩, List.forall_mem_cons.mpr ⟨⟨rfl, mem_4 186 rfl, mem_4 131 rfl, mem_4 132 rfl⟩, List.forall_mem_cons.mpr ⟨⟨"VerandaTalk$Matter", ⟨by decide +kernel, by decide +kernel⟩, mem_4 186 rfl, mem_4 133 rfl, mem_4 156 rfl, mem_4 149 rfl, Or.inl (mem_4 146 rfl)⟩, List.forall_mem_cons.mpr ⟨⟨"VerandaTalk$Matter", ⟨by decide +kernel, by decide +kernel⟩, mem_4 186 rfl, mem_4 133 rfl, mem_4 157 rfl, mem_4 131 rfl, Or.inr ⟨32, rfl, mem_4 131 rfl, mem_4 158 rfl⟩⟩, fun _ h => absurd h List.not_mem_nil⟩⟩⟩⟩⟩⟩⟩
set_option maxRecDepth 100000 in
theorem cl_33 : ∀ x ∈ ([(1, 1, 16, 6), (1, 2, 16, 6), (1, 4, 33, 6), (1, 5, 33, 6), (0, 6, 33, 0), (1, 7, 33, 6), (1, 9, 57, 6)] : List (Nat × Nat × Nat × Nat)), COK 6 31 x := List.forall_mem_cons.mpr ⟨⟨"VerandaTalk$Matter", ⟨by decide +kernel, by decide +kernel⟩, mem_4 217 rfl, mem_4 163 rfl, mem_4 164 rfl, mem_4 165 rfl, Or.inl (mem_4 184 rfl)⟩, List.forall_mem_cons.mpr ⟨⟨"VerandaTalk$Matter", ⟨by decide +kernel, by decide +kernel⟩, mem_4 217 rfl, mem_4 163 rfl, mem_4 172 rfl, mem_4 165 rfl, Or.inl (mem_4 184 rfl)⟩, List.forall_mem_cons.mpr ⟨⟨"VerandaTalk$Matter", ⟨by decide +kernel, by decide +kernel⟩, mem_4 217 rfl, mem_4 163 rfl, mem_4 173 rfl, mem_4 161 rfl, Or.inr ⟨33, rfl, mem_4 161 rfl, mem_4 185 rfl⟩⟩, List.forall_mem_cons.mpr ⟨⟨"VerandaTalk$Matter", ⟨by decide +kernel, by decide +kernel⟩, mem_4 217 rfl, mem_4 163 rfl, mem_4 174 rfl, mem_4 161 rfl, Or.inr ⟨33, rfl, mem_4 161 rfl, mem_4 185 rfl⟩⟩, List.forall_mem_cons.mpr ⟨⟨rfl, mem_4 217 rfl, mem_4 161 rfl, mem_4 162 rfl⟩, List.forall_mem_cons.mpr ⟨⟨"VerandaTalk$Matter", ⟨by decide +kernel, by decide +kernel⟩, mem_4 217 rfl, mem_4 163 rfl, mem_4 175 rfl, mem_4 161 rfl, Or.inr ⟨33, rfl, mem_4 161 rfl, mem_4 185 rfl⟩⟩, List.forall_mem_cons.mpr ⟨⟨"VerandaTalk$Matter", ⟨by decide +kernel, by decide +kernel⟩, mem_4 217 rfl, mem_4 163 rfl, mem_4 176 rfl, mem_4 177 rfl, Or.inl (mem_4 184 rfl)⟩, fun _ h => absurd h List.not_mem_nil⟩⟩⟩⟩⟩⟩⟩
set_option maxRecDepth 100000 in
theorem cl_34 : ∀ x ∈ ([(3, 0, 27, 0)] : List (Nat × Nat × Nat × Nat)), COK 7 1 x := List.forall_mem_cons.mpr ⟨⟨mem_3 59 rfl, mem_2 239 rfl, rfl, rfl⟩, fun _ h => absurd h List.not_mem_nil⟩
set_option maxRecDepth 100000 in
theorem cl_35 : ∀ x ∈ ([(5, 0, 28, 5)] : List (Nat × Nat × Nat × Nat)), COK 7 13 x := List.forall_mem_cons.mpr ⟨⟨mem_3 162 rfl, mem_6 170 rfl, mem_3 64 rfl, Or.inl rfl, mem_3 157 rfl, by decide +kernel⟩, fun _ h => absurd h List.not_mem_nil⟩
set_option maxRecDepth 100000 in
theorem cl_36 : ∀ x ∈ ([(1, 7, 35, 7)] : List (Nat × Nat × Nat × Nat)), COK 7 17 x := List.forall_mem_cons.mpr ⟨⟨"VerandaTalk$Matter", ⟨by decide +kernel, by decide +kernel⟩, mem_4 205 rfl, mem_4 206 rfl, mem_4 207 rfl, mem_4 142 rfl, Or.inr ⟨35, rfl, mem_4 142 rfl, mem_4 143 rfl⟩⟩, fun _ h => absurd h List.not_mem_nil⟩
set_option maxRecDepth 100000 in
theorem cl_37 : ∀ x ∈ ([(5, 0, 34, 5)] : List (Nat × Nat × Nat × Nat)), COK 7 23 x := List.forall_mem_cons.mpr ⟨⟨mem_4 208 rfl, mem_4 209 rfl, mem_3 64 rfl, Or.inr (mem_3 31 rfl), mem_4 188 rfl, by decide +kernel⟩, fun _ h => absurd h List.not_mem_nil⟩
set_option maxRecDepth 100000 in
theorem cl_38 : ∀ x ∈ ([(1, 7, 29, 7)] : List (Nat × Nat × Nat × Nat)), COK 7 27 x := List.forall_mem_cons.mpr ⟨⟨"VerandaTalk$Marriage", ⟨by decide +kernel, by decide +kernel⟩, mem_4 211 rfl, mem_4 212 rfl, mem_4 214 rfl, mem_4 149 rfl, Or.inr ⟨29, rfl, mem_4 149 rfl, mem_4 150 rfl⟩⟩, fun _ h => absurd h List.not_mem_nil⟩
set_option maxRecDepth 100000 in
theorem cl_39 : ∀ x ∈ ([(2, 0, 209, 0)] : List (Nat × Nat × Nat × Nat)), COK 8 44 x := List.forall_mem_cons.mpr ⟨⟨mem_2 59 rfl, mem_2 60 rfl⟩, fun _ h => absurd h List.not_mem_nil⟩
set_option maxRecDepth 100000 in
theorem cl_40 : ∀ x ∈ ([(0, 8, 41, 0)] : List (Nat × Nat × Nat × Nat)), COK 8 50 x := List.forall_mem_cons.mpr ⟨⟨rfl, mem_2 62 rfl, mem_2 64 rfl, mem_p 0 rfl⟩, fun _ h => absurd h List.not_mem_nil⟩
set_option maxRecDepth 100000 in
theorem cl_41 : ∀ x ∈ ([(0, 8, 50, 0)] : List (Nat × Nat × Nat × Nat)), COK 8 54 x := List.forall_mem_cons.mpr ⟨⟨rfl, mem_2 130 rfl, mem_2 132 rfl, mem_p 3 rfl⟩, fun _ h => absurd h List.not_mem_nil⟩
set_option maxRecDepth 100000 in
theorem cl_42 : ∀ x ∈ ([(0, 8, 51, 0)] : List (Nat × Nat × Nat × Nat)), COK 8 58 x := List.forall_mem_cons.mpr ⟨⟨rfl, mem_2 66 rfl, mem_2 68 rfl, mem_p 1 rfl⟩, fun _ h => absurd h List.not_mem_nil⟩
set_option maxRecDepth 100000 in
theorem cl_43 : ∀ x ∈ ([(2, 0, 42, 0)] : List (Nat × Nat × Nat × Nat)), COK 8 62 x := List.forall_mem_cons.mpr ⟨⟨mem_2 70 rfl, mem_2 71 rfl⟩, fun _ h => absurd h List.not_mem_nil⟩
set_option maxRecDepth 100000 in
theorem cl_44 : ∀ x ∈ ([(0, 8, 49, 0)] : List (Nat × Nat × Nat × Nat)), COK 8 66 x := List.forall_mem_cons.mpr ⟨⟨rfl, mem_2 78 rfl, mem_2 80 rfl, mem_p 2 rfl⟩, fun _ h => absurd h List.not_mem_nil⟩
set_option maxRecDepth 100000 in
theorem cl_45 : ∀ x ∈ ([(0, 8, 46, 0)] : List (Nat × Nat × Nat × Nat)), COK 8 70 x := List.forall_mem_cons.mpr ⟨⟨rfl, mem_2 138 rfl, mem_2 140 rfl, mem_p 4 rfl⟩, fun _ h => absurd h List.not_mem_nil⟩
set_option maxRecDepth 100000 in
theorem cl_46 : ∀ x ∈ ([(0, 8, 43, 0)] : List (Nat × Nat × Nat × Nat)), COK 8 73 x := List.forall_mem_cons.mpr ⟨⟨rfl, mem_2 145 rfl, mem_2 147 rfl, mem_p 5 rfl⟩, fun _ h => absurd h List.not_mem_nil⟩
set_option maxRecDepth 100000 in
theorem cl_47 : ∀ x ∈ ([(0, 8, 44, 0)] : List (Nat × Nat × Nat × Nat)), COK 8 85 x := List.forall_mem_cons.mpr ⟨⟨rfl, mem_2 149 rfl, mem_2 151 rfl, mem_p 6 rfl⟩, fun _ h => absurd h List.not_mem_nil⟩
set_option maxRecDepth 100000 in
theorem cl_48 : ∀ x ∈ ([(0, 8, 52, 0)] : List (Nat × Nat × Nat × Nat)), COK 8 88 x := List.forall_mem_cons.mpr ⟨⟨rfl, mem_2 220 rfl, mem_2 222 rfl, mem_p 9 rfl⟩, fun _ h => absurd h List.not_mem_nil⟩
set_option maxRecDepth 100000 in
theorem cl_49 : ∀ x ∈ ([(0, 8, 45, 0)] : List (Nat × Nat × Nat × Nat)), COK 8 92 x := List.forall_mem_cons.mpr ⟨⟨rfl, mem_2 153 rfl, mem_2 155 rfl, mem_p 7 rfl⟩, fun _ h => absurd h List.not_mem_nil⟩
set_option maxRecDepth 100000 in
theorem cl_50 : ∀ x ∈ ([(0, 8, 48, 0)] : List (Nat × Nat × Nat × Nat)), COK 8 97 x := List.forall_mem_cons.mpr ⟨⟨rfl, mem_2 158 rfl, mem_2 160 rfl, mem_p 8 rfl⟩, fun _ h => absurd h List.not_mem_nil⟩
set_option maxRecDepth 100000 in
theorem cl_51 : ∀ x ∈ ([(2, 0, 47, 0)] : List (Nat × Nat × Nat × Nat)), COK 8 103 x := List.forall_mem_cons.mpr ⟨⟨mem_2 142 rfl, mem_2 143 rfl⟩, fun _ h => absurd h List.not_mem_nil⟩
set_option maxRecDepth 100000 in
theorem cl_52 : ∀ x ∈ ([(0, 17, 197, 0)] : List (Nat × Nat × Nat × Nat)), COK 8 107 x := List.forall_mem_cons.mpr ⟨⟨rfl, mem_2 162 rfl, mem_2 163 rfl, mem_2 164 rfl⟩, fun _ h => absurd h List.not_mem_nil⟩
set_option maxRecDepth 100000 in
theorem cl_53 : ∀ x ∈ ([(0, 17, 194, 0)] : List (Nat × Nat × Nat × Nat)), COK 8 112 x := List.forall_mem_cons.mpr ⟨⟨rfl, mem_2 82 rfl, mem_2 83 rfl, mem_2 84 rfl⟩, fun _ h => absurd h List.not_mem_nil⟩
set_option maxRecDepth 100000 in
theorem cl_54 : ∀ x ∈ ([(0, 17, 196, 0)] : List (Nat × Nat × Nat × Nat)), COK 8 115 x := List.forall_mem_cons.mpr ⟨⟨rfl, mem_2 92 rfl, mem_2 93 rfl, mem_2 94 rfl⟩, fun _ h => absurd h List.not_mem_nil⟩
set_option maxRecDepth 100000 in
theorem cl_55 : ∀ x ∈ ([(0, 17, 195, 0)] : List (Nat × Nat × Nat × Nat)), COK 8 119 x := List.forall_mem_cons.mpr ⟨⟨rfl, mem_2 134 rfl, mem_2 135 rfl, mem_2 136 rfl⟩, fun _ h => absurd h List.not_mem_nil⟩
set_option maxRecDepth 100000 in
theorem cl_56 : ∀ x ∈ ([(2, 0, 53, 0)] : List (Nat × Nat × Nat × Nat)), COK 8 122 x := List.forall_mem_cons.mpr ⟨⟨mem_3 138 rfl, mem_3 139 rfl⟩, fun _ h => absurd h List.not_mem_nil⟩
set_option maxRecDepth 100000 in
theorem cl_57 : ∀ x ∈ ([(3, 0, 24, 0)] : List (Nat × Nat × Nat × Nat)), COK 9 3 x := List.forall_mem_cons.mpr ⟨⟨mem_3 81 rfl, mem_3 46 rfl, rfl, rfl⟩, fun _ h => absurd h List.not_mem_nil⟩
set_option maxRecDepth 100000 in
theorem cl_58 : ∀ x ∈ ([(5, 0, 25, 4)] : List (Nat × Nat × Nat × Nat)), COK 9 9 x := List.forall_mem_cons.mpr ⟨⟨mem_3 166 rfl, mem_6 171 rfl, mem_3 86 rfl, Or.inl rfl, mem_3 153 rfl, by decide +kernel⟩, fun _ h => absurd h List.not_mem_nil⟩
set_option maxRecDepth 100000 in
theorem cl_59 : ∀ x ∈ ([(1, 9, 35, 9)] : List (Nat × Nat × Nat × Nat)), COK 9 28 x := List.forall_mem_cons.mpr ⟨⟨"VerandaTalk$Matter", ⟨by decide +kernel, by decide +kernel⟩, mem_4 179 rfl, mem_4 180 rfl, mem_4 181 rfl, mem_4 142 rfl, Or.inr ⟨35, rfl, mem_4 142 rfl, mem_4 143 rfl⟩⟩, fun _ h => absurd h List.not_mem_nil⟩
set_option maxRecDepth 100000 in
theorem cl_60 : ∀ x ∈ ([(5, 0, 33, 4)] : List (Nat × Nat × Nat × Nat)), COK 9 32 x := List.forall_mem_cons.mpr ⟨⟨mem_4 182 rfl, mem_4 183 rfl, mem_3 86 rfl, Or.inr (mem_3 53 rfl), mem_4 161 rfl, by decide +kernel⟩, fun _ h => absurd h List.not_mem_nil⟩
set_option maxRecDepth 100000 in
theorem cl_61 : ∀ x ∈ ([(4, 0, 39, 0)] : List (Nat × Nat × Nat × Nat)), COK 10 60 x := List.forall_mem_cons.mpr ⟨⟨mem_1 40 rfl, mem_1 41 rfl, rfl, rfl⟩, fun _ h => absurd h List.not_mem_nil⟩
set_option maxRecDepth 100000 in
theorem cl_62 : ∀ x ∈ ([(0, 10, 63, 0)] : List (Nat × Nat × Nat × Nat)), COK 10 80 x := List.forall_mem_cons.mpr ⟨⟨rfl, mem_3 116 rfl, mem_3 117 rfl, mem_3 118 rfl⟩, fun _ h => absurd h List.not_mem_nil⟩
set_option maxRecDepth 100000 in
theorem cl_63 : ∀ x ∈ ([(0, 10, 64, 0)] : List (Nat × Nat × Nat × Nat)), COK 10 84 x := List.forall_mem_cons.mpr ⟨⟨rfl, mem_3 112 rfl, mem_3 113 rfl, mem_3 114 rfl⟩, fun _ h => absurd h List.not_mem_nil⟩
set_option maxRecDepth 100000 in
theorem cl_64 : ∀ x ∈ ([(0, 10, 65, 0)] : List (Nat × Nat × Nat × Nat)), COK 10 87 x := List.forall_mem_cons.mpr ⟨⟨rfl, mem_3 195 rfl, mem_3 109 rfl, mem_3 110 rfl⟩, fun _ h => absurd h List.not_mem_nil⟩
set_option maxRecDepth 100000 in
theorem cl_65 : ∀ x ∈ ([(0, 10, 68, 0)] : List (Nat × Nat × Nat × Nat)), COK 10 91 x := List.forall_mem_cons.mpr ⟨⟨rfl, mem_3 124 rfl, mem_3 126 rfl, mem_p 12 rfl⟩, fun _ h => absurd h List.not_mem_nil⟩
set_option maxRecDepth 100000 in
theorem cl_66 : ∀ x ∈ ([(1, 1, 15, 6), (1, 2, 18, 6), (1, 4, 25, 6), (1, 5, 28, 6), (0, 6, 31, 0), (1, 7, 37, 6), (1, 9, 56, 6)] : List (Nat × Nat × Nat × Nat)), COK 10 95 x := List.forall_mem_cons.mpr ⟨⟨"VerandaTalk$Matter", ⟨by decide +kernel, by decide +kernel⟩, mem_3 141 rfl, mem_3 144 rfl, mem_3 145 rfl, mem_3 146 rfl, Or.inr ⟨31, rfl, mem_3 142 rfl, mem_3 167 rfl⟩⟩, List.forall_mem_cons.mpr ⟨⟨"VerandaTalk$Matter", ⟨by decide +kernel, by decide +kernel⟩, mem_3 141 rfl, mem_3 144 rfl, mem_3 148 rfl, mem_3 149 rfl, Or.inr ⟨31, rfl, mem_3 142 rfl, mem_3 167 rfl⟩⟩, List.forall_mem_cons.mpr ⟨⟨"VerandaTalk$Matter", ⟨by decide +kernel, by decide +kernel⟩, mem_3 141 rfl, mem_3 144 rfl, mem_3 152 rfl, mem_3 153 rfl, Or.inr ⟨31, rfl, mem_3 142 rfl, mem_3 167 rfl⟩⟩, List.forall_mem_cons.mpr ⟨⟨"VerandaTalk$Matter", ⟨by decide +kernel, by decide +kernel⟩, mem_3 141 rfl, mem_3 144 rfl, mem_3 156 rfl, mem_3 157 rfl, Or.inr ⟨31, rfl, mem_3 142 rfl, mem_3 167 rfl⟩⟩, List.forall_mem_cons.mpr ⟨⟨rfl, mem_3 141 rfl, mem_3 142 rfl, mem_3 143 rfl⟩, List.forall_mem_cons.mpr ⟨⟨"VerandaTalk$Matter", ⟨by decide +kernel, by decide +kernel⟩, mem_3 141 rfl, mem_3 144 rfl, mem_3 159 rfl, mem_3 160 rfl, Or.inr ⟨31, rfl, mem_3 142 rfl, mem_3 167 rfl⟩⟩, List.forall_mem_cons.mpr ⟨⟨"VerandaTalk$Matter", ⟨by decide +kernel, by decide +kernel⟩, mem_3 141 rfl, mem_3 144 rfl, mem_3 163 rfl, mem_3 164 rfl, Or.inr ⟨31, rfl, mem_3 142 rfl, mem_3 167 rfl⟩⟩, fun _ h => absurd h List.not_mem_nil⟩⟩⟩⟩⟩⟩⟩
set_option maxRecDepth 100000 in
theorem cl_67 : ∀ x ∈ ([(2, 0, 207, 0)] : List (Nat × Nat × Nat × Nat)), COK 10 99 x := List.forall_mem_cons.mpr ⟨⟨mem_3 128 rfl, mem_3 129 rfl⟩, fun _ h => absurd h List.not_mem_nil⟩
set_option maxRecDepth 100000 in
theorem cl_68 : ∀ x ∈ ([(0, 8, 54, 0)] : List (Nat × Nat × Nat × Nat)), COK 10 107 x := List.forall_mem_cons.mpr ⟨⟨rfl, mem_3 134 rfl, mem_3 135 rfl, mem_3 136 rfl⟩, fun _ h => absurd h List.not_mem_nil⟩
set_option maxRecDepth 100000 in
theorem cl_69 : ∀ x ∈ ([(0, 10, 67, 0)] : List (Nat × Nat × Nat × Nat)), COK 10 114 x := List.forall_mem_cons.mpr ⟨⟨rfl, mem_3 200 rfl, mem_3 121 rfl, mem_3 122 rfl⟩, fun _ h => absurd h List.not_mem_nil⟩
set_option maxRecDepth 100000 in
theorem cl_70 : ∀ x ∈ ([(2, 0, 208, 0)] : List (Nat × Nat × Nat × Nat)), COK 10 117 x := List.forall_mem_cons.mpr ⟨⟨mem_3 224 rfl, mem_2 178 rfl⟩, fun _ h => absurd h List.not_mem_nil⟩
set_option maxRecDepth 100000 in
theorem cl_71 : ∀ x ∈ ([(2, 0, 209, 0)] : List (Nat × Nat × Nat × Nat)), COK 10 123 x := List.forall_mem_cons.mpr ⟨⟨mem_3 225 rfl, mem_2 60 rfl⟩, fun _ h => absurd h List.not_mem_nil⟩
set_option maxRecDepth 100000 in
theorem cl_72 : ∀ x ∈ ([(0, 10, 62, 0)] : List (Nat × Nat × Nat × Nat)), COK 10 129 x := List.forall_mem_cons.mpr ⟨⟨rfl, mem_3 226 rfl, mem_3 227 rfl, mem_3 228 rfl⟩, fun _ h => absurd h List.not_mem_nil⟩
set_option maxRecDepth 100000 in
theorem cl_73 : ∀ x ∈ ([(0, 10, 71, 0)] : List (Nat × Nat × Nat × Nat)), COK 10 132 x := List.forall_mem_cons.mpr ⟨⟨rfl, mem_3 205 rfl, mem_3 206 rfl, mem_3 207 rfl⟩, fun _ h => absurd h List.not_mem_nil⟩
set_option maxRecDepth 100000 in
theorem cl_74 : ∀ x ∈ ([(4, 0, 58, 0)] : List (Nat × Nat × Nat × Nat)), COK 11 13 x := List.forall_mem_cons.mpr ⟨⟨mem_1 32 rfl, mem_1 33 rfl, rfl, rfl⟩, fun _ h => absurd h List.not_mem_nil⟩
set_option maxRecDepth 100000 in
theorem cl_75 : ∀ x ∈ ([(4, 0, 20, 0)] : List (Nat × Nat × Nat × Nat)), COK 11 20 x := List.forall_mem_cons.mpr ⟨⟨mem_1 162 rfl, mem_1 163 rfl, rfl, rfl⟩, fun _ h => absurd h List.not_mem_nil⟩
set_option maxRecDepth 100000 in
theorem cl_76 : ∀ x ∈ ([(3, 0, 1, 0)] : List (Nat × Nat × Nat × Nat)), COK 11 33 x := List.forall_mem_cons.mpr ⟨⟨mem_1 220 rfl, mem_1 221 rfl, rfl, rfl⟩, fun _ h => absurd h List.not_mem_nil⟩
set_option maxRecDepth 100000 in
theorem cl_77 : ∀ x ∈ ([(4, 0, 39, 0)] : List (Nat × Nat × Nat × Nat)), COK 11 44 x := List.forall_mem_cons.mpr ⟨⟨mem_2 21 rfl, mem_1 41 rfl, rfl, rfl⟩, fun _ h => absurd h List.not_mem_nil⟩
set_option maxRecDepth 100000 in
theorem cl_78 : ∀ x ∈ ([(0, 8, 40, 0)] : List (Nat × Nat × Nat × Nat)), COK 11 64 x := List.forall_mem_cons.mpr ⟨⟨rfl, mem_2 55 rfl, mem_2 56 rfl, mem_2 57 rfl⟩, fun _ h => absurd h List.not_mem_nil⟩
set_option maxRecDepth 100000 in
theorem cl_79 : ∀ x ∈ ([(0, 10, 61, 0)] : List (Nat × Nat × Nat × Nat)), COK 11 68 x := List.forall_mem_cons.mpr ⟨⟨rfl, mem_2 224 rfl, mem_2 225 rfl, mem_2 226 rfl⟩, fun _ h => absurd h List.not_mem_nil⟩
set_option maxRecDepth 100000 in
theorem cl_80 : ∀ x ∈ ([(0, 11, 111, 0)] : List (Nat × Nat × Nat × Nat)), COK 11 75 x := List.forall_mem_cons.mpr ⟨⟨rfl, mem_2 232 rfl, mem_2 234 rfl, mem_p 10 rfl⟩, fun _ h => absurd h List.not_mem_nil⟩
set_option maxRecDepth 100000 in
theorem cl_81 : ∀ x ∈ ([(0, 10, 60, 0)] : List (Nat × Nat × Nat × Nat)), COK 11 79 x := List.forall_mem_cons.mpr ⟨⟨rfl, mem_3 95 rfl, mem_3 96 rfl, mem_3 97 rfl⟩, fun _ h => absurd h List.not_mem_nil⟩
set_option maxRecDepth 100000 in
theorem cl_82 : ∀ x ∈ ([(0, 11, 104, 0)] : List (Nat × Nat × Nat × Nat)), COK 11 83 x := List.forall_mem_cons.mpr ⟨⟨rfl, mem_3 103 rfl, mem_3 105 rfl, mem_p 11 rfl⟩, fun _ h => absurd h List.not_mem_nil⟩
set_option maxRecDepth 100000 in
theorem cl_83 : ∀ x ∈ ([(0, 10, 65, 0)] : List (Nat × Nat × Nat × Nat)), COK 11 106 x := List.forall_mem_cons.mpr ⟨⟨rfl, mem_3 108 rfl, mem_3 109 rfl, mem_3 110 rfl⟩, fun _ h => absurd h List.not_mem_nil⟩
set_option maxRecDepth 100000 in
theorem cl_84 : ∀ x ∈ ([(0, 10, 67, 0)] : List (Nat × Nat × Nat × Nat)), COK 11 109 x := List.forall_mem_cons.mpr ⟨⟨rfl, mem_3 120 rfl, mem_3 121 rfl, mem_3 122 rfl⟩, fun _ h => absurd h List.not_mem_nil⟩
set_option maxRecDepth 100000 in
theorem cl_85 : ∀ x ∈ ([(2, 0, 107, 0)] : List (Nat × Nat × Nat × Nat)), COK 11 119 x := List.forall_mem_cons.mpr ⟨⟨mem_3 176 rfl, mem_3 177 rfl⟩, fun _ h => absurd h List.not_mem_nil⟩
set_option maxRecDepth 100000 in
theorem cl_86 : ∀ x ∈ ([(0, 10, 66, 0)] : List (Nat × Nat × Nat × Nat)), COK 11 138 x := List.forall_mem_cons.mpr ⟨⟨rfl, mem_3 191 rfl, mem_3 192 rfl, mem_3 193 rfl⟩, fun _ h => absurd h List.not_mem_nil⟩
set_option maxRecDepth 100000 in
theorem cl_87 : ∀ x ∈ ([(0, 10, 69, 0)] : List (Nat × Nat × Nat × Nat)), COK 11 142 x := List.forall_mem_cons.mpr ⟨⟨rfl, mem_3 196 rfl, mem_3 197 rfl, mem_3 198 rfl⟩, fun _ h => absurd h List.not_mem_nil⟩
set_option maxRecDepth 100000 in
theorem cl_88 : ∀ x ∈ ([(0, 10, 72, 0)] : List (Nat × Nat × Nat × Nat)), COK 11 145 x := List.forall_mem_cons.mpr ⟨⟨rfl, mem_3 201 rfl, mem_3 202 rfl, mem_3 203 rfl⟩, fun _ h => absurd h List.not_mem_nil⟩
set_option maxRecDepth 100000 in
theorem cl_89 : ∀ x ∈ ([(0, 0, 9, 0)] : List (Nat × Nat × Nat × Nat)), COK 11 148 x := List.forall_mem_cons.mpr ⟨⟨rfl, mem_3 209 rfl, mem_3 210 rfl, mem_3 211 rfl⟩, fun _ h => absurd h List.not_mem_nil⟩
set_option maxRecDepth 100000 in
theorem cl_90 : ∀ x ∈ ([(0, 10, 70, 0)] : List (Nat × Nat × Nat × Nat)), COK 11 152 x := List.forall_mem_cons.mpr ⟨⟨rfl, mem_3 220 rfl, mem_3 221 rfl, mem_3 222 rfl⟩, fun _ h => absurd h List.not_mem_nil⟩
set_option maxRecDepth 100000 in
theorem cl_91 : ∀ x ∈ ([(2, 0, 105, 0)] : List (Nat × Nat × Nat × Nat)), COK 11 156 x := List.forall_mem_cons.mpr ⟨⟨mem_3 238 rfl, mem_3 239 rfl⟩, fun _ h => absurd h List.not_mem_nil⟩
set_option maxRecDepth 100000 in
theorem cl_92 : ∀ x ∈ ([(0, 0, 2, 0)] : List (Nat × Nat × Nat × Nat)), COK 11 159 x := List.forall_mem_cons.mpr ⟨⟨rfl, mem_4 1 rfl, mem_4 2 rfl, mem_4 3 rfl⟩, fun _ h => absurd h List.not_mem_nil⟩
set_option maxRecDepth 100000 in
theorem cl_93 : ∀ x ∈ ([(0, 0, 3, 0)] : List (Nat × Nat × Nat × Nat)), COK 11 163 x := List.forall_mem_cons.mpr ⟨⟨rfl, mem_4 18 rfl, mem_4 19 rfl, mem_4 20 rfl⟩, fun _ h => absurd h List.not_mem_nil⟩
set_option maxRecDepth 100000 in
theorem cl_94 : ∀ x ∈ ([(0, 0, 4, 0)] : List (Nat × Nat × Nat × Nat)), COK 11 167 x := List.forall_mem_cons.mpr ⟨⟨rfl, mem_4 27 rfl, mem_4 28 rfl, mem_4 29 rfl⟩, fun _ h => absurd h List.not_mem_nil⟩
set_option maxRecDepth 100000 in
theorem cl_95 : ∀ x ∈ ([(0, 10, 71, 0)] : List (Nat × Nat × Nat × Nat)), COK 11 180 x := List.forall_mem_cons.mpr ⟨⟨rfl, mem_4 51 rfl, mem_3 206 rfl, mem_3 207 rfl⟩, fun _ h => absurd h List.not_mem_nil⟩
set_option maxRecDepth 100000 in
theorem cl_96 : ∀ x ∈ ([(0, 0, 10, 0)] : List (Nat × Nat × Nat × Nat)), COK 11 195 x := List.forall_mem_cons.mpr ⟨⟨rfl, mem_4 60 rfl, mem_4 61 rfl, mem_4 62 rfl⟩, fun _ h => absurd h List.not_mem_nil⟩
set_option maxRecDepth 100000 in
theorem cl_97 : ∀ x ∈ ([(0, 0, 11, 0)] : List (Nat × Nat × Nat × Nat)), COK 11 205 x := List.forall_mem_cons.mpr ⟨⟨rfl, mem_4 82 rfl, mem_4 83 rfl, mem_4 84 rfl⟩, fun _ h => absurd h List.not_mem_nil⟩
set_option maxRecDepth 100000 in
theorem cl_98 : ∀ x ∈ ([(2, 0, 106, 0)] : List (Nat × Nat × Nat × Nat)), COK 11 209 x := List.forall_mem_cons.mpr ⟨⟨mem_4 90 rfl, mem_4 91 rfl⟩, fun _ h => absurd h List.not_mem_nil⟩
set_option maxRecDepth 100000 in
theorem cl_99 : ∀ x ∈ ([(2, 0, 109, 0)] : List (Nat × Nat × Nat × Nat)), COK 11 214 x := List.forall_mem_cons.mpr ⟨⟨mem_4 94 rfl, mem_4 95 rfl⟩, fun _ h => absurd h List.not_mem_nil⟩
set_option maxRecDepth 100000 in
theorem cl_100 : ∀ x ∈ ([(0, 10, 64, 0)] : List (Nat × Nat × Nat × Nat)), COK 11 218 x := List.forall_mem_cons.mpr ⟨⟨rfl, mem_4 104 rfl, mem_3 113 rfl, mem_3 114 rfl⟩, fun _ h => absurd h List.not_mem_nil⟩
set_option maxRecDepth 100000 in
theorem cl_101 : ∀ x ∈ ([(2, 0, 207, 0)] : List (Nat × Nat × Nat × Nat)), COK 11 221 x := List.forall_mem_cons.mpr ⟨⟨mem_4 105 rfl, mem_3 129 rfl⟩, fun _ h => absurd h List.not_mem_nil⟩
set_option maxRecDepth 100000 in
theorem cl_102 : ∀ x ∈ ([(0, 0, 13, 0)] : List (Nat × Nat × Nat × Nat)), COK 11 235 x := List.forall_mem_cons.mpr ⟨⟨rfl, mem_4 114 rfl, mem_4 115 rfl, mem_4 116 rfl⟩, fun _ h => absurd h List.not_mem_nil⟩
set_option maxRecDepth 100000 in
theorem cl_103 : ∀ x ∈ ([(1, 1, 32, 6), (1, 2, 19, 6), (1, 4, 32, 6), (1, 5, 29, 6), (0, 6, 32, 0), (1, 7, 29, 6), (1, 9, 32, 6)] : List (Nat × Nat × Nat × Nat)), COK 11 252 x := List.forall_mem_cons.mpr ⟨⟨"VerandaTalk$Matter", ⟨by decide +kernel, by decide +kernel⟩, mem_4 130 rfl, mem_4 133 rfl, mem_4 134 rfl, mem_4 131 rfl, Or.inr ⟨32, rfl, mem_4 131 rfl, mem_4 158 rfl⟩⟩, List.forall_mem_cons.mpr ⟨⟨"VerandaTalk$Matter", ⟨by decide +kernel, by decide +kernel⟩, mem_4 130 rfl, mem_4 133 rfl, mem_4 135 rfl, mem_4 136 rfl, Or.inl (mem_4 146 rfl)⟩, List.forall_mem_cons.mpr ⟨⟨"VerandaTalk$Matter", ⟨by decide +kernel, by decide +kernel⟩, mem_4 130 rfl, mem_4 133 rfl, mem_4 147 rfl, mem_4 131 rfl, Or.inr ⟨32, rfl, mem_4 131 rfl, mem_4 158 rfl⟩⟩, List.forall_mem_cons.mpr ⟨⟨"VerandaTalk$Matter", ⟨by decide +kernel, by decide +kernel⟩, mem_4 130 rfl, mem_4 133 rfl, mem_4 148 rfl, mem_4 149 rfl, Or.inl (mem_4 146 rfl)⟩, List.forall_mem_cons.mpr ⟨⟨rfl, mem_4 130 rfl, mem_4 131 rfl, mem_4 132 rfl⟩, List.forall_mem_cons.mpr ⟨⟨"VerandaTalk$Matter", ⟨by decide +kernel, by decide +kernel⟩, mem_4 130 rfl, mem_4 133 rfl, mem_4 156 rfl, mem_4 149 rfl, Or.inl (mem_4 146 rfl)⟩, List.forall_mem_cons.mpr ⟨⟨"VerandaTalk$Matter", ⟨by decide +kernel, by decide +kernel⟩, mem_4 130 rfl, mem_4 133 rfl, mem_4 157 rfl, mem_4 131 rfl, Or.inr ⟨32, rfl, mem_4 131 rfl, mem_4 158 rfl⟩⟩, fun _ h => absurd h List.not_mem_nil⟩⟩⟩⟩⟩⟩⟩
set_option maxRecDepth 100000 in
theorem cl_104 : ∀ x ∈ ([(1, 1, 16, 6), (1, 2, 16, 6), (1, 4, 33, 6), (1, 5, 33, 6), (0, 6, 33, 0), (1, 7, 33, 6), (1, 9, 57, 6)] : List (Nat × Nat × Nat × Nat)), COK 11 257 x := List.forall_mem_cons.mpr ⟨⟨"VerandaTalk$Matter", ⟨by decide +kernel, by decide +kernel⟩, mem_4 160 rfl, mem_4 163 rfl, mem_4 164 rfl, mem_4 165 rfl, Or.inl (mem_4 184 rfl)⟩, List.forall_mem_cons.mpr ⟨⟨"VerandaTalk$Matter", ⟨by decide +kernel, by decide +kernel⟩, mem_4 160 rfl, mem_4 163 rfl, mem_4 172 rfl, mem_4 165 rfl, Or.inl (mem_4 184 rfl)⟩, List.forall_mem_cons.mpr ⟨⟨"VerandaTalk$Matter", ⟨by decide +kernel, by decide +kernel⟩, mem_4 160 rfl, mem_4 163 rfl, mem_4 173 rfl, mem_4 161 rfl, Or.inr ⟨33, rfl, mem_4 161 rfl, mem_4 185 rfl⟩⟩, List.forall_mem_cons.mpr ⟨⟨"VerandaTalk$Matter", ⟨by decide +kernel, by decide +kernel⟩, mem_4 160 rfl, mem_4 163 rfl, mem_4 174 rfl, mem_4 161 rfl, Or.inr ⟨33, rfl, mem_4 161 rfl, mem_4 185 rfl⟩⟩, List.forall_mem_cons.mpr ⟨⟨rfl, mem_4 160 rfl, mem_4 161 rfl, mem_4 162 rfl⟩, List.forall_mem_cons.mpr ⟨⟨"VerandaTalk$Matter", ⟨by decide +kernel, by decide +kernel⟩, mem_4 160 rfl, mem_4 163 rfl, mem_4 175 rfl, mem_4 161 rfl, Or.inr ⟨33, rfl, mem_4 161 rfl, mem_4 185 rfl⟩⟩, List.forall_mem_cons.mpr ⟨⟨"VerandaTalk$Matter", ⟨by decide +kernel, by decide +kernel⟩, mem_4 160 rfl, mem_4 163 rfl, mem_4 176 rfl, mem_4 177 rfl, Or.inl (mem_4 184 rfl)⟩, fun _ h => absurd h List.not_mem_nil⟩⟩⟩⟩⟩⟩⟩
set_option maxRecDepth 100000 in
theorem cl_105 : ∀ x ∈ ([(1, 1, 34, 6), (1, 2, 34, 6), (1, 4, 26, 6), (1, 5, 34, 6), (0, 6, 34, 0), (1, 7, 38, 6), (1, 9, 26, 6)] : List (Nat × Nat × Nat × Nat)), COK 11 260 x := List.forall_mem_cons.mpr ⟨⟨"VerandaTalk$Matter", ⟨by decide +kernel, by decide +kernel⟩, mem_4 187 rfl, mem_4 190 rfl, mem_4 191 rfl, mem_4 188 rfl, Or.inr ⟨34, rfl, mem_4 188 rfl, mem_4 216 rfl⟩⟩, List.forall_mem_cons.mpr ⟨⟨"VerandaTalk$Matter", ⟨by decide +kernel, by decide +kernel⟩, mem_4 187 rfl, mem_4 190 rfl, mem_4 192 rfl, mem_4 188 rfl, Or.inr ⟨34, rfl, mem_4 188 rfl, mem_4 216 rfl⟩⟩, List.forall_mem_cons.mpr ⟨⟨"VerandaTalk$Matter", ⟨by decide +kernel, by decide +kernel⟩, mem_4 187 rfl, mem_4 190 rfl, mem_4 193 rfl, mem_4 194 rfl, Or.inl (mem_4 210 rfl)⟩, List.forall_mem_cons.mpr ⟨⟨"VerandaTalk$Matter", ⟨by decide +kernel, by decide +kernel⟩, mem_4 187 rfl, mem_4 190 rfl, mem_4 201 rfl, mem_4 188 rfl, Or.inr ⟨34, rfl, mem_4 188 rfl, mem_4 216 rfl⟩⟩, List.forall_mem_cons.mpr ⟨⟨rfl, mem_4 187 rfl, mem_4 188 rfl, mem_4 189 rfl⟩, List.forall_mem_cons.mpr ⟨⟨"VerandaTalk$Matter", ⟨by decide +kernel, by decide +kernel⟩, mem_4 187 rfl, mem_4 190 rfl, mem_4 202 rfl, mem_4 203 rfl, Or.inl (mem_4 210 rfl)⟩, List.forall_mem_cons.mpr ⟨⟨"VerandaTalk$Matter", ⟨by decide +kernel, by decide +kernel⟩, mem_4 187 rfl, mem_4 190 rfl, mem_4 215 rfl, mem_4 194 rfl, Or.inl (mem_4 210 rfl)⟩, fun _ h => absurd h List.not_mem_nil⟩⟩⟩⟩⟩⟩⟩
set_option maxRecDepth 100000 in
theorem cl_106 : ∀ x ∈ ([(2, 0, 108, 0)] : List (Nat × Nat × Nat × Nat)), COK 11 263 x := List.forall_mem_cons.mpr ⟨⟨mem_4 226 rfl, mem_4 227 rfl⟩, fun _ h => absurd h List.not_mem_nil⟩
set_option maxRecDepth 100000 in
theorem cl_107 : ∀ x ∈ ([(0, 10, 59, 0)] : List (Nat × Nat × Nat × Nat)), COK 11 267 x := List.forall_mem_cons.mpr ⟨⟨rfl, mem_4 235 rfl, mem_4 6 rfl, mem_4 7 rfl⟩, fun _ h => absurd h List.not_mem_nil⟩
set_option maxRecDepth 100000 in
theorem cl_108 : ∀ x ∈ ([(0, 3, 21, 0)] : List (Nat × Nat × Nat × Nat)), COK 11 271 x := List.forall_mem_cons.mpr ⟨⟨rfl, mem_4 236 rfl, mem_4 237 rfl, mem_4 238 rfl⟩, fun _ h => absurd h List.not_mem_nil⟩
set_option maxRecDepth 100000 in
theorem cl_109 : ∀ x ∈ ([(2, 0, 110, 0)] : List (Nat × Nat × Nat × Nat)), COK 11 277 x := List.forall_mem_cons.mpr ⟨⟨mem_4 97 rfl, mem_4 98 rfl⟩, fun _ h => absurd h List.not_mem_nil⟩
set_option maxRecDepth 100000 in
theorem cl_110 : ∀ x ∈ ([(3, 0, 27, 0)] : List (Nat × Nat × Nat × Nat)), COK 11 283 x := List.forall_mem_cons.mpr ⟨⟨mem_2 238 rfl, mem_2 239 rfl, rfl, rfl⟩, fun _ h => absurd h List.not_mem_nil⟩
set_option maxRecDepth 100000 in
theorem cl_111 : ∀ x ∈ ([(3, 0, 14, 0)] : List (Nat × Nat × Nat × Nat)), COK 11 288 x := List.forall_mem_cons.mpr ⟨⟨mem_3 34 rfl, mem_3 35 rfl, rfl, rfl⟩, fun _ h => absurd h List.not_mem_nil⟩
set_option maxRecDepth 100000 in
theorem cl_112 : ∀ x ∈ ([(3, 0, 24, 0)] : List (Nat × Nat × Nat × Nat)), COK 11 291 x := List.forall_mem_cons.mpr ⟨⟨mem_3 45 rfl, mem_3 46 rfl, rfl, rfl⟩, fun _ h => absurd h List.not_mem_nil⟩
set_option maxRecDepth 100000 in
theorem cl_113 : ∀ x ∈ ([(3, 0, 36, 0)] : List (Nat × Nat × Nat × Nat)), COK 11 294 x := List.forall_mem_cons.mpr ⟨⟨mem_3 56 rfl, mem_3 57 rfl, rfl, rfl⟩, fun _ h => absurd h List.not_mem_nil⟩
set_option maxRecDepth 100000 in
theorem cl_114 : ∀ x ∈ ([(3, 0, 17, 0)] : List (Nat × Nat × Nat × Nat)), COK 11 297 x := List.forall_mem_cons.mpr ⟨⟨mem_3 67 rfl, mem_3 68 rfl, rfl, rfl⟩, fun _ h => absurd h List.not_mem_nil⟩
set_option maxRecDepth 100000 in
theorem cl_115 : ∀ x ∈ ([(3, 0, 55, 0)] : List (Nat × Nat × Nat × Nat)), COK 11 300 x := List.forall_mem_cons.mpr ⟨⟨mem_3 78 rfl, mem_3 79 rfl, rfl, rfl⟩, fun _ h => absurd h List.not_mem_nil⟩
set_option maxRecDepth 100000 in
theorem cl_116 : ∀ x ∈ ([(3, 0, 30, 0)] : List (Nat × Nat × Nat × Nat)), COK 11 301 x := List.forall_mem_cons.mpr ⟨⟨mem_3 89 rfl, mem_3 2 rfl, rfl, rfl⟩, fun _ h => absurd h List.not_mem_nil⟩
set_option maxRecDepth 100000 in
theorem cl_117 : ∀ x ∈ ([(2, 0, 113, 0)] : List (Nat × Nat × Nat × Nat)), COK 12 44 x := List.forall_mem_cons.mpr ⟨⟨mem_5 80 rfl, mem_5 81 rfl⟩, fun _ h => absurd h List.not_mem_nil⟩
set_option maxRecDepth 100000 in
theorem cl_118 : ∀ x ∈ ([(0, 12, 118, 0)] : List (Nat × Nat × Nat × Nat)), COK 12 58 x := List.forall_mem_cons.mpr ⟨⟨rfl, mem_5 91 rfl, mem_5 93 rfl, mem_p 18 rfl⟩, fun _ h => absurd h List.not_mem_nil⟩
set_option maxRecDepth 100000 in
theorem cl_119 : ∀ x ∈ ([(0, 17, 194, 0)] : List (Nat × Nat × Nat × Nat)), COK 12 62 x := List.forall_mem_cons.mpr ⟨⟨rfl, mem_5 104 rfl, mem_2 83 rfl, mem_2 84 rfl⟩, fun _ h => absurd h List.not_mem_nil⟩
set_option maxRecDepth 100000 in
theorem cl_120 : ∀ x ∈ ([(0, 17, 196, 0)] : List (Nat × Nat × Nat × Nat)), COK 12 67 x := List.forall_mem_cons.mpr ⟨⟨rfl, mem_5 105 rfl, mem_2 93 rfl, mem_2 94 rfl⟩, fun _ h => absurd h List.not_mem_nil⟩
set_option maxRecDepth 100000 in
theorem cl_121 : ∀ x ∈ ([(0, 12, 119, 0)] : List (Nat × Nat × Nat × Nat)), COK 12 71 x := List.forall_mem_cons.mpr ⟨⟨rfl, mem_5 106 rfl, mem_5 108 rfl, mem_p 21 rfl⟩, fun _ h => absurd h List.not_mem_nil⟩
set_option maxRecDepth 100000 in
theorem cl_122 : ∀ x ∈ ([(0, 12, 124, 0)] : List (Nat × Nat × Nat × Nat)), COK 12 81 x := List.forall_mem_cons.mpr ⟨⟨rfl, mem_5 128 rfl, mem_5 130 rfl, mem_p 26 rfl⟩, fun _ h => absurd h List.not_mem_nil⟩
set_option maxRecDepth 100000 in
theorem cl_123 : ∀ x ∈ ([(0, 12, 123, 0)] : List (Nat × Nat × Nat × Nat)), COK 12 84 x := List.forall_mem_cons.mpr ⟨⟨rfl, mem_5 132 rfl, mem_5 134 rfl, mem_p 27 rfl⟩, fun _ h => absurd h List.not_mem_nil⟩
set_option maxRecDepth 100000 in
theorem cl_124 : ∀ x ∈ ([(0, 12, 126, 0)] : List (Nat × Nat × Nat × Nat)), COK 12 87 x := List.forall_mem_cons.mpr ⟨⟨rfl, mem_5 120 rfl, mem_5 122 rfl, mem_p 24 rfl⟩, fun _ h => absurd h List.not_mem_nil⟩
set_option maxRecDepth 100000 in
theorem cl_125 : ∀ x ∈ ([(0, 12, 122, 0)] : List (Nat × Nat × Nat × Nat)), COK 12 92 x := List.forall_mem_cons.mpr ⟨⟨rfl, mem_5 137 rfl, mem_5 139 rfl, mem_p 28 rfl⟩, fun _ h => absurd h List.not_mem_nil⟩
set_option maxRecDepth 100000 in
theorem cl_126 : ∀ x ∈ ([(0, 12, 121, 0)] : List (Nat × Nat × Nat × Nat)), COK 12 98 x := List.forall_mem_cons.mpr ⟨⟨rfl, mem_5 110 rfl, mem_5 112 rfl, mem_p 22 rfl⟩, fun _ h => absurd h List.not_mem_nil⟩
set_option maxRecDepth 100000 in
theorem cl_127 : ∀ x ∈ ([(0, 12, 125, 0)] : List (Nat × Nat × Nat × Nat)), COK 12 101 x := List.forall_mem_cons.mpr ⟨⟨rfl, mem_5 124 rfl, mem_5 126 rfl, mem_p 25 rfl⟩, fun _ h => absurd h List.not_mem_nil⟩
set_option maxRecDepth 100000 in
theorem cl_128 : ∀ x ∈ ([(0, 12, 120, 0)] : List (Nat × Nat × Nat × Nat)), COK 12 104 x := List.forall_mem_cons.mpr ⟨⟨rfl, mem_5 100 rfl, mem_5 102 rfl, mem_p 20 rfl⟩, fun _ h => absurd h List.not_mem_nil⟩
set_option maxRecDepth 100000 in
theorem cl_129 : ∀ x ∈ ([(0, 12, 128, 0)] : List (Nat × Nat × Nat × Nat)), COK 12 110 x := List.forall_mem_cons.mpr ⟨⟨rfl, mem_5 96 rfl, mem_5 98 rfl, mem_p 19 rfl⟩, fun _ h => absurd h List.not_mem_nil⟩
set_option maxRecDepth 100000 in
theorem cl_130 : ∀ x ∈ ([(0, 12, 127, 0)] : List (Nat × Nat × Nat × Nat)), COK 12 118 x := List.forall_mem_cons.mpr ⟨⟨rfl, mem_5 116 rfl, mem_5 118 rfl, mem_p 23 rfl⟩, fun _ h => absurd h List.not_mem_nil⟩
set_option maxRecDepth 100000 in
theorem cl_131 : ∀ x ∈ ([(0, 12, 129, 0)] : List (Nat × Nat × Nat × Nat)), COK 12 123 x := List.forall_mem_cons.mpr ⟨⟨rfl, mem_5 87 rfl, mem_5 89 rfl, mem_p 17 rfl⟩, fun _ h => absurd h List.not_mem_nil⟩
set_option maxRecDepth 100000 in
theorem cl_132 : ∀ x ∈ ([(0, 12, 131, 0)] : List (Nat × Nat × Nat × Nat)), COK 12 126 x := List.forall_mem_cons.mpr ⟨⟨rfl, mem_5 179 rfl, mem_5 181 rfl, mem_p 35 rfl⟩, fun _ h => absurd h List.not_mem_nil⟩
set_option maxRecDepth 100000 in
theorem cl_133 : ∀ x ∈ ([(0, 12, 133, 0)] : List (Nat × Nat × Nat × Nat)), COK 12 130 x := List.forall_mem_cons.mpr ⟨⟨rfl, mem_5 164 rfl, mem_5 166 rfl, mem_p 32 rfl⟩, fun _ h => absurd h List.not_mem_nil⟩
set_option maxRecDepth 100000 in
theorem cl_134 : ∀ x ∈ ([(2, 0, 134, 0)] : List (Nat × Nat × Nat × Nat)), COK 12 134 x := List.forall_mem_cons.mpr ⟨⟨mem_5 176 rfl, mem_5 177 rfl⟩, fun _ h => absurd h List.not_mem_nil⟩
set_option maxRecDepth 100000 in
theorem cl_135 : ∀ x ∈ ([(0, 12, 135, 0)] : List (Nat × Nat × Nat × Nat)), COK 12 137 x := List.forall_mem_cons.mpr ⟨⟨rfl, mem_5 172 rfl, mem_5 174 rfl, mem_p 34 rfl⟩, fun _ h => absurd h List.not_mem_nil⟩
set_option maxRecDepth 100000 in
theorem cl_136 : ∀ x ∈ ([(0, 12, 136, 0)] : List (Nat × Nat × Nat × Nat)), COK 12 140 x := List.forall_mem_cons.mpr ⟨⟨rfl, mem_5 183 rfl, mem_5 185 rfl, mem_p 36 rfl⟩, fun _ h => absurd h List.not_mem_nil⟩
set_option maxRecDepth 100000 in
theorem cl_137 : ∀ x ∈ ([(0, 12, 138, 0)] : List (Nat × Nat × Nat × Nat)), COK 12 143 x := List.forall_mem_cons.mpr ⟨⟨rfl, mem_5 160 rfl, mem_5 162 rfl, mem_p 31 rfl⟩, fun _ h => absurd h List.not_mem_nil⟩
set_option maxRecDepth 100000 in
theorem cl_138 : ∀ x ∈ ([(0, 12, 139, 0)] : List (Nat × Nat × Nat × Nat)), COK 12 147 x := List.forall_mem_cons.mpr ⟨⟨rfl, mem_5 156 rfl, mem_5 158 rfl, mem_p 30 rfl⟩, fun _ h => absurd h List.not_mem_nil⟩
set_option maxRecDepth 100000 in
theorem cl_139 : ∀ x ∈ ([(0, 12, 137, 0)] : List (Nat × Nat × Nat × Nat)), COK 12 150 x := List.forall_mem_cons.mpr ⟨⟨rfl, mem_5 168 rfl, mem_5 170 rfl, mem_p 33 rfl⟩, fun _ h => absurd h List.not_mem_nil⟩
set_option maxRecDepth 100000 in
theorem cl_140 : ∀ x ∈ ([(0, 12, 114, 0)] : List (Nat × Nat × Nat × Nat)), COK 12 153 x := List.forall_mem_cons.mpr ⟨⟨rfl, mem_5 151 rfl, mem_5 153 rfl, mem_p 29 rfl⟩, fun _ h => absurd h List.not_mem_nil⟩
set_option maxRecDepth 100000 in
theorem cl_141 : ∀ x ∈ ([(0, 12, 141, 0)] : List (Nat × Nat × Nat × Nat)), COK 12 157 x := List.forall_mem_cons.mpr ⟨⟨rfl, mem_5 191 rfl, mem_5 193 rfl, mem_p 37 rfl⟩, fun _ h => absurd h List.not_mem_nil⟩
set_option maxRecDepth 100000 in
theorem cl_142 : ∀ x ∈ ([(0, 12, 150, 0)] : List (Nat × Nat × Nat × Nat)), COK 12 160 x := List.forall_mem_cons.mpr ⟨⟨rfl, mem_5 227 rfl, mem_5 229 rfl, mem_p 42 rfl⟩, fun _ h => absurd h List.not_mem_nil⟩
set_option maxRecDepth 100000 in
theorem cl_143 : ∀ x ∈ ([(0, 12, 152, 0)] : List (Nat × Nat × Nat × Nat)), COK 12 164 x := List.forall_mem_cons.mpr ⟨⟨rfl, mem_5 236 rfl, mem_5 238 rfl, mem_p 44 rfl⟩, fun _ h => absurd h List.not_mem_nil⟩
set_option maxRecDepth 100000 in
theorem cl_144 : ∀ x ∈ ([(0, 12, 148, 0)] : List (Nat × Nat × Nat × Nat)), COK 12 167 x := List.forall_mem_cons.mpr ⟨⟨rfl, mem_5 211 rfl, mem_5 213 rfl, mem_p 38 rfl⟩, fun _ h => absurd h List.not_mem_nil⟩
set_option maxRecDepth 100000 in
theorem cl_145 : ∀ x ∈ ([(0, 12, 149, 0)] : List (Nat × Nat × Nat × Nat)), COK 12 170 x := List.forall_mem_cons.mpr ⟨⟨rfl, mem_5 215 rfl, mem_5 217 rfl, mem_p 39 rfl⟩, fun _ h => absurd h List.not_mem_nil⟩
set_option maxRecDepth 100000 in
theorem cl_146 : ∀ x ∈ ([(0, 12, 140, 0)] : List (Nat × Nat × Nat × Nat)), COK 12 173 x := List.forall_mem_cons.mpr ⟨⟨rfl, mem_5 219 rfl, mem_5 221 rfl, mem_p 40 rfl⟩, fun _ h => absurd h List.not_mem_nil⟩
set_option maxRecDepth 100000 in
theorem cl_147 : ∀ x ∈ ([(0, 12, 151, 0)] : List (Nat × Nat × Nat × Nat)), COK 12 176 x := List.forall_mem_cons.mpr ⟨⟨rfl, mem_5 223 rfl, mem_5 225 rfl, mem_p 41 rfl⟩, fun _ h => absurd h List.not_mem_nil⟩
set_option maxRecDepth 100000 in
theorem cl_148 : ∀ x ∈ ([(0, 12, 153, 0)] : List (Nat × Nat × Nat × Nat)), COK 12 179 x := List.forall_mem_cons.mpr ⟨⟨rfl, mem_5 231 rfl, mem_5 233 rfl, mem_p 43 rfl⟩, fun _ h => absurd h List.not_mem_nil⟩
set_option maxRecDepth 100000 in
theorem cl_149 : ∀ x ∈ ([(0, 12, 132, 0)] : List (Nat × Nat × Nat × Nat)), COK 12 182 x := List.forall_mem_cons.mpr ⟨⟨rfl, mem_6 12 rfl, mem_6 14 rfl, mem_p 47 rfl⟩, fun _ h => absurd h List.not_mem_nil⟩
set_option maxRecDepth 100000 in
theorem cl_150 : ∀ x ∈ ([(0, 12, 155, 0)] : List (Nat × Nat × Nat × Nat)), COK 12 185 x := List.forall_mem_cons.mpr ⟨⟨rfl, mem_6 8 rfl, mem_6 10 rfl, mem_p 46 rfl⟩, fun _ h => absurd h List.not_mem_nil⟩
set_option maxRecDepth 100000 in
theorem cl_151 : ∀ x ∈ ([(0, 12, 156, 0)] : List (Nat × Nat × Nat × Nat)), COK 12 189 x := List.forall_mem_cons.mpr ⟨⟨rfl, mem_6 4 rfl, mem_6 6 rfl, mem_p 45 rfl⟩, fun _ h => absurd h List.not_mem_nil⟩
set_option maxRecDepth 100000 in
theorem cl_152 : ∀ x ∈ ([(0, 12, 157, 0)] : List (Nat × Nat × Nat × Nat)), COK 12 192 x := List.forall_mem_cons.mpr ⟨⟨rfl, mem_6 16 rfl, mem_6 18 rfl, mem_p 48 rfl⟩, fun _ h => absurd h List.not_mem_nil⟩
set_option maxRecDepth 100000 in
theorem cl_153 : ∀ x ∈ ([(0, 12, 115, 0)] : List (Nat × Nat × Nat × Nat)), COK 12 195 x := List.forall_mem_cons.mpr ⟨⟨rfl, mem_6 29 rfl, mem_6 31 rfl, mem_p 49 rfl⟩, fun _ h => absurd h List.not_mem_nil⟩
set_option maxRecDepth 100000 in
theorem cl_154 : ∀ x ∈ ([(0, 12, 160, 0)] : List (Nat × Nat × Nat × Nat)), COK 12 198 x := List.forall_mem_cons.mpr ⟨⟨rfl, mem_6 33 rfl, mem_6 35 rfl, mem_p 50 rfl⟩, fun _ h => absurd h List.not_mem_nil⟩
set_option maxRecDepth 100000 in
theorem cl_155 : ∀ x ∈ ([(0, 12, 116, 0)] : List (Nat × Nat × Nat × Nat)), COK 12 201 x := List.forall_mem_cons.mpr ⟨⟨rfl, mem_6 37 rfl, mem_6 39 rfl, mem_p 51 rfl⟩, fun _ h => absurd h List.not_mem_nil⟩
set_option maxRecDepth 100000 in
theorem cl_156 : ∀ x ∈ ([(0, 12, 163, 0)] : List (Nat × Nat × Nat × Nat)), COK 12 204 x := List.forall_mem_cons.mpr ⟨⟨rfl, mem_6 49 rfl, mem_6 51 rfl, mem_p 52 rfl⟩, fun _ h => absurd h List.not_mem_nil⟩
set_option maxRecDepth 100000 in
theorem cl_157 : ∀ x ∈ ([(0, 12, 164, 0)] : List (Nat × Nat × Nat × Nat)), COK 12 207 x := List.forall_mem_cons.mpr ⟨⟨rfl, mem_6 53 rfl, mem_6 55 rfl, mem_p 53 rfl⟩, fun _ h => absurd h List.not_mem_nil⟩
set_option maxRecDepth 100000 in
theorem cl_158 : ∀ x ∈ ([(0, 12, 168, 0)] : List (Nat × Nat × Nat × Nat)), COK 12 211 x := List.forall_mem_cons.mpr ⟨⟨rfl, mem_6 73 rfl, mem_6 75 rfl, mem_p 55 rfl⟩, fun _ h => absurd h List.not_mem_nil⟩
set_option maxRecDepth 100000 in
theorem cl_159 : ∀ x ∈ ([(0, 12, 169, 0)] : List (Nat × Nat × Nat × Nat)), COK 12 214 x := List.forall_mem_cons.mpr ⟨⟨rfl, mem_6 69 rfl, mem_6 71 rfl, mem_p 54 rfl⟩, fun _ h => absurd h List.not_mem_nil⟩
set_option maxRecDepth 100000 in
theorem cl_160 : ∀ x ∈ ([(2, 0, 172, 0)] : List (Nat × Nat × Nat × Nat)), COK 12 222 x := List.forall_mem_cons.mpr ⟨⟨mem_6 87 rfl, mem_6 88 rfl⟩, fun _ h => absurd h List.not_mem_nil⟩
set_option maxRecDepth 100000 in
theorem cl_161 : ∀ x ∈ ([(0, 12, 176, 0)] : List (Nat × Nat × Nat × Nat)), COK 12 226 x := List.forall_mem_cons.mpr ⟨⟨rfl, mem_6 102 rfl, mem_6 104 rfl, mem_p 56 rfl⟩, fun _ h => absurd h List.not_mem_nil⟩
set_option maxRecDepth 100000 in
theorem cl_162 : ∀ x ∈ ([(0, 12, 180, 0)] : List (Nat × Nat × Nat × Nat)), COK 12 233 x := List.forall_mem_cons.mpr ⟨⟨rfl, mem_6 125 rfl, mem_6 127 rfl, mem_p 58 rfl⟩, fun _ h => absurd h List.not_mem_nil⟩
set_option maxRecDepth 100000 in
theorem cl_163 : ∀ x ∈ ([(2, 0, 181, 0)] : List (Nat × Nat × Nat × Nat)), COK 12 242 x := List.forall_mem_cons.mpr ⟨⟨mem_6 122 rfl, mem_6 123 rfl⟩, fun _ h => absurd h List.not_mem_nil⟩
set_option maxRecDepth 100000 in
theorem cl_164 : ∀ x ∈ ([(0, 12, 182, 0)] : List (Nat × Nat × Nat × Nat)), COK 12 246 x := List.forall_mem_cons.mpr ⟨⟨rfl, mem_6 129 rfl, mem_6 131 rfl, mem_p 59 rfl⟩, fun _ h => absurd h List.not_mem_nil⟩
set_option maxRecDepth 100000 in
theorem cl_165 : ∀ x ∈ ([(0, 12, 183, 0)] : List (Nat × Nat × Nat × Nat)), COK 12 249 x := List.forall_mem_cons.mpr ⟨⟨rfl, mem_6 118 rfl, mem_6 120 rfl, mem_p 57 rfl⟩, fun _ h => absurd h List.not_mem_nil⟩
set_option maxRecDepth 100000 in
theorem cl_166 : ∀ x ∈ ([(0, 12, 184, 0)] : List (Nat × Nat × Nat × Nat)), COK 12 255 x := List.forall_mem_cons.mpr ⟨⟨rfl, mem_6 137 rfl, mem_6 139 rfl, mem_p 61 rfl⟩, fun _ h => absurd h List.not_mem_nil⟩
set_option maxRecDepth 100000 in
theorem cl_167 : ∀ x ∈ ([(0, 12, 185, 0)] : List (Nat × Nat × Nat × Nat)), COK 12 258 x := List.forall_mem_cons.mpr ⟨⟨rfl, mem_6 133 rfl, mem_6 135 rfl, mem_p 60 rfl⟩, fun _ h => absurd h List.not_mem_nil⟩
set_option maxRecDepth 100000 in
theorem cl_168 : ∀ x ∈ ([(0, 12, 186, 0)] : List (Nat × Nat × Nat × Nat)), COK 12 261 x := List.forall_mem_cons.mpr ⟨⟨rfl, mem_6 145 rfl, mem_6 147 rfl, mem_p 63 rfl⟩, fun _ h => absurd h List.not_mem_nil⟩
set_option maxRecDepth 100000 in
theorem cl_169 : ∀ x ∈ ([(0, 12, 187, 0)] : List (Nat × Nat × Nat × Nat)), COK 12 264 x := List.forall_mem_cons.mpr ⟨⟨rfl, mem_6 141 rfl, mem_6 143 rfl, mem_p 62 rfl⟩, fun _ h => absurd h List.not_mem_nil⟩
set_option maxRecDepth 100000 in
theorem cl_170 : ∀ x ∈ ([(3, 0, 73, 0)] : List (Nat × Nat × Nat × Nat)), COK 13 9 x := List.forall_mem_cons.mpr ⟨⟨mem_1 24 rfl, mem_1 25 rfl, rfl, rfl⟩, fun _ h => absurd h List.not_mem_nil⟩
set_option maxRecDepth 100000 in
theorem cl_171 : ∀ x ∈ ([(3, 0, 112, 0)] : List (Nat × Nat × Nat × Nat)), COK 13 12 x := List.forall_mem_cons.mpr ⟨⟨mem_5 11 rfl, mem_5 12 rfl, rfl, rfl⟩, fun _ h => absurd h List.not_mem_nil⟩
set_option maxRecDepth 100000 in
theorem cl_172 : ∀ x ∈ ([(0, 11, 74, 0)] : List (Nat × Nat × Nat × Nat)), COK 13 13 x := List.forall_mem_cons.mpr ⟨⟨rfl, mem_2 47 rfl, mem_2 48 rfl, mem_2 49 rfl⟩, fun _ h => absurd h List.not_mem_nil⟩
set_option maxRecDepth 100000 in
theorem cl_173 : ∀ x ∈ ([(0, 12, 117, 0)] : List (Nat × Nat × Nat × Nat)), COK 13 17 x := List.forall_mem_cons.mpr ⟨⟨rfl, mem_5 76 rfl, mem_5 77 rfl, mem_5 78 rfl⟩, fun _ h => absurd h List.not_mem_nil⟩
set_option maxRecDepth 100000 in
theorem cl_174 : ∀ x ∈ ([(0, 11, 75, 0)] : List (Nat × Nat × Nat × Nat)), COK 13 18 x := List.forall_mem_cons.mpr ⟨⟨rfl, mem_2 51 rfl, mem_2 52 rfl, mem_2 53 rfl⟩, fun _ h => absurd h List.not_mem_nil⟩
set_option maxRecDepth 100000 in
theorem cl_175 : ∀ x ∈ ([(0, 12, 130, 0)] : List (Nat × Nat × Nat × Nat)), COK 13 22 x := List.forall_mem_cons.mpr ⟨⟨rfl, mem_5 83 rfl, mem_5 84 rfl, mem_5 85 rfl⟩, fun _ h => absurd h List.not_mem_nil⟩
set_option maxRecDepth 100000 in
theorem cl_176 : ∀ x ∈ ([(0, 11, 76, 0)] : List (Nat × Nat × Nat × Nat)), COK 13 23 x := List.forall_mem_cons.mpr ⟨⟨rfl, mem_2 228 rfl, mem_2 229 rfl, mem_2 230 rfl⟩, fun _ h => absurd h List.not_mem_nil⟩
set_option maxRecDepth 100000 in
theorem cl_177 : ∀ x ∈ ([(0, 12, 142, 0)] : List (Nat × Nat × Nat × Nat)), COK 13 27 x := List.forall_mem_cons.mpr ⟨⟨rfl, mem_5 143 rfl, mem_5 144 rfl, mem_5 145 rfl⟩, fun _ h => absurd h List.not_mem_nil⟩
set_option maxRecDepth 100000 in
theorem cl_178 : ∀ x ∈ ([(0, 11, 77, 0)] : List (Nat × Nat × Nat × Nat)), COK 13 28 x := List.forall_mem_cons.mpr ⟨⟨rfl, mem_3 99 rfl, mem_3 100 rfl, mem_3 101 rfl⟩, fun _ h => absurd h List.not_mem_nil⟩
set_option maxRecDepth 100000 in
theorem cl_179 : ∀ x ∈ ([(0, 12, 143, 0)] : List (Nat × Nat × Nat × Nat)), COK 13 31 x := List.forall_mem_cons.mpr ⟨⟨rfl, mem_5 147 rfl, mem_5 148 rfl, mem_5 149 rfl⟩, fun _ h => absurd h List.not_mem_nil⟩
set_option maxRecDepth 100000 in
theorem cl_180 : ∀ x ∈ ([(0, 11, 78, 0)] : List (Nat × Nat × Nat × Nat)), COK 13 32 x := List.forall_mem_cons.mpr ⟨⟨rfl, mem_3 168 rfl, mem_3 169 rfl, mem_3 170 rfl⟩, fun _ h => absurd h List.not_mem_nil⟩
set_option maxRecDepth 100000 in
theorem cl_181 : ∀ x ∈ ([(0, 12, 144, 0)] : List (Nat × Nat × Nat × Nat)), COK 13 36 x := List.forall_mem_cons.mpr ⟨⟨rfl, mem_5 187 rfl, mem_5 188 rfl, mem_5 189 rfl⟩, fun _ h => absurd h List.not_mem_nil⟩
set_option maxRecDepth 100000 in
theorem cl_182 : ∀ x ∈ ([(0, 11, 79, 0)] : List (Nat × Nat × Nat × Nat)), COK 13 37 x := List.forall_mem_cons.mpr ⟨⟨rfl, mem_3 172 rfl, mem_3 173 rfl, mem_3 174 rfl⟩, fun _ h => absurd h List.not_mem_nil⟩
set_option maxRecDepth 100000 in
theorem cl_183 : ∀ x ∈ ([(0, 12, 145, 0)] : List (Nat × Nat × Nat × Nat)), COK 13 41 x := List.forall_mem_cons.mpr ⟨⟨rfl, mem_5 195 rfl, mem_5 196 rfl, mem_5 197 rfl⟩, fun _ h => absurd h List.not_mem_nil⟩
set_option maxRecDepth 100000 in
theorem cl_184 : ∀ x ∈ ([(0, 11, 80, 0)] : List (Nat × Nat × Nat × Nat)), COK 13 42 x := List.forall_mem_cons.mpr ⟨⟨rfl, mem_3 179 rfl, mem_3 180 rfl, mem_3 181 rfl⟩, fun _ h => absurd h List.not_mem_nil⟩
set_option maxRecDepth 100000 in
theorem cl_185 : ∀ x ∈ ([(0, 12, 146, 0)] : List (Nat × Nat × Nat × Nat)), COK 13 46 x := List.forall_mem_cons.mpr ⟨⟨rfl, mem_5 199 rfl, mem_5 200 rfl, mem_5 201 rfl⟩, fun _ h => absurd h List.not_mem_nil⟩
set_option maxRecDepth 100000 in
theorem cl_186 : ∀ x ∈ ([(0, 11, 81, 0)] : List (Nat × Nat × Nat × Nat)), COK 13 47 x := List.forall_mem_cons.mpr ⟨⟨rfl, mem_3 183 rfl, mem_3 184 rfl, mem_3 185 rfl⟩, fun _ h => absurd h List.not_mem_nil⟩
set_option maxRecDepth 100000 in
theorem cl_187 : ∀ x ∈ ([(0, 12, 147, 0)] : List (Nat × Nat × Nat × Nat)), COK 13 50 x := List.forall_mem_cons.mpr ⟨⟨rfl, mem_5 203 rfl, mem_5 204 rfl, mem_5 205 rfl⟩, fun _ h => absurd h List.not_mem_nil⟩
set_option maxRecDepth 100000 in
theorem cl_188 : ∀ x ∈ ([(0, 11, 82, 0)] : List (Nat × Nat × Nat × Nat)), COK 13 51 x := List.forall_mem_cons.mpr ⟨⟨rfl, mem_3 187 rfl, mem_3 188 rfl, mem_3 189 rfl⟩, fun _ h => absurd h List.not_mem_nil⟩
set_option maxRecDepth 100000 in
theorem cl_189 : ∀ x ∈ ([(0, 12, 154, 0)] : List (Nat × Nat × Nat × Nat)), COK 13 54 x := List.forall_mem_cons.mpr ⟨⟨rfl, mem_5 207 rfl, mem_5 208 rfl, mem_5 209 rfl⟩, fun _ h => absurd h List.not_mem_nil⟩
set_option maxRecDepth 100000 in
theorem cl_190 : ∀ x ∈ ([(0, 11, 83, 0)] : List (Nat × Nat × Nat × Nat)), COK 13 55 x := List.forall_mem_cons.mpr ⟨⟨rfl, mem_3 216 rfl, mem_3 217 rfl, mem_3 218 rfl⟩, fun _ h => absurd h List.not_mem_nil⟩
set_option maxRecDepth 100000 in
theorem cl_191 : ∀ x ∈ ([(0, 12, 158, 0)] : List (Nat × Nat × Nat × Nat)), COK 13 58 x := List.forall_mem_cons.mpr ⟨⟨rfl, mem_6 0 rfl, mem_6 1 rfl, mem_6 2 rfl⟩, fun _ h => absurd h List.not_mem_nil⟩
set_option maxRecDepth 100000 in
theorem cl_192 : ∀ x ∈ ([(0, 11, 84, 0)] : List (Nat × Nat × Nat × Nat)), COK 13 59 x := List.forall_mem_cons.mpr ⟨⟨rfl, mem_3 230 rfl, mem_3 231 rfl, mem_3 232 rfl⟩, fun _ h => absurd h List.not_mem_nil⟩
set_option maxRecDepth 100000 in
theorem cl_193 : ∀ x ∈ ([(0, 12, 159, 0)] : List (Nat × Nat × Nat × Nat)), COK 13 62 x := List.forall_mem_cons.mpr ⟨⟨rfl, mem_6 21 rfl, mem_6 22 rfl, mem_6 23 rfl⟩, fun _ h => absurd h List.not_mem_nil⟩
set_option maxRecDepth 100000 in
theorem cl_194 : ∀ x ∈ ([(0, 11, 85, 0)] : List (Nat × Nat × Nat × Nat)), COK 13 63 x := List.forall_mem_cons.mpr ⟨⟨rfl, mem_3 234 rfl, mem_3 235 rfl, mem_3 236 rfl⟩, fun _ h => absurd h List.not_mem_nil⟩
set_option maxRecDepth 100000 in
theorem cl_195 : ∀ x ∈ ([(0, 12, 161, 0)] : List (Nat × Nat × Nat × Nat)), COK 13 66 x := List.forall_mem_cons.mpr ⟨⟨rfl, mem_6 25 rfl, mem_6 26 rfl, mem_6 27 rfl⟩, fun _ h => absurd h List.not_mem_nil⟩
set_option maxRecDepth 100000 in
theorem cl_196 : ∀ x ∈ ([(0, 11, 86, 0)] : List (Nat × Nat × Nat × Nat)), COK 13 67 x := List.forall_mem_cons.mpr ⟨⟨rfl, mem_4 14 rfl, mem_4 15 rfl, mem_4 16 rfl⟩, fun _ h => absurd h List.not_mem_nil⟩
set_option maxRecDepth 100000 in
theorem cl_197 : ∀ x ∈ ([(0, 12, 162, 0)] : List (Nat × Nat × Nat × Nat)), COK 13 70 x := List.forall_mem_cons.mpr ⟨⟨rfl, mem_6 41 rfl, mem_6 42 rfl, mem_6 43 rfl⟩, fun _ h => absurd h List.not_mem_nil⟩
set_option maxRecDepth 100000 in
theorem cl_198 : ∀ x ∈ ([(0, 11, 87, 0)] : List (Nat × Nat × Nat × Nat)), COK 13 71 x := List.forall_mem_cons.mpr ⟨⟨rfl, mem_4 23 rfl, mem_4 24 rfl, mem_4 25 rfl⟩, fun _ h => absurd h List.not_mem_nil⟩
set_option maxRecDepth 100000 in
theorem cl_199 : ∀ x ∈ ([(0, 12, 165, 0)] : List (Nat × Nat × Nat × Nat)), COK 13 74 x := List.forall_mem_cons.mpr ⟨⟨rfl, mem_6 45 rfl, mem_6 46 rfl, mem_6 47 rfl⟩, fun _ h => absurd h List.not_mem_nil⟩
set_option maxRecDepth 100000 in
theorem cl_200 : ∀ x ∈ ([(0, 11, 88, 0)] : List (Nat × Nat × Nat × Nat)), COK 13 75 x := List.forall_mem_cons.mpr ⟨⟨rfl, mem_4 47 rfl, mem_4 48 rfl, mem_4 49 rfl⟩, fun _ h => absurd h List.not_mem_nil⟩
set_option maxRecDepth 100000 in
theorem cl_201 : ∀ x ∈ ([(0, 12, 166, 0)] : List (Nat × Nat × Nat × Nat)), COK 13 78 x := List.forall_mem_cons.mpr ⟨⟨rfl, mem_6 57 rfl, mem_6 58 rfl, mem_6 59 rfl⟩, fun _ h => absurd h List.not_mem_nil⟩
set_option maxRecDepth 100000 in
theorem cl_202 : ∀ x ∈ ([(0, 11, 89, 0)] : List (Nat × Nat × Nat × Nat)), COK 13 79 x := List.forall_mem_cons.mpr ⟨⟨rfl, mem_4 52 rfl, mem_4 53 rfl, mem_4 54 rfl⟩, fun _ h => absurd h List.not_mem_nil⟩
set_option maxRecDepth 100000 in
theorem cl_203 : ∀ x ∈ ([(0, 12, 167, 0)] : List (Nat × Nat × Nat × Nat)), COK 13 82 x := List.forall_mem_cons.mpr ⟨⟨rfl, mem_6 61 rfl, mem_6 62 rfl, mem_6 63 rfl⟩, fun _ h => absurd h List.not_mem_nil⟩
set_option maxRecDepth 100000 in
theorem cl_204 : ∀ x ∈ ([(0, 11, 90, 0)] : List (Nat × Nat × Nat × Nat)), COK 13 83 x := List.forall_mem_cons.mpr ⟨⟨rfl, mem_4 56 rfl, mem_4 57 rfl, mem_4 58 rfl⟩, fun _ h => absurd h List.not_mem_nil⟩
set_option maxRecDepth 100000 in
theorem cl_205 : ∀ x ∈ ([(0, 12, 170, 0)] : List (Nat × Nat × Nat × Nat)), COK 13 86 x := List.forall_mem_cons.mpr ⟨⟨rfl, mem_6 65 rfl, mem_6 66 rfl, mem_6 67 rfl⟩, fun _ h => absurd h List.not_mem_nil⟩
set_option maxRecDepth 100000 in
theorem cl_206 : ∀ x ∈ ([(0, 11, 91, 0)] : List (Nat × Nat × Nat × Nat)), COK 13 87 x := List.forall_mem_cons.mpr ⟨⟨rfl, mem_4 78 rfl, mem_4 79 rfl, mem_4 80 rfl⟩, fun _ h => absurd h List.not_mem_nil⟩
set_option maxRecDepth 100000 in
theorem cl_207 : ∀ x ∈ ([(0, 12, 171, 0)] : List (Nat × Nat × Nat × Nat)), COK 13 90 x := List.forall_mem_cons.mpr ⟨⟨rfl, mem_6 77 rfl, mem_6 78 rfl, mem_6 79 rfl⟩, fun _ h => absurd h List.not_mem_nil⟩
set_option maxRecDepth 100000 in
theorem cl_208 : ∀ x ∈ ([(0, 11, 92, 0)] : List (Nat × Nat × Nat × Nat)), COK 13 91 x := List.forall_mem_cons.mpr ⟨⟨rfl, mem_4 86 rfl, mem_4 87 rfl, mem_4 88 rfl⟩, fun _ h => absurd h List.not_mem_nil⟩
set_option maxRecDepth 100000 in
theorem cl_209 : ∀ x ∈ ([(0, 12, 173, 0)] : List (Nat × Nat × Nat × Nat)), COK 13 95 x := List.forall_mem_cons.mpr ⟨⟨rfl, mem_6 81 rfl, mem_6 82 rfl, mem_6 83 rfl⟩, fun _ h => absurd h List.not_mem_nil⟩
set_option maxRecDepth 100000 in
theorem cl_210 : ∀ x ∈ ([(0, 11, 93, 0)] : List (Nat × Nat × Nat × Nat)), COK 13 96 x := List.forall_mem_cons.mpr ⟨⟨rfl, mem_4 100 rfl, mem_4 101 rfl, mem_4 102 rfl⟩, fun _ h => absurd h List.not_mem_nil⟩
set_option maxRecDepth 100000 in
theorem cl_211 : ∀ x ∈ ([(0, 12, 174, 0)] : List (Nat × Nat × Nat × Nat)), COK 13 100 x := List.forall_mem_cons.mpr ⟨⟨rfl, mem_6 90 rfl, mem_6 91 rfl, mem_6 92 rfl⟩, fun _ h => absurd h List.not_mem_nil⟩
set_option maxRecDepth 100000 in
theorem cl_212 : ∀ x ∈ ([(0, 11, 94, 0)] : List (Nat × Nat × Nat × Nat)), COK 13 101 x := List.forall_mem_cons.mpr ⟨⟨rfl, mem_4 106 rfl, mem_4 107 rfl, mem_4 108 rfl⟩, fun _ h => absurd h List.not_mem_nil⟩
set_option maxRecDepth 100000 in
theorem cl_213 : ∀ x ∈ ([(0, 12, 175, 0)] : List (Nat × Nat × Nat × Nat)), COK 13 104 x := List.forall_mem_cons.mpr ⟨⟨rfl, mem_6 94 rfl, mem_6 95 rfl, mem_6 96 rfl⟩, fun _ h => absurd h List.not_mem_nil⟩
set_option maxRecDepth 100000 in
theorem cl_214 : ∀ x ∈ ([(0, 11, 95, 0)] : List (Nat × Nat × Nat × Nat)), COK 13 105 x := List.forall_mem_cons.mpr ⟨⟨rfl, mem_4 110 rfl, mem_4 111 rfl, mem_4 112 rfl⟩, fun _ h => absurd h List.not_mem_nil⟩
set_option maxRecDepth 100000 in
theorem cl_215 : ∀ x ∈ ([(0, 12, 177, 0)] : List (Nat × Nat × Nat × Nat)), COK 13 108 x := List.forall_mem_cons.mpr ⟨⟨rfl, mem_6 98 rfl, mem_6 99 rfl, mem_6 100 rfl⟩, fun _ h => absurd h List.not_mem_nil⟩
set_option maxRecDepth 100000 in
theorem cl_216 : ∀ x ∈ ([(0, 11, 96, 0)] : List (Nat × Nat × Nat × Nat)), COK 13 109 x := List.forall_mem_cons.mpr ⟨⟨rfl, mem_4 118 rfl, mem_4 119 rfl, mem_4 120 rfl⟩, fun _ h => absurd h List.not_mem_nil⟩
set_option maxRecDepth 100000 in
theorem cl_217 : ∀ x ∈ ([(0, 12, 178, 0)] : List (Nat × Nat × Nat × Nat)), COK 13 112 x := List.forall_mem_cons.mpr ⟨⟨rfl, mem_6 106 rfl, mem_6 107 rfl, mem_6 108 rfl⟩, fun _ h => absurd h List.not_mem_nil⟩
set_option maxRecDepth 100000 in
theorem cl_218 : ∀ x ∈ ([(0, 11, 97, 0)] : List (Nat × Nat × Nat × Nat)), COK 13 113 x := List.forall_mem_cons.mpr ⟨⟨rfl, mem_4 122 rfl, mem_4 123 rfl, mem_4 124 rfl⟩, fun _ h => absurd h List.not_mem_nil⟩
set_option maxRecDepth 100000 in
theorem cl_219 : ∀ x ∈ ([(0, 12, 179, 0)] : List (Nat × Nat × Nat × Nat)), COK 13 116 x := List.forall_mem_cons.mpr ⟨⟨rfl, mem_6 110 rfl, mem_6 111 rfl, mem_6 112 rfl⟩, fun _ h => absurd h List.not_mem_nil⟩
set_option maxRecDepth 100000 in
theorem cl_220 : ∀ x ∈ ([(0, 11, 98, 0)] : List (Nat × Nat × Nat × Nat)), COK 13 117 x := List.forall_mem_cons.mpr ⟨⟨rfl, mem_4 126 rfl, mem_4 127 rfl, mem_4 128 rfl⟩, fun _ h => absurd h List.not_mem_nil⟩
set_option maxRecDepth 100000 in
theorem cl_221 : ∀ x ∈ ([(0, 12, 188, 0)] : List (Nat × Nat × Nat × Nat)), COK 13 120 x := List.forall_mem_cons.mpr ⟨⟨rfl, mem_6 114 rfl, mem_6 115 rfl, mem_6 116 rfl⟩, fun _ h => absurd h List.not_mem_nil⟩
set_option maxRecDepth 100000 in
theorem cl_222 : ∀ x ∈ ([(0, 11, 99, 0)] : List (Nat × Nat × Nat × Nat)), COK 13 121 x := List.forall_mem_cons.mpr ⟨⟨rfl, mem_4 218 rfl, mem_4 219 rfl, mem_4 220 rfl⟩, fun _ h => absurd h List.not_mem_nil⟩
set_option maxRecDepth 100000 in
theorem cl_223 : ∀ x ∈ ([(0, 12, 189, 0)] : List (Nat × Nat × Nat × Nat)), COK 13 124 x := List.forall_mem_cons.mpr ⟨⟨rfl, mem_6 149 rfl, mem_6 150 rfl, mem_6 151 rfl⟩, fun _ h => absurd h List.not_mem_nil⟩
set_option maxRecDepth 100000 in
theorem cl_224 : ∀ x ∈ ([(0, 11, 100, 0)] : List (Nat × Nat × Nat × Nat)), COK 13 125 x := List.forall_mem_cons.mpr ⟨⟨rfl, mem_4 222 rfl, mem_4 223 rfl, mem_4 224 rfl⟩, fun _ h => absurd h List.not_mem_nil⟩
set_option maxRecDepth 100000 in
theorem cl_225 : ∀ x ∈ ([(0, 12, 190, 0)] : List (Nat × Nat × Nat × Nat)), COK 13 128 x := List.forall_mem_cons.mpr ⟨⟨rfl, mem_6 153 rfl, mem_6 154 rfl, mem_6 155 rfl⟩, fun _ h => absurd h List.not_mem_nil⟩
set_option maxRecDepth 100000 in
theorem cl_226 : ∀ x ∈ ([(0, 11, 101, 0)] : List (Nat × Nat × Nat × Nat)), COK 13 129 x := List.forall_mem_cons.mpr ⟨⟨rfl, mem_4 231 rfl, mem_4 232 rfl, mem_4 233 rfl⟩, fun _ h => absurd h List.not_mem_nil⟩
set_option maxRecDepth 100000 in
theorem cl_227 : ∀ x ∈ ([(0, 12, 191, 0)] : List (Nat × Nat × Nat × Nat)), COK 13 132 x := List.forall_mem_cons.mpr ⟨⟨rfl, mem_6 157 rfl, mem_6 158 rfl, mem_6 159 rfl⟩, fun _ h => absurd h List.not_mem_nil⟩
set_option maxRecDepth 100000 in
theorem cl_228 : ∀ x ∈ ([(0, 11, 102, 0)] : List (Nat × Nat × Nat × Nat)), COK 13 133 x := List.forall_mem_cons.mpr ⟨⟨rfl, mem_5 1 rfl, mem_5 2 rfl, mem_5 3 rfl⟩, fun _ h => absurd h List.not_mem_nil⟩
set_option maxRecDepth 100000 in
theorem cl_229 : ∀ x ∈ ([(0, 12, 192, 0)] : List (Nat × Nat × Nat × Nat)), COK 13 136 x := List.forall_mem_cons.mpr ⟨⟨rfl, mem_6 161 rfl, mem_6 162 rfl, mem_6 163 rfl⟩, fun _ h => absurd h List.not_mem_nil⟩
set_option maxRecDepth 100000 in
theorem cl_230 : ∀ x ∈ ([(0, 11, 103, 0)] : List (Nat × Nat × Nat × Nat)), COK 13 137 x := List.forall_mem_cons.mpr ⟨⟨rfl, mem_5 5 rfl, mem_5 6 rfl, mem_5 7 rfl⟩, fun _ h => absurd h List.not_mem_nil⟩
set_option maxRecDepth 100000 in
theorem cl_231 : ∀ x ∈ ([(0, 12, 193, 0)] : List (Nat × Nat × Nat × Nat)), COK 13 140 x := List.forall_mem_cons.mpr ⟨⟨rfl, mem_6 165 rfl, mem_6 166 rfl, mem_6 167 rfl⟩, fun _ h => absurd h List.not_mem_nil⟩
set_option maxRecDepth 100000 in
theorem cl_232 : ∀ x ∈ ([(0, 17, 199, 0)] : List (Nat × Nat × Nat × Nat)), COK 17 335 x := List.forall_mem_cons.mpr ⟨⟨rfl, mem_2 86 rfl, mem_2 87 rfl, mem_2 88 rfl⟩, fun _ h => absurd h List.not_mem_nil⟩
set_option maxRecDepth 100000 in
theorem cl_233 : ∀ x ∈ ([(0, 17, 200, 0)] : List (Nat × Nat × Nat × Nat)), COK 17 492 x := List.forall_mem_cons.mpr ⟨⟨rfl, mem_2 96 rfl, mem_2 97 rfl, mem_2 98 rfl⟩, fun _ h => absurd h List.not_mem_nil⟩
set_option maxRecDepth 100000 in
theorem cl_234 : ∀ x ∈ ([(2, 0, 202, 0)] : List (Nat × Nat × Nat × Nat)), COK 17 495 x := List.forall_mem_cons.mpr ⟨⟨mem_2 100 rfl, mem_2 101 rfl⟩, fun _ h => absurd h List.not_mem_nil⟩
set_option maxRecDepth 100000 in
theorem cl_235 : ∀ x ∈ ([(0, 17, 194, 0)] : List (Nat × Nat × Nat × Nat)), COK 17 505 x := List.forall_mem_cons.mpr ⟨⟨rfl, mem_2 170 rfl, mem_2 83 rfl, mem_2 84 rfl⟩, fun _ h => absurd h List.not_mem_nil⟩
set_option maxRecDepth 100000 in
theorem cl_236 : ∀ x ∈ ([(0, 17, 198, 0)] : List (Nat × Nat × Nat × Nat)), COK 17 633 x := List.forall_mem_cons.mpr ⟨⟨rfl, mem_2 166 rfl, mem_2 167 rfl, mem_2 168 rfl⟩, fun _ h => absurd h List.not_mem_nil⟩
set_option maxRecDepth 100000 in
theorem cl_237 : ∀ x ∈ ([(2, 0, 204, 0)] : List (Nat × Nat × Nat × Nat)), COK 17 637 x := List.forall_mem_cons.mpr ⟨⟨mem_2 171 rfl, mem_2 172 rfl⟩, fun _ h => absurd h List.not_mem_nil⟩
set_option maxRecDepth 100000 in
theorem cl_238 : ∀ x ∈ ([(2, 0, 206, 0)] : List (Nat × Nat × Nat × Nat)), COK 17 1059 x := List.forall_mem_cons.mpr ⟨⟨mem_2 108 rfl, mem_2 109 rfl⟩, fun _ h => absurd h List.not_mem_nil⟩
set_option maxRecDepth 100000 in
theorem cl_239 : ∀ x ∈ ([(2, 0, 201, 0)] : List (Nat × Nat × Nat × Nat)), COK 18 9 x := List.forall_mem_cons.mpr ⟨⟨mem_2 103 rfl, mem_2 104 rfl⟩, fun _ h => absurd h List.not_mem_nil⟩
set_option maxRecDepth 100000 in
theorem cl_240 : ∀ x ∈ ([(2, 0, 209, 0)] : List (Nat × Nat × Nat × Nat)), COK 18 38 x := List.forall_mem_cons.mpr ⟨⟨mem_2 180 rfl, mem_2 60 rfl⟩, fun _ h => absurd h List.not_mem_nil⟩
set_option maxRecDepth 100000 in
theorem cl_241 : ∀ x ∈ ([(2, 0, 203, 0)] : List (Nat × Nat × Nat × Nat)), COK 18 88 x := List.forall_mem_cons.mpr ⟨⟨mem_2 174 rfl, mem_2 175 rfl⟩, fun _ h => absurd h List.not_mem_nil⟩
set_option maxRecDepth 100000 in
theorem cl_242 : ∀ x ∈ ([(2, 0, 208, 0)] : List (Nat × Nat × Nat × Nat)), COK 18 92 x := List.forall_mem_cons.mpr ⟨⟨mem_2 177 rfl, mem_2 178 rfl⟩, fun _ h => absurd h List.not_mem_nil⟩
set_option maxRecDepth 100000 in
theorem cl_243 : ∀ x ∈ ([(2, 0, 205, 0)] : List (Nat × Nat × Nat × Nat)), COK 18 95 x := List.forall_mem_cons.mpr ⟨⟨mem_2 181 rfl, mem_2 182 rfl⟩, fun _ h => absurd h List.not_mem_nil⟩
set_option maxRecDepth 100000 in
theorem fl_0 : ∀ x ∈ ([(0, 0, 0)] : List (Nat × Nat × Nat)), FOK 0 12 x := List.forall_mem_cons.mpr ⟨⟨mem_1 227 rfl, Or.inl rfl⟩, fun _ h => absurd h List.not_mem_nil⟩
set_option maxRecDepth 100000 in
theorem fl_1 : ∀ x ∈ ([(0, 1, 0)] : List (Nat × Nat × Nat)), FOK 0 18 x := List.forall_mem_cons.mpr ⟨⟨mem_1 228 rfl, Or.inl rfl⟩, fun _ h => absurd h List.not_mem_nil⟩
set_option maxRecDepth 100000 in
theorem fl_2 : ∀ x ∈ ([(0, 2, 0)] : List (Nat × Nat × Nat)), FOK 0 22 x := List.forall_mem_cons.mpr ⟨⟨mem_1 229 rfl, Or.inl rfl⟩, fun _ h => absurd h List.not_mem_nil⟩
set_option maxRecDepth 100000 in
theorem fl_3 : ∀ x ∈ ([(0, 3, 0)] : List (Nat × Nat × Nat)), FOK 0 26 x := List.forall_mem_cons.mpr ⟨⟨mem_1 230 rfl, Or.inl rfl⟩, fun _ h => absurd h List.not_mem_nil⟩
set_option maxRecDepth 100000 in
theorem fl_4 : ∀ x ∈ ([(0, 4, 0)] : List (Nat × Nat × Nat)), FOK 0 29 x := List.forall_mem_cons.mpr ⟨⟨mem_1 232 rfl, Or.inl rfl⟩, fun _ h => absurd h List.not_mem_nil⟩
set_option maxRecDepth 100000 in
theorem fl_5 : ∀ x ∈ ([(0, 5, 0)] : List (Nat × Nat × Nat)), FOK 0 33 x := List.forall_mem_cons.mpr ⟨⟨mem_1 234 rfl, Or.inl rfl⟩, fun _ h => absurd h List.not_mem_nil⟩
set_option maxRecDepth 100000 in
theorem fl_6 : ∀ x ∈ ([(0, 6, 0)] : List (Nat × Nat × Nat)), FOK 0 36 x := List.forall_mem_cons.mpr ⟨⟨mem_1 236 rfl, Or.inl rfl⟩, fun _ h => absurd h List.not_mem_nil⟩
set_option maxRecDepth 100000 in
theorem fl_7 : ∀ x ∈ ([(0, 7, 0)] : List (Nat × Nat × Nat)), FOK 0 39 x := List.forall_mem_cons.mpr ⟨⟨mem_1 238 rfl, Or.inl rfl⟩, fun _ h => absurd h List.not_mem_nil⟩
set_option maxRecDepth 100000 in
theorem fl_8 : ∀ x ∈ ([(0, 8, 0)] : List (Nat × Nat × Nat)), FOK 0 42 x := List.forall_mem_cons.mpr ⟨⟨mem_2 0 rfl, Or.inl rfl⟩, fun _ h => absurd h List.not_mem_nil⟩
set_option maxRecDepth 100000 in
theorem fl_9 : ∀ x ∈ ([(10, 13, 10)] : List (Nat × Nat × Nat)), FOK 0 57 x := List.forall_mem_cons.mpr ⟨⟨mem_1 121 rfl, Or.inl rfl⟩, fun _ h => absurd h List.not_mem_nil⟩
set_option maxRecDepth 100000 in
theorem fl_10 : ∀ x ∈ ([(10, 8, 10)] : List (Nat × Nat × Nat)), FOK 0 70 x := List.forall_mem_cons.mpr ⟨⟨mem_1 105 rfl, Or.inl rfl⟩, fun _ h => absurd h List.not_mem_nil⟩
set_option maxRecDepth 100000 in
theorem fl_11 : ∀ x ∈ ([(10, 9, 10)] : List (Nat × Nat × Nat)), FOK 0 88 x := List.forall_mem_cons.mpr ⟨⟨mem_1 109 rfl, Or.inl rfl⟩, fun _ h => absurd h List.not_mem_nil⟩
set_option maxRecDepth 100000 in
theorem fl_12 : ∀ x ∈ ([(10, 11, 10)] : List (Nat × Nat × Nat)), FOK 0 96 x := List.forall_mem_cons.mpr ⟨⟨mem_1 114 rfl, Or.inl rfl⟩, fun _ h => absurd h List.not_mem_nil⟩
set_option maxRecDepth 100000 in
theorem fl_13 : ∀ x ∈ ([(10, 5, 10)] : List (Nat × Nat × Nat)), FOK 0 108 x := List.forall_mem_cons.mpr ⟨⟨mem_1 98 rfl, Or.inl rfl⟩, fun _ h => absurd h List.not_mem_nil⟩
set_option maxRecDepth 100000 in
theorem fl_14 : ∀ x ∈ ([(10, 2, 10)] : List (Nat × Nat × Nat)), FOK 0 115 x := List.forall_mem_cons.mpr ⟨⟨mem_1 89 rfl, Or.inl rfl⟩, fun _ h => absurd h List.not_mem_nil⟩
set_option maxRecDepth 100000 in
theorem fl_15 : ∀ x ∈ ([(3, 8, 3)] : List (Nat × Nat × Nat)), FOK 0 127 x := List.forall_mem_cons.mpr ⟨⟨mem_1 185 rfl, Or.inl rfl⟩, fun _ h => absurd h List.not_mem_nil⟩
set_option maxRecDepth 100000 in
theorem fl_16 : ∀ x ∈ ([(3, 7, 3)] : List (Nat × Nat × Nat)), FOK 0 130 x := List.forall_mem_cons.mpr ⟨⟨mem_1 182 rfl, Or.inl rfl⟩, fun _ h => absurd h List.not_mem_nil⟩
set_option maxRecDepth 100000 in
theorem fl_17 : ∀ x ∈ ([(3, 6, 3)] : List (Nat × Nat × Nat)), FOK 0 133 x := List.forall_mem_cons.mpr ⟨⟨mem_1 179 rfl, Or.inl rfl⟩, fun _ h => absurd h List.not_mem_nil⟩
set_option maxRecDepth 100000 in
theorem fl_18 : ∀ x ∈ ([(10, 10, 10)] : List (Nat × Nat × Nat)), FOK 0 136 x := List.forall_mem_cons.mpr ⟨⟨mem_1 112 rfl, Or.inl rfl⟩, fun _ h => absurd h List.not_mem_nil⟩
set_option maxRecDepth 100000 in
theorem fl_19 : ∀ x ∈ ([(10, 2, 10)] : List (Nat × Nat × Nat)), FOK 1 7 x := List.forall_mem_cons.mpr ⟨⟨mem_1 87 rfl, Or.inl rfl⟩, fun _ h => absurd h List.not_mem_nil⟩
set_option maxRecDepth 100000 in
theorem fl_20 : ∀ x ∈ ([(1, 0, 1), (1, 0, 2)] : List (Nat × Nat × Nat)), FOK 1 13 x := List.forall_mem_cons.mpr ⟨⟨mem_3 8 rfl, Or.inr (mem_3 9 rfl)⟩, List.forall_mem_cons.mpr ⟨⟨mem_3 8 rfl, Or.inr (mem_3 9 rfl)⟩, fun _ h => absurd h List.not_mem_nil⟩⟩
set_option maxRecDepth 100000 in
theorem fl_21 : ∀ x ∈ ([(10, 5, 10)] : List (Nat × Nat × Nat)), FOK 2 11 x := List.forall_mem_cons.mpr ⟨⟨mem_1 96 rfl, Or.inl rfl⟩, fun _ h => absurd h List.not_mem_nil⟩
set_option maxRecDepth 100000 in
theorem fl_22 : ∀ x ∈ ([(2, 0, 2)] : List (Nat × Nat × Nat)), FOK 2 17 x := List.forall_mem_cons.mpr ⟨⟨mem_3 14 rfl, Or.inr (mem_3 15 rfl)⟩, fun _ h => absurd h List.not_mem_nil⟩
set_option maxRecDepth 100000 in
theorem fl_23 : ∀ x ∈ ([(3, 0, 3)] : List (Nat × Nat × Nat)), FOK 3 9 x := List.forall_mem_cons.mpr ⟨⟨mem_1 166 rfl, Or.inl rfl⟩, fun _ h => absurd h List.not_mem_nil⟩
set_option maxRecDepth 100000 in
theorem fl_24 : ∀ x ∈ ([(3, 1, 3)] : List (Nat × Nat × Nat)), FOK 3 15 x := List.forall_mem_cons.mpr ⟨⟨mem_1 168 rfl, Or.inl rfl⟩, fun _ h => absurd h List.not_mem_nil⟩
set_option maxRecDepth 100000 in
theorem fl_25 : ∀ x ∈ ([(3, 2, 3)] : List (Nat × Nat × Nat)), FOK 3 19 x := List.forall_mem_cons.mpr ⟨⟨mem_1 170 rfl, Or.inl rfl⟩, fun _ h => absurd h List.not_mem_nil⟩
set_option maxRecDepth 100000 in
theorem fl_26 : ∀ x ∈ ([(3, 3, 3)] : List (Nat × Nat × Nat)), FOK 3 23 x := List.forall_mem_cons.mpr ⟨⟨mem_1 172 rfl, Or.inl rfl⟩, fun _ h => absurd h List.not_mem_nil⟩
set_option maxRecDepth 100000 in
theorem fl_27 : ∀ x ∈ ([(3, 4, 3)] : List (Nat × Nat × Nat)), FOK 3 26 x := List.forall_mem_cons.mpr ⟨⟨mem_1 174 rfl, Or.inl rfl⟩, fun _ h => absurd h List.not_mem_nil⟩
set_option maxRecDepth 100000 in
theorem fl_28 : ∀ x ∈ ([(3, 5, 3)] : List (Nat × Nat × Nat)), FOK 3 29 x := List.forall_mem_cons.mpr ⟨⟨mem_1 176 rfl, Or.inl rfl⟩, fun _ h => absurd h List.not_mem_nil⟩
set_option maxRecDepth 100000 in
theorem fl_29 : ∀ x ∈ ([(3, 6, 3)] : List (Nat × Nat × Nat)), FOK 3 32 x := List.forall_mem_cons.mpr ⟨⟨mem_1 178 rfl, Or.inl rfl⟩, fun _ h => absurd h List.not_mem_nil⟩
set_option maxRecDepth 100000 in
theorem fl_30 : ∀ x ∈ ([(3, 7, 3)] : List (Nat × Nat × Nat)), FOK 3 35 x := List.forall_mem_cons.mpr ⟨⟨mem_1 181 rfl, Or.inl rfl⟩, fun _ h => absurd h List.not_mem_nil⟩
set_option maxRecDepth 100000 in
theorem fl_31 : ∀ x ∈ ([(3, 8, 3)] : List (Nat × Nat × Nat)), FOK 3 38 x := List.forall_mem_cons.mpr ⟨⟨mem_1 184 rfl, Or.inl rfl⟩, fun _ h => absurd h List.not_mem_nil⟩
set_option maxRecDepth 100000 in
theorem fl_32 : ∀ x ∈ ([(3, 9, 3)] : List (Nat × Nat × Nat)), FOK 3 41 x := List.forall_mem_cons.mpr ⟨⟨mem_1 187 rfl, Or.inl rfl⟩, fun _ h => absurd h List.not_mem_nil⟩
set_option maxRecDepth 100000 in
theorem fl_33 : ∀ x ∈ ([(3, 10, 3)] : List (Nat × Nat × Nat)), FOK 3 44 x := List.forall_mem_cons.mpr ⟨⟨mem_1 189 rfl, Or.inl rfl⟩, fun _ h => absurd h List.not_mem_nil⟩
set_option maxRecDepth 100000 in
theorem fl_34 : ∀ x ∈ ([(3, 11, 3)] : List (Nat × Nat × Nat)), FOK 3 47 x := List.forall_mem_cons.mpr ⟨⟨mem_1 191 rfl, Or.inl rfl⟩, fun _ h => absurd h List.not_mem_nil⟩
set_option maxRecDepth 100000 in
theorem fl_35 : ∀ x ∈ ([(10, 9, 10)] : List (Nat × Nat × Nat)), FOK 4 7 x := List.forall_mem_cons.mpr ⟨⟨mem_1 107 rfl, Or.inl rfl⟩, fun _ h => absurd h List.not_mem_nil⟩
set_option maxRecDepth 100000 in
theorem fl_36 : ∀ x ∈ ([(4, 0, 4), (4, 0, 9)] : List (Nat × Nat × Nat)), FOK 4 13 x := List.forall_mem_cons.mpr ⟨⟨mem_3 10 rfl, Or.inr (mem_3 11 rfl)⟩, List.forall_mem_cons.mpr ⟨⟨mem_3 10 rfl, Or.inr (mem_3 11 rfl)⟩, fun _ h => absurd h List.not_mem_nil⟩⟩
set_option maxRecDepth 100000 in
theorem fl_37 : ∀ x ∈ ([(10, 3, 10)] : List (Nat × Nat × Nat)), FOK 5 7 x := List.forall_mem_cons.mpr ⟨⟨mem_1 91 rfl, Or.inl rfl⟩, fun _ h => absurd h List.not_mem_nil⟩
set_option maxRecDepth 100000 in
theorem fl_38 : ∀ x ∈ ([(5, 0, 5), (5, 0, 7)] : List (Nat × Nat × Nat)), FOK 5 13 x := List.forall_mem_cons.mpr ⟨⟨mem_3 6 rfl, Or.inr (mem_3 7 rfl)⟩, List.forall_mem_cons.mpr ⟨⟨mem_3 6 rfl, Or.inr (mem_3 7 rfl)⟩, fun _ h => absurd h List.not_mem_nil⟩⟩
set_option maxRecDepth 100000 in
theorem fl_39 : ∀ x ∈ ([(6, 0, 1), (6, 0, 2), (6, 0, 4), (6, 0, 5), (6, 0, 6), (6, 0, 7), (6, 0, 9)] : List (Nat × Nat × Nat)), FOK 6 7 x := List.forall_mem_cons.mpr ⟨⟨mem_3 5 rfl, Or.inl rfl⟩, List.forall_mem_cons.mpr ⟨⟨mem_3 5 rfl, Or.inl rfl⟩, List.forall_mem_cons.mpr ⟨⟨mem_3 5 rfl, Or.inl rfl⟩, List.forall_mem_cons.mpr ⟨⟨mem_3 5 rfl, Or.inl rfl⟩, List.forall_mem_cons.mpr ⟨⟨mem_3 5 rfl, Or.inl rfl⟩, List.forall_mem_cons.mpr ⟨⟨mem_3 5 rfl, Or.inl rfl⟩, List.forall_mem_cons.mpr ⟨⟨mem_3 5 rfl, Or.inl rfl⟩, fun _ h => absurd h List.not_mem_nil⟩⟩⟩⟩⟩⟩⟩
set_option maxRecDepth 100000 in
theorem fl_40 : ∀ x ∈ ([(6, 1, 1), (6, 1, 2), (6, 1, 4), (6, 1, 5), (6, 1, 6), (6, 1, 7), (6, 1, 9)] : List (Nat × Nat × Nat)), FOK 6 13 x := List.forall_mem_cons.mpr ⟨⟨mem_3 16 rfl, Or.inl rfl⟩, List.forall_mem_cons.mpr ⟨⟨mem_3 16 rfl, Or.inl rfl⟩, List.forall_mem_cons.mpr ⟨⟨mem_3 16 rfl, Or.inl rfl⟩, List.forall_mem_cons.mpr ⟨⟨mem_3 16 rfl, Or.inl rfl⟩, List.forall_mem_cons.mpr ⟨⟨mem_3 16 rfl, Or.inl rfl⟩, List.forall_mem_cons.mpr ⟨⟨mem_3 16 rfl, Or.inl rfl⟩, List.forall_mem_cons.mpr ⟨⟨mem_3 16 rfl, Or.inl rfl⟩, fun _ h => absurd h List.not_mem_nil⟩⟩⟩⟩⟩⟩⟩
set_option maxRecDepth 100000 in
theorem fl_41 : ∀ x ∈ ([(6, 2, 1), (6, 2, 2), (6, 2, 4), (6, 2, 5), (6, 2, 6), (6, 2, 7), (6, 2, 9)] : List (Nat × Nat × Nat)), FOK 6 16 x := List.forall_mem_cons.mpr ⟨⟨mem_3 18 rfl, Or.inl rfl⟩, List.forall_mem_cons.mpr ⟨⟨mem_3 18 rfl, Or.inl rfl⟩, List.forall_mem_cons.mpr ⟨⟨mem_3 18 rfl, Or.inl rfl⟩, List.forall_mem_cons.mpr ⟨⟨mem_3 18 rfl, Or.inl rfl⟩, List.forall_mem_cons.mpr ⟨⟨mem_3 18 rfl, Or.inl rfl⟩, List.forall_mem_cons.mpr ⟨⟨mem_3 18 rfl, Or.inl rfl⟩, List.forall_mem_cons.mpr ⟨⟨mem_3 18 rfl, Or.inl rfl⟩, fun _ h => absurd h List.not_mem_nil⟩⟩⟩⟩⟩⟩⟩
set_option maxRecDepth 100000 in
theorem fl_42 : ∀ x ∈ ([(6, 3, 1), (6, 3, 2), (6, 3, 4), (6, 3, 5), (6, 3, 6), (6, 3, 7), (6, 3, 9)] : List (Nat × Nat × Nat)), FOK 6 19 x := List.forall_mem_cons.mpr ⟨⟨mem_3 22 rfl, Or.inl rfl⟩, List.forall_mem_cons.mpr ⟨⟨mem_3 22 rfl, Or.inl rfl⟩, List.forall_mem_cons.mpr ⟨⟨mem_3 22 rfl, Or.inl rfl⟩, List.forall_mem_cons.mpr ⟨⟨mem_3 22 rfl, Or.inl rfl⟩, List.forall_mem_cons.mpr ⟨⟨mem_3 22 rfl, Or.inl rfl⟩, List.forall_mem_cons.mpr ⟨⟨mem_3 22 rfl, Or.inl rfl⟩, List.forall_mem_cons.mpr ⟨⟨mem_3 22 rfl, Or.inl rfl⟩, fun _ h => absurd h List.not_mem_nil⟩⟩⟩⟩⟩⟩⟩
set_option maxRecDepth 100000 in
theorem fl_43 : ∀ x ∈ ([(10, 12, 10)] : List (Nat × Nat × Nat)), FOK 7 7 x := List.forall_mem_cons.mpr ⟨⟨mem_1 117 rfl, Or.inl rfl⟩, fun _ h => absurd h List.not_mem_nil⟩
set_option maxRecDepth 100000 in
theorem fl_44 : ∀ x ∈ ([(8, 0, 8)] : List (Nat × Nat × Nat)), FOK 8 9 x := List.forall_mem_cons.mpr ⟨⟨mem_1 44 rfl, Or.inl rfl⟩, fun _ h => absurd h List.not_mem_nil⟩
set_option maxRecDepth 100000 in
theorem fl_45 : ∀ x ∈ ([(8, 1, 8)] : List (Nat × Nat × Nat)), FOK 8 15 x := List.forall_mem_cons.mpr ⟨⟨mem_1 46 rfl, Or.inl rfl⟩, fun _ h => absurd h List.not_mem_nil⟩
set_option maxRecDepth 100000 in
theorem fl_46 : ∀ x ∈ ([(8, 2, 8)] : List (Nat × Nat × Nat)), FOK 8 18 x := List.forall_mem_cons.mpr ⟨⟨mem_1 49 rfl, Or.inl rfl⟩, fun _ h => absurd h List.not_mem_nil⟩
set_option maxRecDepth 100000 in
theorem fl_47 : ∀ x ∈ ([(8, 3, 8)] : List (Nat × Nat × Nat)), FOK 8 21 x := List.forall_mem_cons.mpr ⟨⟨mem_1 51 rfl, Or.inl rfl⟩, fun _ h => absurd h List.not_mem_nil⟩
set_option maxRecDepth 100000 in
theorem fl_48 : ∀ x ∈ ([(8, 4, 8)] : List (Nat × Nat × Nat)), FOK 8 25 x := List.forall_mem_cons.mpr ⟨⟨mem_1 53 rfl, Or.inl rfl⟩, fun _ h => absurd h List.not_mem_nil⟩
set_option maxRecDepth 100000 in
theorem fl_49 : ∀ x ∈ ([(8, 5, 8)] : List (Nat × Nat × Nat)), FOK 8 28 x := List.forall_mem_cons.mpr ⟨⟨mem_1 54 rfl, Or.inl rfl⟩, fun _ h => absurd h List.not_mem_nil⟩
set_option maxRecDepth 100000 in
theorem fl_50 : ∀ x ∈ ([(8, 6, 8)] : List (Nat × Nat × Nat)), FOK 8 31 x := List.forall_mem_cons.mpr ⟨⟨mem_1 55 rfl, Or.inl rfl⟩, fun _ h => absurd h List.not_mem_nil⟩
set_option maxRecDepth 100000 in
theorem fl_51 : ∀ x ∈ ([(8, 7, 8)] : List (Nat × Nat × Nat)), FOK 8 34 x := List.forall_mem_cons.mpr ⟨⟨mem_1 56 rfl, Or.inl rfl⟩, fun _ h => absurd h List.not_mem_nil⟩
set_option maxRecDepth 100000 in
theorem fl_52 : ∀ x ∈ ([(8, 8, 8)] : List (Nat × Nat × Nat)), FOK 8 38 x := List.forall_mem_cons.mpr ⟨⟨mem_1 57 rfl, Or.inl rfl⟩, fun _ h => absurd h List.not_mem_nil⟩
set_option maxRecDepth 100000 in
theorem fl_53 : ∀ x ∈ ([(8, 9, 8)] : List (Nat × Nat × Nat)), FOK 8 41 x := List.forall_mem_cons.mpr ⟨⟨mem_1 58 rfl, Or.inl rfl⟩, fun _ h => absurd h List.not_mem_nil⟩
set_option maxRecDepth 100000 in
theorem fl_54 : ∀ x ∈ ([(10, 6, 10)] : List (Nat × Nat × Nat)), FOK 9 13 x := List.forall_mem_cons.mpr ⟨⟨mem_1 100 rfl, Or.inl rfl⟩, fun _ h => absurd h List.not_mem_nil⟩
set_option maxRecDepth 100000 in
theorem fl_55 : ∀ x ∈ ([(9, 0, 9)] : List (Nat × Nat × Nat)), FOK 9 19 x := List.forall_mem_cons.mpr ⟨⟨mem_3 12 rfl, Or.inr (mem_3 13 rfl)⟩, fun _ h => absurd h List.not_mem_nil⟩
set_option maxRecDepth 100000 in
theorem fl_56 : ∀ x ∈ ([(10, 12, 10)] : List (Nat × Nat × Nat)), FOK 9 25 x := List.forall_mem_cons.mpr ⟨⟨mem_1 118 rfl, Or.inl rfl⟩, fun _ h => absurd h List.not_mem_nil⟩
set_option maxRecDepth 100000 in
theorem fl_57 : ∀ x ∈ ([(9, 2, 9)] : List (Nat × Nat × Nat)), FOK 9 36 x := List.forall_mem_cons.mpr ⟨⟨mem_3 19 rfl, Or.inr (mem_3 20 rfl)⟩, fun _ h => absurd h List.not_mem_nil⟩
set_option maxRecDepth 100000 in
theorem fl_58 : ∀ x ∈ ([(10, 0, 10)] : List (Nat × Nat × Nat)), FOK 10 11 x := List.forall_mem_cons.mpr ⟨⟨mem_1 82 rfl, Or.inl rfl⟩, fun _ h => absurd h List.not_mem_nil⟩
set_option maxRecDepth 100000 in
theorem fl_59 : ∀ x ∈ ([(10, 1, 10)] : List (Nat × Nat × Nat)), FOK 10 17 x := List.forall_mem_cons.mpr ⟨⟨mem_1 84 rfl, Or.inl rfl⟩, fun _ h => absurd h List.not_mem_nil⟩
set_option maxRecDepth 100000 in
theorem fl_60 : ∀ x ∈ ([(10, 2, 10)] : List (Nat × Nat × Nat)), FOK 10 21 x := List.forall_mem_cons.mpr ⟨⟨mem_1 86 rfl, Or.inl rfl⟩, fun _ h => absurd h List.not_mem_nil⟩
set_option maxRecDepth 100000 in
theorem fl_61 : ∀ x ∈ ([(10, 3, 10)] : List (Nat × Nat × Nat)), FOK 10 24 x := List.forall_mem_cons.mpr ⟨⟨mem_1 90 rfl, Or.inl rfl⟩, fun _ h => absurd h List.not_mem_nil⟩
set_option maxRecDepth 100000 in
theorem fl_62 : ∀ x ∈ ([(10, 4, 10)] : List (Nat × Nat × Nat)), FOK 10 27 x := List.forall_mem_cons.mpr ⟨⟨mem_1 93 rfl, Or.inl rfl⟩, fun _ h => absurd h List.not_mem_nil⟩
set_option maxRecDepth 100000 in
theorem fl_63 : ∀ x ∈ ([(10, 5, 10)] : List (Nat × Nat × Nat)), FOK 10 30 x := List.forall_mem_cons.mpr ⟨⟨mem_1 95 rfl, Or.inl rfl⟩, fun _ h => absurd h List.not_mem_nil⟩
set_option maxRecDepth 100000 in
theorem fl_64 : ∀ x ∈ ([(10, 6, 10)] : List (Nat × Nat × Nat)), FOK 10 33 x := List.forall_mem_cons.mpr ⟨⟨mem_1 99 rfl, Or.inl rfl⟩, fun _ h => absurd h List.not_mem_nil⟩
set_option maxRecDepth 100000 in
theorem fl_65 : ∀ x ∈ ([(10, 7, 10)] : List (Nat × Nat × Nat)), FOK 10 36 x := List.forall_mem_cons.mpr ⟨⟨mem_1 102 rfl, Or.inl rfl⟩, fun _ h => absurd h List.not_mem_nil⟩
set_option maxRecDepth 100000 in
theorem fl_66 : ∀ x ∈ ([(10, 8, 10)] : List (Nat × Nat × Nat)), FOK 10 39 x := List.forall_mem_cons.mpr ⟨⟨mem_1 103 rfl, Or.inl rfl⟩, fun _ h => absurd h List.not_mem_nil⟩
set_option maxRecDepth 100000 in
theorem fl_67 : ∀ x ∈ ([(10, 9, 10)] : List (Nat × Nat × Nat)), FOK 10 43 x := List.forall_mem_cons.mpr ⟨⟨mem_1 106 rfl, Or.inl rfl⟩, fun _ h => absurd h List.not_mem_nil⟩
set_option maxRecDepth 100000 in
theorem fl_68 : ∀ x ∈ ([(10, 10, 10)] : List (Nat × Nat × Nat)), FOK 10 46 x := List.forall_mem_cons.mpr ⟨⟨mem_1 110 rfl, Or.inl rfl⟩, fun _ h => absurd h List.not_mem_nil⟩
set_option maxRecDepth 100000 in
theorem fl_69 : ∀ x ∈ ([(10, 11, 10)] : List (Nat × Nat × Nat)), FOK 10 49 x := List.forall_mem_cons.mpr ⟨⟨mem_1 113 rfl, Or.inl rfl⟩, fun _ h => absurd h List.not_mem_nil⟩
set_option maxRecDepth 100000 in
theorem fl_70 : ∀ x ∈ ([(10, 12, 10)] : List (Nat × Nat × Nat)), FOK 10 52 x := List.forall_mem_cons.mpr ⟨⟨mem_1 116 rfl, Or.inl rfl⟩, fun _ h => absurd h List.not_mem_nil⟩
set_option maxRecDepth 100000 in
theorem fl_71 : ∀ x ∈ ([(10, 13, 10)] : List (Nat × Nat × Nat)), FOK 10 55 x := List.forall_mem_cons.mpr ⟨⟨mem_1 120 rfl, Or.inl rfl⟩, fun _ h => absurd h List.not_mem_nil⟩
set_option maxRecDepth 100000 in
theorem fl_72 : ∀ x ∈ ([(10, 14, 10)] : List (Nat × Nat × Nat)), FOK 10 61 x := List.forall_mem_cons.mpr ⟨⟨mem_1 123 rfl, Or.inl rfl⟩, fun _ h => absurd h List.not_mem_nil⟩
set_option maxRecDepth 100000 in
theorem fl_73 : ∀ x ∈ ([(10, 15, 10)] : List (Nat × Nat × Nat)), FOK 10 65 x := List.forall_mem_cons.mpr ⟨⟨mem_1 125 rfl, Or.inl rfl⟩, fun _ h => absurd h List.not_mem_nil⟩
set_option maxRecDepth 100000 in
theorem fl_74 : ∀ x ∈ ([(6, 1, 1), (6, 1, 2), (6, 1, 4), (6, 1, 5), (6, 1, 6), (6, 1, 7), (6, 1, 9)] : List (Nat × Nat × Nat)), FOK 10 74 x := List.forall_mem_cons.mpr ⟨⟨mem_3 17 rfl, Or.inl rfl⟩, List.forall_mem_cons.mpr ⟨⟨mem_3 17 rfl, Or.inl rfl⟩, List.forall_mem_cons.mpr ⟨⟨mem_3 17 rfl, Or.inl rfl⟩, List.forall_mem_cons.mpr ⟨⟨mem_3 17 rfl, Or.inl rfl⟩, List.forall_mem_cons.mpr ⟨⟨mem_3 17 rfl, Or.inl rfl⟩, List.forall_mem_cons.mpr ⟨⟨mem_3 17 rfl, Or.inl rfl⟩, List.forall_mem_cons.mpr ⟨⟨mem_3 17 rfl, Or.inl rfl⟩, fun _ h => absurd h List.not_mem_nil⟩⟩⟩⟩⟩⟩⟩
set_option maxRecDepth 100000 in
theorem fl_75 : ∀ x ∈ ([(6, 2, 1), (6, 2, 2), (6, 2, 4), (6, 2, 5), (6, 2, 6), (6, 2, 7), (6, 2, 9)] : List (Nat × Nat × Nat)), FOK 10 77 x := List.forall_mem_cons.mpr ⟨⟨mem_3 21 rfl, Or.inl rfl⟩, List.forall_mem_cons.mpr ⟨⟨mem_3 21 rfl, Or.inl rfl⟩, List.forall_mem_cons.mpr ⟨⟨mem_3 21 rfl, Or.inl rfl⟩, List.forall_mem_cons.mpr ⟨⟨mem_3 21 rfl, Or.inl rfl⟩, List.forall_mem_cons.mpr ⟨⟨mem_3 21 rfl, Or.inl rfl⟩, List.forall_mem_cons.mpr ⟨⟨mem_3 21 rfl, Or.inl rfl⟩, List.forall_mem_cons.mpr ⟨⟨mem_3 21 rfl, Or.inl rfl⟩, fun _ h => absurd h List.not_mem_nil⟩⟩⟩⟩⟩⟩⟩
set_option maxRecDepth 100000 in
theorem fl_76 : ∀ x ∈ ([(8, 0, 8)] : List (Nat × Nat × Nat)), FOK 10 79 x := List.forall_mem_cons.mpr ⟨⟨mem_1 45 rfl, Or.inl rfl⟩, fun _ h => absurd h List.not_mem_nil⟩
set_option maxRecDepth 100000 in
theorem fl_77 : ∀ x ∈ ([(8, 2, 8)] : List (Nat × Nat × Nat)), FOK 10 104 x := List.forall_mem_cons.mpr ⟨⟨mem_1 50 rfl, Or.inl rfl⟩, fun _ h => absurd h List.not_mem_nil⟩
set_option maxRecDepth 100000 in
theorem fl_78 : ∀ x ∈ ([(8, 3, 8)] : List (Nat × Nat × Nat)), FOK 10 111 x := List.forall_mem_cons.mpr ⟨⟨mem_1 52 rfl, Or.inl rfl⟩, fun _ h => absurd h List.not_mem_nil⟩
set_option maxRecDepth 100000 in
theorem fl_79 : ∀ x ∈ ([(8, 1, 8)] : List (Nat × Nat × Nat)), FOK 10 126 x := List.forall_mem_cons.mpr ⟨⟨mem_1 48 rfl, Or.inl rfl⟩, fun _ h => absurd h List.not_mem_nil⟩
set_option maxRecDepth 100000 in
theorem fl_80 : ∀ x ∈ ([(11, 0, 11)] : List (Nat × Nat × Nat)), FOK 11 14 x := List.forall_mem_cons.mpr ⟨⟨mem_2 22 rfl, Or.inl rfl⟩, fun _ h => absurd h List.not_mem_nil⟩
set_option maxRecDepth 100000 in
theorem fl_81 : ∀ x ∈ ([(11, 1, 11)] : List (Nat × Nat × Nat)), FOK 11 21 x := List.forall_mem_cons.mpr ⟨⟨mem_2 23 rfl, Or.inl rfl⟩, fun _ h => absurd h List.not_mem_nil⟩
set_option maxRecDepth 100000 in
theorem fl_82 : ∀ x ∈ ([(11, 2, 11)] : List (Nat × Nat × Nat)), FOK 11 25 x := List.forall_mem_cons.mpr ⟨⟨mem_2 24 rfl, Or.inl rfl⟩, fun _ h => absurd h List.not_mem_nil⟩
set_option maxRecDepth 100000 in
theorem fl_83 : ∀ x ∈ ([(11, 3, 11)] : List (Nat × Nat × Nat)), FOK 11 28 x := List.forall_mem_cons.mpr ⟨⟨mem_2 25 rfl, Or.inl rfl⟩, fun _ h => absurd h List.not_mem_nil⟩
set_option maxRecDepth 100000 in
theorem fl_84 : ∀ x ∈ ([(11, 4, 11)] : List (Nat × Nat × Nat)), FOK 11 34 x := List.forall_mem_cons.mpr ⟨⟨mem_2 26 rfl, Or.inl rfl⟩, fun _ h => absurd h List.not_mem_nil⟩
set_option maxRecDepth 100000 in
theorem fl_85 : ∀ x ∈ ([(11, 5, 11)] : List (Nat × Nat × Nat)), FOK 11 38 x := List.forall_mem_cons.mpr ⟨⟨mem_2 27 rfl, Or.inl rfl⟩, fun _ h => absurd h List.not_mem_nil⟩
set_option maxRecDepth 100000 in
theorem fl_86 : ∀ x ∈ ([(11, 6, 11)] : List (Nat × Nat × Nat)), FOK 11 45 x := List.forall_mem_cons.mpr ⟨⟨mem_2 28 rfl, Or.inl rfl⟩, fun _ h => absurd h List.not_mem_nil⟩
set_option maxRecDepth 100000 in
theorem fl_87 : ∀ x ∈ ([(11, 7, 11)] : List (Nat × Nat × Nat)), FOK 11 49 x := List.forall_mem_cons.mpr ⟨⟨mem_2 29 rfl, Or.inl rfl⟩, fun _ h => absurd h List.not_mem_nil⟩
set_option maxRecDepth 100000 in
theorem fl_88 : ∀ x ∈ ([(3, 1, 3)] : List (Nat × Nat × Nat)), FOK 11 53 x := List.forall_mem_cons.mpr ⟨⟨mem_1 169 rfl, Or.inl rfl⟩, fun _ h => absurd h List.not_mem_nil⟩
set_option maxRecDepth 100000 in
theorem fl_89 : ∀ x ∈ ([(3, 0, 3)] : List (Nat × Nat × Nat)), FOK 11 57 x := List.forall_mem_cons.mpr ⟨⟨mem_1 167 rfl, Or.inl rfl⟩, fun _ h => absurd h List.not_mem_nil⟩
set_option maxRecDepth 100000 in
theorem fl_90 : ∀ x ∈ ([(10, 15, 10)] : List (Nat × Nat × Nat)), FOK 11 61 x := List.forall_mem_cons.mpr ⟨⟨mem_1 126 rfl, Or.inl rfl⟩, fun _ h => absurd h List.not_mem_nil⟩
set_option maxRecDepth 100000 in
theorem fl_91 : ∀ x ∈ ([(10, 8, 10)] : List (Nat × Nat × Nat)), FOK 11 72 x := List.forall_mem_cons.mpr ⟨⟨mem_1 104 rfl, Or.inl rfl⟩, fun _ h => absurd h List.not_mem_nil⟩
set_option maxRecDepth 100000 in
theorem fl_92 : ∀ x ∈ ([(10, 1, 10)] : List (Nat × Nat × Nat)), FOK 11 88 x := List.forall_mem_cons.mpr ⟨⟨mem_1 85 rfl, Or.inl rfl⟩, fun _ h => absurd h List.not_mem_nil⟩
set_option maxRecDepth 100000 in
theorem fl_93 : ∀ x ∈ ([(10, 2, 10)] : List (Nat × Nat × Nat)), FOK 11 91 x := List.forall_mem_cons.mpr ⟨⟨mem_1 88 rfl, Or.inl rfl⟩, fun _ h => absurd h List.not_mem_nil⟩
set_option maxRecDepth 100000 in
theorem fl_94 : ∀ x ∈ ([(10, 3, 10)] : List (Nat × Nat × Nat)), FOK 11 94 x := List.forall_mem_cons.mpr ⟨⟨mem_1 92 rfl, Or.inl rfl⟩, fun _ h => absurd h List.not_mem_nil⟩
set_option maxRecDepth 100000 in
theorem fl_95 : ∀ x ∈ ([(10, 4, 10)] : List (Nat × Nat × Nat)), FOK 11 97 x := List.forall_mem_cons.mpr ⟨⟨mem_1 94 rfl, Or.inl rfl⟩, fun _ h => absurd h List.not_mem_nil⟩
set_option maxRecDepth 100000 in
theorem fl_96 : ∀ x ∈ ([(10, 9, 10)] : List (Nat × Nat × Nat)), FOK 11 100 x := List.forall_mem_cons.mpr ⟨⟨mem_1 108 rfl, Or.inl rfl⟩, fun _ h => absurd h List.not_mem_nil⟩
set_option maxRecDepth 100000 in
theorem fl_97 : ∀ x ∈ ([(10, 10, 10)] : List (Nat × Nat × Nat)), FOK 11 103 x := List.forall_mem_cons.mpr ⟨⟨mem_1 111 rfl, Or.inl rfl⟩, fun _ h => absurd h List.not_mem_nil⟩
set_option maxRecDepth 100000 in
theorem fl_98 : ∀ x ∈ ([(10, 5, 10)] : List (Nat × Nat × Nat)), FOK 11 113 x := List.forall_mem_cons.mpr ⟨⟨mem_1 97 rfl, Or.inl rfl⟩, fun _ h => absurd h List.not_mem_nil⟩
set_option maxRecDepth 100000 in
theorem fl_99 : ∀ x ∈ ([(10, 6, 10)] : List (Nat × Nat × Nat)), FOK 11 116 x := List.forall_mem_cons.mpr ⟨⟨mem_1 101 rfl, Or.inl rfl⟩, fun _ h => absurd h List.not_mem_nil⟩
set_option maxRecDepth 100000 in
theorem fl_100 : ∀ x ∈ ([(10, 12, 10)] : List (Nat × Nat × Nat)), FOK 11 123 x := List.forall_mem_cons.mpr ⟨⟨mem_1 119 rfl, Or.inl rfl⟩, fun _ h => absurd h List.not_mem_nil⟩
set_option maxRecDepth 100000 in
theorem fl_101 : ∀ x ∈ ([(10, 13, 10)] : List (Nat × Nat × Nat)), FOK 11 126 x := List.forall_mem_cons.mpr ⟨⟨mem_1 122 rfl, Or.inl rfl⟩, fun _ h => absurd h List.not_mem_nil⟩
set_option maxRecDepth 100000 in
theorem fl_102 : ∀ x ∈ ([(10, 14, 10)] : List (Nat × Nat × Nat)), FOK 11 129 x := List.forall_mem_cons.mpr ⟨⟨mem_1 124 rfl, Or.inl rfl⟩, fun _ h => absurd h List.not_mem_nil⟩
set_option maxRecDepth 100000 in
theorem fl_103 : ∀ x ∈ ([(8, 1, 8)] : List (Nat × Nat × Nat)), FOK 11 132 x := List.forall_mem_cons.mpr ⟨⟨mem_1 47 rfl, Or.inl rfl⟩, fun _ h => absurd h List.not_mem_nil⟩
set_option maxRecDepth 100000 in
theorem fl_104 : ∀ x ∈ ([(10, 11, 10)] : List (Nat × Nat × Nat)), FOK 11 135 x := List.forall_mem_cons.mpr ⟨⟨mem_1 115 rfl, Or.inl rfl⟩, fun _ h => absurd h List.not_mem_nil⟩
set_option maxRecDepth 100000 in
theorem fl_105 : ∀ x ∈ ([(0, 3, 0)] : List (Nat × Nat × Nat)), FOK 11 171 x := List.forall_mem_cons.mpr ⟨⟨mem_1 231 rfl, Or.inl rfl⟩, fun _ h => absurd h List.not_mem_nil⟩
set_option maxRecDepth 100000 in
theorem fl_106 : ∀ x ∈ ([(0, 4, 0)] : List (Nat × Nat × Nat)), FOK 11 174 x := List.forall_mem_cons.mpr ⟨⟨mem_1 233 rfl, Or.inl rfl⟩, fun _ h => absurd h List.not_mem_nil⟩
set_option maxRecDepth 100000 in
theorem fl_107 : ∀ x ∈ ([(0, 5, 0)] : List (Nat × Nat × Nat)), FOK 11 177 x := List.forall_mem_cons.mpr ⟨⟨mem_1 235 rfl, Or.inl rfl⟩, fun _ h => absurd h List.not_mem_nil⟩
set_option maxRecDepth 100000 in
theorem fl_108 : ∀ x ∈ ([(3, 5, 3)] : List (Nat × Nat × Nat)), FOK 11 183 x := List.forall_mem_cons.mpr ⟨⟨mem_1 177 rfl, Or.inl rfl⟩, fun _ h => absurd h List.not_mem_nil⟩
set_option maxRecDepth 100000 in
theorem fl_109 : ∀ x ∈ ([(3, 2, 3)] : List (Nat × Nat × Nat)), FOK 11 186 x := List.forall_mem_cons.mpr ⟨⟨mem_1 171 rfl, Or.inl rfl⟩, fun _ h => absurd h List.not_mem_nil⟩
set_option maxRecDepth 100000 in
theorem fl_110 : ∀ x ∈ ([(3, 3, 3)] : List (Nat × Nat × Nat)), FOK 11 189 x := List.forall_mem_cons.mpr ⟨⟨mem_1 173 rfl, Or.inl rfl⟩, fun _ h => absurd h List.not_mem_nil⟩
set_option maxRecDepth 100000 in
theorem fl_111 : ∀ x ∈ ([(3, 4, 3)] : List (Nat × Nat × Nat)), FOK 11 192 x := List.forall_mem_cons.mpr ⟨⟨mem_1 175 rfl, Or.inl rfl⟩, fun _ h => absurd h List.not_mem_nil⟩
set_option maxRecDepth 100000 in
theorem fl_112 : ∀ x ∈ ([(0, 6, 0)] : List (Nat × Nat × Nat)), FOK 11 199 x := List.forall_mem_cons.mpr ⟨⟨mem_1 237 rfl, Or.inl rfl⟩, fun _ h => absurd h List.not_mem_nil⟩
set_option maxRecDepth 100000 in
theorem fl_113 : ∀ x ∈ ([(0, 7, 0)] : List (Nat × Nat × Nat)), FOK 11 202 x := List.forall_mem_cons.mpr ⟨⟨mem_1 239 rfl, Or.inl rfl⟩, fun _ h => absurd h List.not_mem_nil⟩
set_option maxRecDepth 100000 in
theorem fl_114 : ∀ x ∈ ([(3, 8, 3)] : List (Nat × Nat × Nat)), FOK 11 226 x := List.forall_mem_cons.mpr ⟨⟨mem_1 186 rfl, Or.inl rfl⟩, fun _ h => absurd h List.not_mem_nil⟩
set_option maxRecDepth 100000 in
theorem fl_115 : ∀ x ∈ ([(3, 6, 3)] : List (Nat × Nat × Nat)), FOK 11 229 x := List.forall_mem_cons.mpr ⟨⟨mem_1 180 rfl, Or.inl rfl⟩, fun _ h => absurd h List.not_mem_nil⟩
set_option maxRecDepth 100000 in
theorem fl_116 : ∀ x ∈ ([(3, 7, 3)] : List (Nat × Nat × Nat)), FOK 11 232 x := List.forall_mem_cons.mpr ⟨⟨mem_1 183 rfl, Or.inl rfl⟩, fun _ h => absurd h List.not_mem_nil⟩
set_option maxRecDepth 100000 in
theorem fl_117 : ∀ x ∈ ([(3, 11, 3)] : List (Nat × Nat × Nat)), FOK 11 239 x := List.forall_mem_cons.mpr ⟨⟨mem_1 192 rfl, Or.inl rfl⟩, fun _ h => absurd h List.not_mem_nil⟩
set_option maxRecDepth 100000 in
theorem fl_118 : ∀ x ∈ ([(3, 9, 3)] : List (Nat × Nat × Nat)), FOK 11 242 x := List.forall_mem_cons.mpr ⟨⟨mem_1 188 rfl, Or.inl rfl⟩, fun _ h => absurd h List.not_mem_nil⟩
set_option maxRecDepth 100000 in
theorem fl_119 : ∀ x ∈ ([(3, 10, 3)] : List (Nat × Nat × Nat)), FOK 11 245 x := List.forall_mem_cons.mpr ⟨⟨mem_1 190 rfl, Or.inl rfl⟩, fun _ h => absurd h List.not_mem_nil⟩
set_option maxRecDepth 100000 in
theorem fl_120 : ∀ x ∈ ([(10, 0, 10)] : List (Nat × Nat × Nat)), FOK 11 248 x := List.forall_mem_cons.mpr ⟨⟨mem_1 83 rfl, Or.inl rfl⟩, fun _ h => absurd h List.not_mem_nil⟩
set_option maxRecDepth 100000 in
theorem fl_121 : ∀ x ∈ ([(12, 1, 12)] : List (Nat × Nat × Nat)), FOK 12 9 x := List.forall_mem_cons.mpr ⟨⟨mem_5 15 rfl, Or.inl rfl⟩, fun _ h => absurd h List.not_mem_nil⟩
set_option maxRecDepth 100000 in
theorem fl_122 : ∀ x ∈ ([(12, 2, 12)] : List (Nat × Nat × Nat)), FOK 12 15 x := List.forall_mem_cons.mpr ⟨⟨mem_5 16 rfl, Or.inl rfl⟩, fun _ h => absurd h List.not_mem_nil⟩
set_option maxRecDepth 100000 in
theorem fl_123 : ∀ x ∈ ([(12, 3, 12)] : List (Nat × Nat × Nat)), FOK 12 18 x := List.forall_mem_cons.mpr ⟨⟨mem_5 17 rfl, Or.inl rfl⟩, fun _ h => absurd h List.not_mem_nil⟩
set_option maxRecDepth 100000 in
theorem fl_124 : ∀ x ∈ ([(12, 5, 12)] : List (Nat × Nat × Nat)), FOK 12 21 x := List.forall_mem_cons.mpr ⟨⟨mem_5 19 rfl, Or.inl rfl⟩, fun _ h => absurd h List.not_mem_nil⟩
set_option maxRecDepth 100000 in
theorem fl_125 : ∀ x ∈ ([(12, 11, 12)] : List (Nat × Nat × Nat)), FOK 12 25 x := List.forall_mem_cons.mpr ⟨⟨mem_5 25 rfl, Or.inl rfl⟩, fun _ h => absurd h List.not_mem_nil⟩
set_option maxRecDepth 100000 in
theorem fl_126 : ∀ x ∈ ([(12, 12, 12)] : List (Nat × Nat × Nat)), FOK 12 28 x := List.forall_mem_cons.mpr ⟨⟨mem_5 26 rfl, Or.inl rfl⟩, fun _ h => absurd h List.not_mem_nil⟩
set_option maxRecDepth 100000 in
theorem fl_127 : ∀ x ∈ ([(12, 13, 12)] : List (Nat × Nat × Nat)), FOK 12 32 x := List.forall_mem_cons.mpr ⟨⟨mem_5 27 rfl, Or.inl rfl⟩, fun _ h => absurd h List.not_mem_nil⟩
set_option maxRecDepth 100000 in
theorem fl_128 : ∀ x ∈ ([(12, 14, 12)] : List (Nat × Nat × Nat)), FOK 12 35 x := List.forall_mem_cons.mpr ⟨⟨mem_5 28 rfl, Or.inl rfl⟩, fun _ h => absurd h List.not_mem_nil⟩
set_option maxRecDepth 100000 in
theorem fl_129 : ∀ x ∈ ([(12, 15, 12)] : List (Nat × Nat × Nat)), FOK 12 38 x := List.forall_mem_cons.mpr ⟨⟨mem_5 29 rfl, Or.inl rfl⟩, fun _ h => absurd h List.not_mem_nil⟩
set_option maxRecDepth 100000 in
theorem fl_130 : ∀ x ∈ ([(12, 7, 12)] : List (Nat × Nat × Nat)), FOK 12 48 x := List.forall_mem_cons.mpr ⟨⟨mem_5 21 rfl, Or.inl rfl⟩, fun _ h => absurd h List.not_mem_nil⟩
set_option maxRecDepth 100000 in
theorem fl_131 : ∀ x ∈ ([(12, 8, 12)] : List (Nat × Nat × Nat)), FOK 12 51 x := List.forall_mem_cons.mpr ⟨⟨mem_5 22 rfl, Or.inl rfl⟩, fun _ h => absurd h List.not_mem_nil⟩
set_option maxRecDepth 100000 in
theorem fl_132 : ∀ x ∈ ([(12, 9, 12)] : List (Nat × Nat × Nat)), FOK 12 54 x := List.forall_mem_cons.mpr ⟨⟨mem_5 23 rfl, Or.inl rfl⟩, fun _ h => absurd h List.not_mem_nil⟩
set_option maxRecDepth 100000 in
theorem fl_133 : ∀ x ∈ ([(12, 6, 12)] : List (Nat × Nat × Nat)), FOK 12 75 x := List.forall_mem_cons.mpr ⟨⟨mem_5 20 rfl, Or.inl rfl⟩, fun _ h => absurd h List.not_mem_nil⟩
set_option maxRecDepth 100000 in
theorem fl_134 : ∀ x ∈ ([(12, 10, 12)] : List (Nat × Nat × Nat)), FOK 12 78 x := List.forall_mem_cons.mpr ⟨⟨mem_5 24 rfl, Or.inl rfl⟩, fun _ h => absurd h List.not_mem_nil⟩
set_option maxRecDepth 100000 in
theorem fl_135 : ∀ x ∈ ([(12, 16, 12)] : List (Nat × Nat × Nat)), FOK 12 230 x := List.forall_mem_cons.mpr ⟨⟨mem_5 30 rfl, Or.inl rfl⟩, fun _ h => absurd h List.not_mem_nil⟩
set_option maxRecDepth 100000 in
theorem fl_136 : ∀ x ∈ ([(12, 18, 12)] : List (Nat × Nat × Nat)), FOK 12 236 x := List.forall_mem_cons.mpr ⟨⟨mem_5 32 rfl, Or.inl rfl⟩, fun _ h => absurd h List.not_mem_nil⟩
set_option maxRecDepth 100000 in
theorem fl_137 : ∀ x ∈ ([(12, 17, 12)] : List (Nat × Nat × Nat)), FOK 12 239 x := List.forall_mem_cons.mpr ⟨⟨mem_5 31 rfl, Or.inl rfl⟩, fun _ h => absurd h List.not_mem_nil⟩
set_option maxRecDepth 100000 in
theorem fl_138 : ∀ x ∈ ([(12, 19, 12)] : List (Nat × Nat × Nat)), FOK 12 252 x := List.forall_mem_cons.mpr ⟨⟨mem_5 33 rfl, Or.inl rfl⟩, fun _ h => absurd h List.not_mem_nil⟩
set_option maxRecDepth 100000 in
theorem fl_139 : ∀ x ∈ ([(12, 4, 12)] : List (Nat × Nat × Nat)), FOK 12 267 x := List.forall_mem_cons.mpr ⟨⟨mem_5 18 rfl, Or.inl rfl⟩, fun _ h => absurd h List.not_mem_nil⟩
set_option maxRecDepth 100000 in
theorem cl_all : ∀ e ∈ CLL, ∀ x ∈ e.2, COK e.1.1 e.1.2 x := List.forall_mem_cons.mpr ⟨cl_0, List.forall_mem_cons.mpr ⟨cl_1, List.forall_mem_cons.mpr ⟨cl_2, List.forall_mem_cons.mpr ⟨cl_3, List.forall_mem_cons.mpr ⟨cl_4, List.forall_mem_cons.mpr ⟨cl_5, List.forall_mem_cons.mpr ⟨cl_6, List.forall_mem_cons.mpr ⟨cl_7, List.forall_mem_cons.mpr ⟨cl_8, List.forall_mem_cons.mpr ⟨cl_9, List.forall_mem_cons.mpr ⟨cl_10, List.forall_mem_cons.mpr ⟨cl_11, List.forall_mem_cons.mpr ⟨cl_12, List.forall_mem_cons.mpr ⟨cl_13, List.forall_mem_cons.mpr ⟨cl_14, List.forall_mem_cons.mpr ⟨cl_15, List.forall_mem_cons.mpr ⟨cl_16, List.forall_mem_cons.mpr ⟨cl_17, List.forall_mem_cons.mpr ⟨cl_18, List.forall_mem_cons.mpr ⟨cl_19, List.forall_mem_cons.mpr ⟨cl_20, List.forall_mem_cons.mpr ⟨cl_21, List.forall_mem_cons.mpr ⟨cl_22, List.forall_mem_cons.mpr ⟨cl_23, List.forall_mem_cons.mpr ⟨cl_24, List.forall_mem_cons.mpr ⟨cl_25, List.forall_mem_cons.mpr ⟨cl_26, List.forall_mem_cons.mpr ⟨cl_27, List.forall_mem_cons.mpr ⟨cl_28, List.forall_mem_cons.mpr ⟨cl_29, List.forall_mem_cons.mpr ⟨cl_30, List.forall_mem_cons.mpr ⟨cl_31, List.forall_mem_cons.mpr ⟨cl_32, List.forall_mem_cons.mpr ⟨cl_33, List.forall_mem_cons.mpr ⟨cl_34, List.forall_mem_cons.mpr ⟨cl_35, List.forall_mem_cons.mpr ⟨cl_36, List.forall_mem_cons.mpr ⟨cl_37, List.forall_mem_cons.mpr ⟨cl_38, List.forall_mem_cons.mpr ⟨cl_39, List.forall_mem_cons.mpr ⟨cl_40, List.forall_mem_cons.mpr ⟨cl_41, List.forall_mem_cons.mpr ⟨cl_42, List.forall_mem_cons.mpr ⟨cl_43, List.forall_mem_cons.mpr ⟨cl_44, List.forall_mem_cons.mpr ⟨cl_45, List.forall_mem_cons.mpr ⟨cl_46, List.forall_mem_cons.mpr ⟨cl_47, List.forall_mem_cons.mpr ⟨cl_48, List.forall_mem_cons.mpr ⟨cl_49, List.forall_mem_cons.mpr ⟨cl_50, List.forall_mem_cons.mpr ⟨cl_51, List.forall_mem_cons.mpr ⟨cl_52, List.forall_mem_cons.mpr ⟨cl_53, List.forall_mem_cons.mpr ⟨cl_54, List.forall_mem_cons.mpr ⟨cl_55, List.forall_mem_cons.mpr ⟨cl_56, List.forall_mem_cons.mpr ⟨cl_57, List.forall_mem_cons.mpr ⟨cl_58, List.forall_mem_cons.mpr ⟨cl_59, List.forall_mem_cons.mpr ⟨cl_60, List.forall_mem_cons.mpr ⟨cl_61, List.forall_mem_cons.mpr ⟨cl_62, List.forall_mem_cons.mpr ⟨cl_63, List.forall_mem_cons.mpr ⟨cl_64, List.forall_mem_cons.mpr ⟨cl_65, List.forall_mem_cons.mpr ⟨cl_66, List.forall_mem_cons.mpr ⟨cl_67, List.forall_mem_cons.mpr ⟨cl_68, List.forall_mem_cons.mpr ⟨cl_69, List.forall_mem_cons.mpr ⟨cl_70, List.forall_mem_cons.mpr ⟨cl_71, List.forall_mem_cons.mpr ⟨cl_72, List.forall_mem_cons.mpr ⟨cl_73, List.forall_mem_cons.mpr ⟨cl_74, List.forall_mem_cons.mpr ⟨cl_75, List.forall_mem_cons.mpr ⟨cl_76, List.forall_mem_cons.mpr ⟨cl_77, List.forall_mem_cons.mpr ⟨cl_78, List.forall_mem_cons.mpr ⟨cl_79, List.forall_mem_cons.mpr ⟨cl_80, List.forall_mem_cons.mpr ⟨cl_81, List.forall_mem_cons.mpr ⟨cl_82, List.forall_mem_cons.mpr ⟨cl_83, List.forall_mem_cons.mpr ⟨cl_84, List.forall_mem_cons.mpr ⟨cl_85, List.forall_mem_cons.mpr ⟨cl_86, List.forall_mem_cons.mpr ⟨cl_87, List.forall_mem_cons.mpr ⟨cl_88, List.forall_mem_cons.mpr ⟨cl_89, List.forall_mem_cons.mpr ⟨cl_90, List.forall_mem_cons.mpr ⟨cl_91, List.forall_mem_cons.mpr ⟨cl_92, List.forall_mem_cons.mpr ⟨cl_93, List.forall_mem_cons.mpr ⟨cl_94, List.forall_mem_cons.mpr ⟨cl_95, List.forall_mem_cons.mpr ⟨cl_96, List.forall_mem_cons.mpr ⟨cl_97, List.forall_mem_cons.mpr ⟨cl_98, List.forall_mem_cons.mpr ⟨cl_99, List.forall_mem_cons.mpr ⟨cl_100, List.forall_mem_cons.mpr ⟨cl_101, List.forall_mem_cons.mpr ⟨cl_102, List.forall_mem_cons.mpr ⟨cl_103, List.forall_mem_cons.mpr ⟨cl_104, List.forall_mem_cons.mpr ⟨cl_105, List.forall_mem_cons.mpr ⟨cl_106, List.forall_mem_cons.mpr ⟨cl_107, List.forall_mem_cons.mpr ⟨cl_108, List.forall_mem_cons.mpr ⟨cl_109, List.forall_mem_cons.mpr ⟨cl_110, List.forall_mem_cons.mpr ⟨cl_111, List.forall_mem_cons.mpr ⟨cl_112, List.forall_mem_cons.mpr ⟨cl_113, List.forall_mem_cons.mpr ⟨cl_114, List.forall_mem_cons.mpr ⟨cl_115, List.forall_mem_cons.mpr ⟨cl_116, List.forall_mem_cons.mpr ⟨cl_117, List.forall_mem_cons.mpr ⟨cl_118, List.forall_mem_cons.mpr ⟨cl_119, List.forall_mem_cons.mpr ⟨cl_120, List.forall_mem_cons.mpr ⟨cl_121, List.forall_mem_cons.mpr ⟨cl_122, List.forall_mem_cons.mpr ⟨cl_123, List.forall_mem_cons.mpr ⟨cl_124, List.forall_mem_cons.mpr ⟨cl_125, List.forall_mem_cons.mpr ⟨cl_126, List.forall_mem_cons.mpr ⟨cl_127, List.forall_mem_cons.mpr ⟨cl_128, List.forall_mem_cons.mpr ⟨cl_129, List.forall_mem_cons.mpr ⟨cl_130, List.forall_mem_cons.mpr ⟨cl_131, List.forall_mem_cons.mpr ⟨cl_132, List.forall_mem_cons.mpr ⟨cl_133, List.forall_mem_cons.mpr ⟨cl_134, List.forall_mem_cons.mpr ⟨cl_135, List.forall_mem_cons.mpr ⟨cl_136, List.forall_mem_cons.mpr ⟨cl_137, List.forall_mem_cons.mpr ⟨cl_138, List.forall_mem_cons.mpr ⟨cl_139, List.forall_mem_cons.mpr ⟨cl_140, List.forall_mem_cons.mpr ⟨cl_141, List.forall_mem_cons.mpr ⟨cl_142, List.forall_mem_cons.mpr ⟨cl_143, List.forall_mem_cons.mpr ⟨cl_144, List.forall_mem_cons.mpr ⟨cl_145, List.forall_mem_cons.mpr ⟨cl_146, List.forall_mem_cons.mpr ⟨cl_147, List.forall_mem_cons.mpr ⟨cl_148, List.forall_mem_cons.mpr ⟨cl_149, List.forall_mem_cons.mpr ⟨cl_150, List.forall_mem_cons.mpr ⟨cl_151, List.forall_mem_cons.mpr ⟨cl_152, List.forall_mem_cons.mpr ⟨cl_153, List.forall_mem_cons.mpr ⟨cl_154, List.forall_mem_cons.mpr ⟨cl_155, List.forall_mem_cons.mpr ⟨cl_156, List.forall_mem_cons.mpr ⟨cl_157, List.forall_mem_cons.mpr ⟨cl_158, List.forall_mem_cons.mpr ⟨cl_159, List.forall_mem_cons.mpr ⟨cl_160, List.forall_mem_cons.mpr ⟨cl_161, List.forall_mem_cons.mpr ⟨cl_162, List.forall_mem_cons.mpr ⟨cl_163, List.forall_mem_cons.mpr ⟨cl_164, List.forall_mem_cons.mpr ⟨cl_165, List.forall_mem_cons.mpr ⟨cl_166, List.forall_mem_cons.mpr ⟨cl_167, List.forall_mem_cons.mpr ⟨cl_168, List.forall_mem_cons.mpr ⟨cl_169, List.forall_mem_cons.mpr ⟨cl_170, List.forall_mem_cons.mpr ⟨cl_171, List.forall_mem_cons.mpr ⟨cl_172, List.forall_mem_cons.mpr ⟨cl_173, List.forall_mem_cons.mpr ⟨cl_174, List.forall_mem_cons.mpr ⟨cl_175, List.forall_mem_cons.mpr ⟨cl_176, List.forall_mem_cons.mpr ⟨cl_177, List.forall_mem_cons.mpr ⟨cl_178, List.forall_mem_cons.mpr ⟨cl_179, List.forall_mem_cons.mpr ⟨cl_180, List.forall_mem_cons.mpr ⟨cl_181, List.forall_mem_cons.mpr ⟨cl_182, List.forall_mem_cons.mpr ⟨cl_183, List.forall_mem_cons.mpr ⟨cl_184, List.forall_mem_cons.mpr ⟨cl_185, List.forall_mem_cons.mpr ⟨cl_186, List.forall_mem_cons.mpr ⟨cl_187, List.forall_mem_cons.mpr ⟨cl_188, List.forall_mem_cons.mpr ⟨cl_189, List.forall_mem_cons.mpr ⟨cl_190, List.forall_mem_cons.mpr ⟨cl_191, List.forall_mem_cons.mpr ⟨cl_192, List.forall_mem_cons.mpr ⟨cl_193, List.forall_mem_cons.mpr ⟨cl_194, List.forall_mem_cons.mpr ⟨cl_195, List.forall_mem_cons.mpr ⟨cl_196, List.forall_mem_cons.mpr ⟨cl_197, List.forall_mem_cons.mpr ⟨cl_198, List.forall_mem_cons.mpr ⟨cl_199, List.forall_mem_cons.mpr ⟨cl_200, List.forall_mem_cons.mpr ⟨cl_201, List.forall_mem_cons.mpr ⟨cl_202, List.forall_mem_cons.mpr ⟨cl_203, List.forall_mem_cons.mpr ⟨cl_204, List.forall_mem_cons.mpr ⟨cl_205, List.forall_mem_cons.mpr ⟨cl_206, List.forall_mem_cons.mpr ⟨cl_207, List.forall_mem_cons.mpr ⟨cl_208, List.forall_mem_cons.mpr ⟨cl_209, List.forall_mem_cons.mpr ⟨cl_210, List.forall_mem_cons.mpr ⟨cl_211, List.forall_mem_cons.mpr ⟨cl_212, List.forall_mem_cons.mpr ⟨cl_213, List.forall_mem_cons.mpr ⟨cl_214, List.forall_mem_cons.mpr ⟨cl_215, List.forall_mem_cons.mpr ⟨cl_216, List.forall_mem_cons.mpr ⟨cl_217, List.forall_mem_cons.mpr ⟨cl_218, List.forall_mem_cons.mpr ⟨cl_219, List.forall_mem_cons.mpr ⟨cl_220, List.forall_mem_cons.mpr ⟨cl_221, List.forall_mem_cons.mpr ⟨cl_222, List.forall_mem_cons.mpr ⟨cl_223, List.forall_mem_cons.mpr ⟨cl_224, List.forall_mem_cons.mpr ⟨cl_225, List.forall_mem_cons.mpr ⟨cl_226, List.forall_mem_cons.mpr ⟨cl_227, List.forall_mem_cons.mpr ⟨cl_228, List.forall_mem_cons.mpr ⟨cl_229, List.forall_mem_cons.mpr ⟨cl_230, List.forall_mem_cons.mpr ⟨cl_231, List.forall_mem_cons.mpr ⟨cl_232, List.forall_mem_cons.mpr ⟨cl_233, List.forall_mem_cons.mpr ⟨cl_234, List.forall_mem_cons.mpr ⟨cl_235, List.forall_mem_cons.mpr ⟨cl_236, List.forall_mem_cons.mpr ⟨cl_237, List.forall_mem_cons.mpr ⟨cl_238, List.forall_mem_cons.mpr ⟨cl_239, List.forall_mem_cons.mpr ⟨cl_240, List.forall_mem_cons.mpr ⟨cl_241, List.forall_mem_cons.mpr ⟨cl_242, List.forall_mem_cons.mpr ⟨cl_243, fun _ h => absurd h List.not_mem_nil⟩⟩⟩⟩⟩⟩⟩⟩⟩⟩⟩⟩⟩⟩⟩⟩⟩⟩⟩⟩⟩⟩⟩⟩⟩⟩⟩⟩⟩⟩⟩⟩⟩⟩⟩⟩⟩⟩⟩⟩⟩⟩⟩⟩⟩⟩⟩⟩⟩⟩⟩⟩⟩⟩⟩⟩⟩⟩⟩⟩⟩⟩⟩⟩⟩⟩⟩⟩⟩⟩⟩⟩⟩⟩⟩⟩⟩⟩⟩⟩⟩⟩⟩⟩⟩⟩⟩⟩⟩⟩⟩⟩⟩⟩⟩⟩⟩⟩⟩⟩⟩⟩⟩⟩⟩⟩⟩⟩⟩⟩⟩⟩⟩⟩⟩⟩⟩⟩⟩⟩⟩⟩⟩⟩⟩⟩⟩⟩⟩⟩⟩⟩⟩⟩⟩⟩⟩⟩⟩⟩⟩⟩⟩⟩⟩⟩⟩⟩⟩⟩⟩⟩⟩⟩⟩⟩⟩⟩⟩⟩⟩⟩⟩⟩⟩⟩⟩⟩⟩⟩⟩⟩⟩⟩⟩⟩⟩⟩⟩⟩⟩⟩⟩⟩⟩⟩⟩⟩⟩⟩⟩⟩⟩⟩⟩⟩⟩⟩⟩⟩⟩⟩⟩⟩⟩⟩⟩⟩⟩⟩⟩⟩⟩⟩⟩⟩⟩⟩⟩⟩⟩⟩⟩⟩⟩⟩⟩⟩⟩⟩⟩⟩⟩⟩⟩⟩⟩⟩⟩⟩⟩⟩⟩⟩
set_option maxRecDepth 100000 in
theorem fl_all : ∀ e ∈ FLL, ∀ x ∈ e.2, FOK e.1.1 e.1.2 x := List.forall_mem_cons.mpr ⟨fl_0, List.forall_mem_cons.mpr ⟨fl_1, List.forall_mem_cons.mpr ⟨fl_2, List.forall_mem_cons.mpr ⟨fl_3, List.forall_mem_cons.mpr ⟨fl_4, List.forall_mem_cons.mpr ⟨fl_5, List.forall_mem_cons.mpr ⟨fl_6, List.forall_mem_cons.mpr ⟨fl_7, List.forall_mem_cons.mpr ⟨fl_8, List.forall_mem_cons.mpr ⟨fl_9, List.forall_mem_cons.mpr ⟨fl_10, List.forall_mem_cons.mpr ⟨fl_11, List.forall_mem_cons.mpr ⟨fl_12, List.forall_mem_cons.mpr ⟨fl_13, List.forall_mem_cons.mpr ⟨fl_14, List.forall_mem_cons.mpr ⟨fl_15, List.forall_mem_cons.mpr ⟨fl_16, List.forall_mem_cons.mpr ⟨fl_17, List.forall_mem_cons.mpr ⟨fl_18, List.forall_mem_cons.mpr ⟨fl_19, List.forall_mem_cons.mpr ⟨fl_20, List.forall_mem_cons.mpr ⟨fl_21, List.forall_mem_cons.mpr ⟨fl_22, List.forall_mem_cons.mpr ⟨fl_23, List.forall_mem_cons.mpr ⟨fl_24, List.forall_mem_cons.mpr ⟨fl_25, List.forall_mem_cons.mpr ⟨fl_26, List.forall_mem_cons.mpr ⟨fl_27, List.forall_mem_cons.mpr ⟨fl_28, List.forall_mem_cons.mpr ⟨fl_29, List.forall_mem_cons.mpr ⟨fl_30, List.forall_mem_cons.mpr ⟨fl_31, List.forall_mem_cons.mpr ⟨fl_32, List.forall_mem_cons.mpr ⟨fl_33, List.forall_mem_cons.mpr ⟨fl_34, List.forall_mem_cons.mpr ⟨fl_35, List.forall_mem_cons.mpr ⟨fl_36, List.forall_mem_cons.mpr ⟨fl_37, List.forall_mem_cons.mpr ⟨fl_38, List.forall_mem_cons.mpr ⟨fl_39, List.forall_mem_cons.mpr ⟨fl_40, List.forall_mem_cons.mpr ⟨fl_41, List.forall_mem_cons.mpr ⟨fl_42, List.forall_mem_cons.mpr ⟨fl_43, List.forall_mem_cons.mpr ⟨fl_44, List.forall_mem_cons.mpr ⟨fl_45, List.forall_mem_cons.mpr ⟨fl_46, List.forall_mem_cons.mpr ⟨fl_47, List.forall_mem_cons.mpr ⟨fl_48, List.forall_mem_cons.mpr ⟨fl_49, List.forall_mem_cons.mpr ⟨fl_50, List.forall_mem_cons.mpr ⟨fl_51, List.forall_mem_cons.mpr ⟨fl_52, List.forall_mem_cons.mpr ⟨fl_53, List.forall_mem_cons.mpr ⟨fl_54, List.forall_mem_cons.mpr ⟨fl_55, List.forall_mem_cons.mpr ⟨fl_56, List.forall_mem_cons.mpr ⟨fl_57, List.forall_mem_cons.mpr ⟨fl_58, List.forall_mem_cons.mpr ⟨fl_59, List.forall_mem_cons.mpr ⟨fl_60, List.forall_mem_cons.mpr ⟨fl_61, List.forall_mem_cons.mpr ⟨fl_62, List.forall_mem_cons.mpr ⟨fl_63, List.forall_mem_cons.mpr ⟨fl_64, List.forall_mem_cons.mpr ⟨fl_65, List.forall_mem_cons.mpr ⟨fl_66, List.forall_mem_cons.mpr ⟨fl_67, List.forall_mem_cons.mpr ⟨fl_68, List.forall_mem_cons.mpr ⟨fl_69, List.forall_mem_cons.mpr ⟨fl_70, List.forall_mem_cons.mpr ⟨fl_71, List.forall_mem_cons.mpr ⟨fl_72, List.forall_mem_cons.mpr ⟨fl_73, List.forall_mem_cons.mpr ⟨fl_74, List.forall_mem_cons.mpr ⟨fl_75, List.forall_mem_cons.mpr ⟨fl_76, List.forall_mem_cons.mpr ⟨fl_77, List.forall_mem_cons.mpr ⟨fl_78, List.forall_mem_cons.mpr ⟨fl_79, List.forall_mem_cons.mpr ⟨fl_80, List.forall_mem_cons.mpr ⟨fl_81, List.forall_mem_cons.mpr ⟨fl_82, List.forall_mem_cons.mpr ⟨fl_83, List.forall_mem_cons.mpr ⟨fl_84, List.forall_mem_cons.mpr ⟨fl_85, List.forall_mem_cons.mpr ⟨fl_86, List.forall_mem_cons.mpr ⟨fl_87, List.forall_mem_cons.mpr ⟨fl_88, List.forall_mem_cons.mpr ⟨fl_89, List.forall_mem_cons.mpr ⟨fl_90, List.forall_mem_cons.mpr ⟨fl_91, List.forall_mem_cons.mpr ⟨fl_92, List.forall_mem_cons.mpr ⟨fl_93, List.forall_mem_cons.mpr ⟨fl_94, List.forall_mem_cons.mpr ⟨fl_95, List.forall_mem_cons.mpr ⟨fl_96, List.forall_mem_cons.mpr ⟨fl_97, List.forall_mem_cons.mpr ⟨fl_98, List.forall_mem_cons.mpr ⟨fl_99, List.forall_mem_cons.mpr ⟨fl_100, List.forall_mem_cons.mpr ⟨fl_101, List.forall_mem_cons.mpr ⟨fl_102, List.forall_mem_cons.mpr ⟨fl_103, List.forall_mem_cons.mpr ⟨fl_104, List.forall_mem_cons.mpr ⟨fl_105, List.forall_mem_cons.mpr ⟨fl_106, List.forall_mem_cons.mpr ⟨fl_107, List.forall_mem_cons.mpr ⟨fl_108, List.forall_mem_cons.mpr ⟨fl_109, List.forall_mem_cons.mpr ⟨fl_110, List.forall_mem_cons.mpr ⟨fl_111, List.forall_mem_cons.mpr ⟨fl_112, List.forall_mem_cons.mpr ⟨fl_113, List.forall_mem_cons.mpr ⟨fl_114, List.forall_mem_cons.mpr ⟨fl_115, List.forall_mem_cons.mpr ⟨fl_116, List.forall_mem_cons.mpr ⟨fl_117, List.forall_mem_cons.mpr ⟨fl_118, List.forall_mem_cons.mpr ⟨fl_119, List.forall_mem_cons.mpr ⟨fl_120, List.forall_mem_cons.mpr ⟨fl_121, List.forall_mem_cons.mpr ⟨fl_122, List.forall_mem_cons.mpr ⟨fl_123, List.forall_mem_cons.mpr ⟨fl_124, List.forall_mem_cons.mpr ⟨fl_125, List.forall_mem_cons.mpr ⟨fl_126, List.forall_mem_cons.mpr ⟨fl_127, List.forall_mem_cons.mpr ⟨fl_128, List.forall_mem_cons.mpr ⟨fl_129, List.forall_mem_cons.mpr ⟨fl_130, List.forall_mem_cons.mpr ⟨fl_131, List.forall_mem_cons.mpr ⟨fl_132, List.forall_mem_cons.mpr ⟨fl_133, List.forall_mem_cons.mpr ⟨fl_134, List.forall_mem_cons.mpr ⟨fl_135, List.forall_mem_cons.mpr ⟨fl_136, List.forall_mem_cons.mpr ⟨fl_137, List.forall_mem_cons.mpr ⟨fl_138, List.forall_mem_cons.mpr ⟨fl_139, fun _ h => absurd h List.not_mem_nil⟩⟩⟩⟩⟩⟩⟩⟩⟩⟩⟩⟩⟩⟩⟩⟩⟩⟩⟩⟩⟩⟩⟩⟩⟩⟩⟩⟩⟩⟩⟩⟩⟩⟩⟩⟩⟩⟩⟩⟩⟩⟩⟩⟩⟩⟩⟩⟩⟩⟩⟩⟩⟩⟩⟩⟩⟩⟩⟩⟩⟩⟩⟩⟩⟩⟩⟩⟩⟩⟩⟩⟩⟩⟩⟩⟩⟩⟩⟩⟩⟩⟩⟩⟩⟩⟩⟩⟩⟩⟩⟩⟩⟩⟩⟩⟩⟩⟩⟩⟩⟩⟩⟩⟩⟩⟩⟩⟩⟩⟩⟩⟩⟩⟩⟩⟩⟩⟩⟩⟩⟩⟩⟩⟩⟩⟩⟩⟩⟩⟩⟩⟩⟩⟩⟩⟩⟩⟩⟩⟩
def MOK (k : Nat) : Prop := Cond.code (mY k) (mB k) (mL k) (mR k) ∈ lw_tbl ∧ Cond.initialized (mY k).cls ∈ lw_tbl
set_option maxRecDepth 100000 in
theorem mw_1 : MOK 1 := ⟨mem_1 222 rfl, mem_1 5 rfl⟩
set_option maxRecDepth 100000 in
theorem mw_2 : MOK 2 := ⟨mem_4 4 rfl, mem_1 5 rfl⟩
set_option maxRecDepth 100000 in
theorem mw_3 : MOK 3 := ⟨mem_4 21 rfl, mem_1 5 rfl⟩
set_option maxRecDepth 100000 in
theorem mw_4 : MOK 4 := ⟨mem_4 30 rfl, mem_1 5 rfl⟩
set_option maxRecDepth 100000 in
theorem mw_5 : MOK 5 := ⟨mem_4 33 rfl, mem_1 5 rfl⟩
set_option maxRecDepth 100000 in
theorem mw_6 : MOK 6 := ⟨mem_4 37 rfl, mem_1 5 rfl⟩
set_option maxRecDepth 100000 in
theorem mw_7 : MOK 7 := ⟨mem_4 46 rfl, mem_1 5 rfl⟩
set_option maxRecDepth 100000 in
theorem mw_8 : MOK 8 := ⟨mem_4 41 rfl, mem_1 5 rfl⟩
set_option maxRecDepth 100000 in
theorem mw_9 : MOK 9 := ⟨mem_3 212 rfl, mem_1 5 rfl⟩
set_option maxRecDepth 100000 in
theorem mw_10 : MOK 10 := ⟨mem_4 63 rfl, mem_1 5 rfl⟩
set_option maxRecDepth 100000 in
theorem mw_11 : MOK 11 := ⟨mem_4 85 rfl, mem_1 5 rfl⟩
set_option maxRecDepth 100000 in
theorem mw_12 : MOK 12 := ⟨mem_4 67 rfl, mem_1 5 rfl⟩
set_option maxRecDepth 100000 in
theorem mw_13 : MOK 13 := ⟨mem_4 117 rfl, mem_1 5 rfl⟩
set_option maxRecDepth 100000 in
theorem mw_14 : MOK 14 := ⟨mem_3 36 rfl, mem_1 15 rfl⟩
set_option maxRecDepth 100000 in
theorem mw_15 : MOK 15 := ⟨mem_3 147 rfl, mem_1 15 rfl⟩
set_option maxRecDepth 100000 in
theorem mw_16 : MOK 16 := ⟨mem_4 166 rfl, mem_1 15 rfl⟩
set_option maxRecDepth 100000 in
theorem mw_17 : MOK 17 := ⟨mem_3 69 rfl, mem_1 18 rfl⟩
set_option maxRecDepth 100000 in
theorem mw_18 : MOK 18 := ⟨mem_3 150 rfl, mem_1 18 rfl⟩
set_option maxRecDepth 100000 in
theorem mw_19 : MOK 19 := ⟨mem_4 137 rfl, mem_1 18 rfl⟩
set_option maxRecDepth 100000 in
theorem mw_20 : MOK 20 := ⟨mem_1 164 rfl, mem_1 4 rfl⟩
set_option maxRecDepth 100000 in
theorem mw_21 : MOK 21 := ⟨mem_4 239 rfl, mem_1 4 rfl⟩
set_option maxRecDepth 100000 in
theorem mw_22 : MOK 22 := ⟨mem_4 71 rfl, mem_1 4 rfl⟩
set_option maxRecDepth 100000 in
theorem mw_23 : MOK 23 := ⟨mem_4 76 rfl, mem_1 4 rfl⟩
set_option maxRecDepth 100000 in
theorem mw_24 : MOK 24 := ⟨mem_3 47 rfl, mem_1 16 rfl⟩
set_option maxRecDepth 100000 in
theorem mw_25 : MOK 25 := ⟨mem_3 154 rfl, mem_1 16 rfl⟩
set_option maxRecDepth 100000 in
theorem mw_26 : MOK 26 := ⟨mem_4 195 rfl, mem_1 16 rfl⟩
set_option maxRecDepth 100000 in
theorem mw_27 : MOK 27 := ⟨mem_3 0 rfl, mem_1 14 rfl⟩
set_option maxRecDepth 100000 in
theorem mw_28 : MOK 28 := ⟨mem_3 158 rfl, mem_1 14 rfl⟩
set_option maxRecDepth 100000 in
theorem mw_29 : MOK 29 := ⟨mem_4 150 rfl, mem_1 14 rfl⟩
set_option maxRecDepth 100000 in
theorem mw_30 : MOK 30 := ⟨mem_3 3 rfl, mem_1 13 rfl⟩
set_option maxRecDepth 100000 in
theorem mw_31 : MOK 31 := ⟨mem_3 167 rfl, mem_1 13 rfl⟩
set_option maxRecDepth 100000 in
theorem mw_32 : MOK 32 := ⟨mem_4 158 rfl, mem_1 13 rfl⟩
set_option maxRecDepth 100000 in
theorem mw_33 : MOK 33 := ⟨mem_4 185 rfl, mem_1 13 rfl⟩
set_option maxRecDepth 100000 in
theorem mw_34 : MOK 34 := ⟨mem_4 216 rfl, mem_1 13 rfl⟩
set_option maxRecDepth 100000 in
theorem mw_35 : MOK 35 := ⟨mem_4 143 rfl, mem_1 13 rfl⟩
set_option maxRecDepth 100000 in
theorem mw_36 : MOK 36 := ⟨mem_3 58 rfl, mem_1 17 rfl⟩
set_option maxRecDepth 100000 in
theorem mw_37 : MOK 37 := ⟨mem_3 161 rfl, mem_1 17 rfl⟩
set_option maxRecDepth 100000 in
theorem mw_38 : MOK 38 := ⟨mem_4 204 rfl, mem_1 17 rfl⟩
set_option maxRecDepth 100000 in
theorem mw_39 : MOK 39 := ⟨mem_1 42 rfl, mem_1 3 rfl⟩
set_option maxRecDepth 100000 in
theorem mw_40 : MOK 40 := ⟨mem_2 58 rfl, mem_1 3 rfl⟩
set_option maxRecDepth 100000 in
theorem mw_41 : MOK 41 := ⟨mem_2 65 rfl, mem_1 3 rfl⟩
set_option maxRecDepth 100000 in
theorem mw_42 : MOK 42 := ⟨mem_2 72 rfl, mem_1 3 rfl⟩
set_option maxRecDepth 100000 in
theorem mw_43 : MOK 43 := ⟨mem_2 148 rfl, mem_1 3 rfl⟩
set_option maxRecDepth 100000 in
theorem mw_44 : MOK 44 := ⟨mem_2 152 rfl, mem_1 3 rfl⟩
set_option maxRecDepth 100000 in
theorem mw_45 : MOK 45 := ⟨mem_2 156 rfl, mem_1 3 rfl⟩
set_option maxRecDepth 100000 in
theorem mw_46 : MOK 46 := ⟨mem_2 141 rfl, mem_1 3 rfl⟩
set_option maxRecDepth 100000 in
theorem mw_47 : MOK 47 := ⟨mem_2 144 rfl, mem_1 3 rfl⟩
set_option maxRecDepth 100000 in
theorem mw_48 : MOK 48 := ⟨mem_2 161 rfl, mem_1 3 rfl⟩
set_option maxRecDepth 100000 in
theorem mw_49 : MOK 49 := ⟨mem_2 81 rfl, mem_1 3 rfl⟩
set_option maxRecDepth 100000 in
theorem mw_50 : MOK 50 := ⟨mem_2 133 rfl, mem_1 3 rfl⟩
set_option maxRecDepth 100000 in
theorem mw_51 : MOK 51 := ⟨mem_2 69 rfl, mem_1 3 rfl⟩
set_option maxRecDepth 100000 in
theorem mw_52 : MOK 52 := ⟨mem_2 223 rfl, mem_1 3 rfl⟩
set_option maxRecDepth 100000 in
theorem mw_53 : MOK 53 := ⟨mem_3 140 rfl, mem_1 3 rfl⟩
set_option maxRecDepth 100000 in
theorem mw_54 : MOK 54 := ⟨mem_3 137 rfl, mem_1 3 rfl⟩
set_option maxRecDepth 100000 in
theorem mw_55 : MOK 55 := ⟨mem_3 80 rfl, mem_1 19 rfl⟩
set_option maxRecDepth 100000 in
theorem mw_56 : MOK 56 := ⟨mem_3 165 rfl, mem_1 19 rfl⟩
set_option maxRecDepth 100000 in
theorem mw_57 : MOK 57 := ⟨mem_4 178 rfl, mem_1 19 rfl⟩
set_option maxRecDepth 100000 in
theorem mw_58 : MOK 58 := ⟨mem_1 34 rfl, mem_1 2 rfl⟩
set_option maxRecDepth 100000 in
theorem mw_59 : MOK 59 := ⟨mem_4 8 rfl, mem_1 2 rfl⟩
set_option maxRecDepth 100000 in
theorem mw_60 : MOK 60 := ⟨mem_3 98 rfl, mem_1 2 rfl⟩
set_option maxRecDepth 100000 in
theorem mw_61 : MOK 61 := ⟨mem_2 227 rfl, mem_1 2 rfl⟩
set_option maxRecDepth 100000 in
theorem mw_62 : MOK 62 := ⟨mem_3 229 rfl, mem_1 2 rfl⟩
set_option maxRecDepth 100000 in
theorem mw_63 : MOK 63 := ⟨mem_3 119 rfl, mem_1 2 rfl⟩
set_option maxRecDepth 100000 in
theorem mw_64 : MOK 64 := ⟨mem_3 115 rfl, mem_1 2 rfl⟩
set_option maxRecDepth 100000 in
theorem mw_65 : MOK 65 := ⟨mem_3 111 rfl, mem_1 2 rfl⟩
set_option maxRecDepth 100000 in
theorem mw_66 : MOK 66 := ⟨mem_3 194 rfl, mem_1 2 rfl⟩
set_option maxRecDepth 100000 in
theorem mw_67 : MOK 67 := ⟨mem_3 123 rfl, mem_1 2 rfl⟩
set_option maxRecDepth 100000 in
theorem mw_68 : MOK 68 := ⟨mem_3 127 rfl, mem_1 2 rfl⟩
set_option maxRecDepth 100000 in
theorem mw_69 : MOK 69 := ⟨mem_3 199 rfl, mem_1 2 rfl⟩
set_option maxRecDepth 100000 in
theorem mw_70 : MOK 70 := ⟨mem_3 223 rfl, mem_1 2 rfl⟩
set_option maxRecDepth 100000 in
theorem mw_71 : MOK 71 := ⟨mem_3 208 rfl, mem_1 2 rfl⟩
set_option maxRecDepth 100000 in
theorem mw_72 : MOK 72 := ⟨mem_3 204 rfl, mem_1 2 rfl⟩
set_option maxRecDepth 100000 in
theorem mw_73 : MOK 73 := ⟨mem_1 26 rfl, mem_1 1 rfl⟩
set_option maxRecDepth 100000 in
theorem mw_74 : MOK 74 := ⟨mem_2 50 rfl, mem_1 1 rfl⟩
set_option maxRecDepth 100000 in
theorem mw_75 : MOK 75 := ⟨mem_2 54 rfl, mem_1 1 rfl⟩
set_option maxRecDepth 100000 in
theorem mw_76 : MOK 76 := ⟨mem_2 231 rfl, mem_1 1 rfl⟩
set_option maxRecDepth 100000 in
theorem mw_77 : MOK 77 := ⟨mem_3 102 rfl, mem_1 1 rfl⟩
set_option maxRecDepth 100000 in
theorem mw_78 : MOK 78 := ⟨mem_3 171 rfl, mem_1 1 rfl⟩
set_option maxRecDepth 100000 in
theorem mw_79 : MOK 79 := ⟨mem_3 175 rfl, mem_1 1 rfl⟩
set_option maxRecDepth 100000 in
theorem mw_80 : MOK 80 := ⟨mem_3 182 rfl, mem_1 1 rfl⟩
set_option maxRecDepth 100000 in
theorem mw_81 : MOK 81 := ⟨mem_3 186 rfl, mem_1 1 rfl⟩
set_option maxRecDepth 100000 in
theorem mw_82 : MOK 82 := ⟨mem_3 190 rfl, mem_1 1 rfl⟩
set_option maxRecDepth 100000 in
theorem mw_83 : MOK 83 := ⟨mem_3 219 rfl, mem_1 1 rfl⟩
set_option maxRecDepth 100000 in
theorem mw_84 : MOK 84 := ⟨mem_3 233 rfl, mem_1 1 rfl⟩
set_option maxRecDepth 100000 in
theorem mw_85 : MOK 85 := ⟨mem_3 237 rfl, mem_1 1 rfl⟩
set_option maxRecDepth 100000 in
theorem mw_86 : MOK 86 := ⟨mem_4 17 rfl, mem_1 1 rfl⟩
set_option maxRecDepth 100000 in
theorem mw_87 : MOK 87 := ⟨mem_4 26 rfl, mem_1 1 rfl⟩
set_option maxRecDepth 100000 in
theorem mw_88 : MOK 88 := ⟨mem_4 50 rfl, mem_1 1 rfl⟩
set_option maxRecDepth 100000 in
theorem mw_89 : MOK 89 := ⟨mem_4 55 rfl, mem_1 1 rfl⟩
set_option maxRecDepth 100000 in
theorem mw_90 : MOK 90 := ⟨mem_4 59 rfl, mem_1 1 rfl⟩
set_option maxRecDepth 100000 in
theorem mw_91 : MOK 91 := ⟨mem_4 81 rfl, mem_1 1 rfl⟩
set_option maxRecDepth 100000 in
theorem mw_92 : MOK 92 := ⟨mem_4 89 rfl, mem_1 1 rfl⟩
set_option maxRecDepth 100000 in
theorem mw_93 : MOK 93 := ⟨mem_4 103 rfl, mem_1 1 rfl⟩
set_option maxRecDepth 100000 in
theorem mw_94 : MOK 94 := ⟨mem_4 109 rfl, mem_1 1 rfl⟩
set_option maxRecDepth 100000 in
theorem mw_95 : MOK 95 := ⟨mem_4 113 rfl, mem_1 1 rfl⟩
set_option maxRecDepth 100000 in
theorem mw_96 : MOK 96 := ⟨mem_4 121 rfl, mem_1 1 rfl⟩
set_option maxRecDepth 100000 in
theorem mw_97 : MOK 97 := ⟨mem_4 125 rfl, mem_1 1 rfl⟩
set_option maxRecDepth 100000 in
theorem mw_98 : MOK 98 := ⟨mem_4 129 rfl, mem_1 1 rfl⟩
set_option maxRecDepth 100000 in
theorem mw_99 : MOK 99 := ⟨mem_4 221 rfl, mem_1 1 rfl⟩
set_option maxRecDepth 100000 in
theorem mw_100 : MOK 100 := ⟨mem_4 225 rfl, mem_1 1 rfl⟩
set_option maxRecDepth 100000 in
theorem mw_101 : MOK 101 := ⟨mem_4 234 rfl, mem_1 1 rfl⟩
set_option maxRecDepth 100000 in
theorem mw_102 : MOK 102 := ⟨mem_5 4 rfl, mem_1 1 rfl⟩
set_option maxRecDepth 100000 in
theorem mw_103 : MOK 103 := ⟨mem_5 8 rfl, mem_1 1 rfl⟩
set_option maxRecDepth 100000 in
theorem mw_104 : MOK 104 := ⟨mem_3 106 rfl, mem_1 1 rfl⟩
set_option maxRecDepth 100000 in
theorem mw_105 : MOK 105 := ⟨mem_4 0 rfl, mem_1 1 rfl⟩
set_option maxRecDepth 100000 in
theorem mw_106 : MOK 106 := ⟨mem_4 92 rfl, mem_1 1 rfl⟩
set_option maxRecDepth 100000 in
theorem mw_107 : MOK 107 := ⟨mem_3 178 rfl, mem_1 1 rfl⟩
set_option maxRecDepth 100000 in
theorem mw_108 : MOK 108 := ⟨mem_4 228 rfl, mem_1 1 rfl⟩
set_option maxRecDepth 100000 in
theorem mw_109 : MOK 109 := ⟨mem_4 96 rfl, mem_1 1 rfl⟩
set_option maxRecDepth 100000 in
theorem mw_110 : MOK 110 := ⟨mem_4 99 rfl, mem_1 1 rfl⟩
set_option maxRecDepth 100000 in
theorem mw_111 : MOK 111 := ⟨mem_2 235 rfl, mem_1 1 rfl⟩
set_option maxRecDepth 100000 in
theorem mw_112 : MOK 112 := ⟨mem_5 13 rfl, mem_1 6 rfl⟩
set_option maxRecDepth 100000 in
theorem mw_113 : MOK 113 := ⟨mem_5 82 rfl, mem_1 6 rfl⟩
set_option maxRecDepth 100000 in
theorem mw_114 : MOK 114 := ⟨mem_5 154 rfl, mem_1 6 rfl⟩
set_option maxRecDepth 100000 in
theorem mw_115 : MOK 115 := ⟨mem_6 32 rfl, mem_1 6 rfl⟩
set_option maxRecDepth 100000 in
theorem mw_116 : MOK 116 := ⟨mem_6 40 rfl, mem_1 6 rfl⟩
set_option maxRecDepth 100000 in
theorem mw_117 : MOK 117 := ⟨mem_5 79 rfl, mem_1 6 rfl⟩
set_option maxRecDepth 100000 in
theorem mw_118 : MOK 118 := ⟨mem_5 94 rfl, mem_1 6 rfl⟩
set_option maxRecDepth 100000 in
theorem mw_119 : MOK 119 := ⟨mem_5 109 rfl, mem_1 6 rfl⟩
set_option maxRecDepth 100000 in
theorem mw_120 : MOK 120 := ⟨mem_5 103 rfl, mem_1 6 rfl⟩
set_option maxRecDepth 100000 in
theorem mw_121 : MOK 121 := ⟨mem_5 113 rfl, mem_1 6 rfl⟩
set_option maxRecDepth 100000 in
theorem mw_122 : MOK 122 := ⟨mem_5 140 rfl, mem_1 6 rfl⟩
set_option maxRecDepth 100000 in
theorem mw_123 : MOK 123 := ⟨mem_5 135 rfl, mem_1 6 rfl⟩
set_option maxRecDepth 100000 in
theorem mw_124 : MOK 124 := ⟨mem_5 131 rfl, mem_1 6 rfl⟩
set_option maxRecDepth 100000 in
theorem mw_125 : MOK 125 := ⟨mem_5 127 rfl, mem_1 6 rfl⟩
set_option maxRecDepth 100000 in
theorem mw_126 : MOK 126 := ⟨mem_5 123 rfl, mem_1 6 rfl⟩
set_option maxRecDepth 100000 in
theorem mw_127 : MOK 127 := ⟨mem_5 119 rfl, mem_1 6 rfl⟩
set_option maxRecDepth 100000 in
theorem mw_128 : MOK 128 := ⟨mem_5 99 rfl, mem_1 6 rfl⟩
set_option maxRecDepth 100000 in
theorem mw_129 : MOK 129 := ⟨mem_5 90 rfl, mem_1 6 rfl⟩
set_option maxRecDepth 100000 in
theorem mw_130 : MOK 130 := ⟨mem_5 86 rfl, mem_1 6 rfl⟩
set_option maxRecDepth 100000 in
theorem mw_131 : MOK 131 := ⟨mem_5 182 rfl, mem_1 6 rfl⟩
set_option maxRecDepth 100000 in
theorem mw_132 : MOK 132 := ⟨mem_6 15 rfl, mem_1 6 rfl⟩
set_option maxRecDepth 100000 in
theorem mw_133 : MOK 133 := ⟨mem_5 167 rfl, mem_1 6 rfl⟩
set_option maxRecDepth 100000 in
theorem mw_134 : MOK 134 := ⟨mem_5 178 rfl, mem_1 6 rfl⟩
set_option maxRecDepth 100000 in
theorem mw_135 : MOK 135 := ⟨mem_5 175 rfl, mem_1 6 rfl⟩
set_option maxRecDepth 100000 in
theorem mw_136 : MOK 136 := ⟨mem_5 186 rfl, mem_1 6 rfl⟩
set_option maxRecDepth 100000 in
theorem mw_137 : MOK 137 := ⟨mem_5 171 rfl, mem_1 6 rfl⟩
set_option maxRecDepth 100000 in
theorem mw_138 : MOK 138 := ⟨mem_5 163 rfl, mem_1 6 rfl⟩
set_option maxRecDepth 100000 in
theorem mw_139 : MOK 139 := ⟨mem_5 159 rfl, mem_1 6 rfl⟩
set_option maxRecDepth 100000 in
theorem mw_140 : MOK 140 := ⟨mem_5 222 rfl, mem_1 6 rfl⟩
set_option maxRecDepth 100000 in
theorem mw_141 : MOK 141 := ⟨mem_5 194 rfl, mem_1 6 rfl⟩
set_option maxRecDepth 100000 in
theorem mw_142 : MOK 142 := ⟨mem_5 146 rfl, mem_1 6 rfl⟩
set_option maxRecDepth 100000 in
theorem mw_143 : MOK 143 := ⟨mem_5 150 rfl, mem_1 6 rfl⟩
set_option maxRecDepth 100000 in
theorem mw_144 : MOK 144 := ⟨mem_5 190 rfl, mem_1 6 rfl⟩
set_option maxRecDepth 100000 in
theorem mw_145 : MOK 145 := ⟨mem_5 198 rfl, mem_1 6 rfl⟩
set_option maxRecDepth 100000 in
theorem mw_146 : MOK 146 := ⟨mem_5 202 rfl, mem_1 6 rfl⟩
set_option maxRecDepth 100000 in
theorem mw_147 : MOK 147 := ⟨mem_5 206 rfl, mem_1 6 rfl⟩
set_option maxRecDepth 100000 in
theorem mw_148 : MOK 148 := ⟨mem_5 214 rfl, mem_1 6 rfl⟩
set_option maxRecDepth 100000 in
theorem mw_149 : MOK 149 := ⟨mem_5 218 rfl, mem_1 6 rfl⟩
set_option maxRecDepth 100000 in
theorem mw_150 : MOK 150 := ⟨mem_5 230 rfl, mem_1 6 rfl⟩
set_option maxRecDepth 100000 in
theorem mw_151 : MOK 151 := ⟨mem_5 226 rfl, mem_1 6 rfl⟩
set_option maxRecDepth 100000 in
theorem mw_152 : MOK 152 := ⟨mem_5 239 rfl, mem_1 6 rfl⟩
set_option maxRecDepth 100000 in
theorem mw_153 : MOK 153 := ⟨mem_5 234 rfl, mem_1 6 rfl⟩
set_option maxRecDepth 100000 in
theorem mw_154 : MOK 154 := ⟨mem_5 210 rfl, mem_1 6 rfl⟩
set_option maxRecDepth 100000 in
theorem mw_155 : MOK 155 := ⟨mem_6 11 rfl, mem_1 6 rfl⟩
set_option maxRecDepth 100000 in
theorem mw_156 : MOK 156 := ⟨mem_6 7 rfl, mem_1 6 rfl⟩
set_option maxRecDepth 100000 in
theorem mw_157 : MOK 157 := ⟨mem_6 19 rfl, mem_1 6 rfl⟩
set_option maxRecDepth 100000 in
theorem mw_158 : MOK 158 := ⟨mem_6 3 rfl, mem_1 6 rfl⟩
set_option maxRecDepth 100000 in
theorem mw_159 : MOK 159 := ⟨mem_6 24 rfl, mem_1 6 rfl⟩
set_option maxRecDepth 100000 in
theorem mw_160 : MOK 160 := ⟨mem_6 36 rfl, mem_1 6 rfl⟩
set_option maxRecDepth 100000 in
theorem mw_161 : MOK 161 := ⟨mem_6 28 rfl, mem_1 6 rfl⟩
set_option maxRecDepth 100000 in
theorem mw_162 : MOK 162 := ⟨mem_6 44 rfl, mem_1 6 rfl⟩
set_option maxRecDepth 100000 in
theorem mw_163 : MOK 163 := ⟨mem_6 52 rfl, mem_1 6 rfl⟩
set_option maxRecDepth 100000 in
theorem mw_164 : MOK 164 := ⟨mem_6 56 rfl, mem_1 6 rfl⟩
set_option maxRecDepth 100000 in
theorem mw_165 : MOK 165 := ⟨mem_6 48 rfl, mem_1 6 rfl⟩
set_option maxRecDepth 100000 in
theorem mw_166 : MOK 166 := ⟨mem_6 60 rfl, mem_1 6 rfl⟩
set_option maxRecDepth 100000 in
theorem mw_167 : MOK 167 := ⟨mem_6 64 rfl, mem_1 6 rfl⟩
set_option maxRecDepth 100000 in
theorem mw_168 : MOK 168 := ⟨mem_6 76 rfl, mem_1 6 rfl⟩
set_option maxRecDepth 100000 in
theorem mw_169 : MOK 169 := ⟨mem_6 72 rfl, mem_1 6 rfl⟩
set_option maxRecDepth 100000 in
theorem mw_170 : MOK 170 := ⟨mem_6 68 rfl, mem_1 6 rfl⟩
set_option maxRecDepth 100000 in
theorem mw_171 : MOK 171 := ⟨mem_6 80 rfl, mem_1 6 rfl⟩
set_option maxRecDepth 100000 in
theorem mw_172 : MOK 172 := ⟨mem_6 89 rfl, mem_1 6 rfl⟩
set_option maxRecDepth 100000 in
theorem mw_173 : MOK 173 := ⟨mem_6 84 rfl, mem_1 6 rfl⟩
set_option maxRecDepth 100000 in
theorem mw_174 : MOK 174 := ⟨mem_6 93 rfl, mem_1 6 rfl⟩
set_option maxRecDepth 100000 in
theorem mw_175 : MOK 175 := ⟨mem_6 97 rfl, mem_1 6 rfl⟩
set_option maxRecDepth 100000 in
theorem mw_176 : MOK 176 := ⟨mem_6 105 rfl, mem_1 6 rfl⟩
set_option maxRecDepth 100000 in
theorem mw_177 : MOK 177 := ⟨mem_6 101 rfl, mem_1 6 rfl⟩
set_option maxRecDepth 100000 in
theorem mw_178 : MOK 178 := ⟨mem_6 109 rfl, mem_1 6 rfl⟩
set_option maxRecDepth 100000 in
theorem mw_179 : MOK 179 := ⟨mem_6 113 rfl, mem_1 6 rfl⟩
set_option maxRecDepth 100000 in
theorem mw_180 : MOK 180 := ⟨mem_6 128 rfl, mem_1 6 rfl⟩
set_option maxRecDepth 100000 in
theorem mw_181 : MOK 181 := ⟨mem_6 124 rfl, mem_1 6 rfl⟩
set_option maxRecDepth 100000 in
theorem mw_182 : MOK 182 := ⟨mem_6 132 rfl, mem_1 6 rfl⟩
set_option maxRecDepth 100000 in
theorem mw_183 : MOK 183 := ⟨mem_6 121 rfl, mem_1 6 rfl⟩
set_option maxRecDepth 100000 in
theorem mw_184 : MOK 184 := ⟨mem_6 140 rfl, mem_1 6 rfl⟩
set_option maxRecDepth 100000 in
theorem mw_185 : MOK 185 := ⟨mem_6 136 rfl, mem_1 6 rfl⟩
set_option maxRecDepth 100000 in
theorem mw_186 : MOK 186 := ⟨mem_6 148 rfl, mem_1 6 rfl⟩
set_option maxRecDepth 100000 in
theorem mw_187 : MOK 187 := ⟨mem_6 144 rfl, mem_1 6 rfl⟩
set_option maxRecDepth 100000 in
theorem mw_188 : MOK 188 := ⟨mem_6 117 rfl, mem_1 6 rfl⟩
set_option maxRecDepth 100000 in
theorem mw_189 : MOK 189 := ⟨mem_6 152 rfl, mem_1 6 rfl⟩
set_option maxRecDepth 100000 in
theorem mw_190 : MOK 190 := ⟨mem_6 156 rfl, mem_1 6 rfl⟩
set_option maxRecDepth 100000 in
theorem mw_191 : MOK 191 := ⟨mem_6 160 rfl, mem_1 6 rfl⟩
set_option maxRecDepth 100000 in
theorem mw_192 : MOK 192 := ⟨mem_6 164 rfl, mem_1 6 rfl⟩
set_option maxRecDepth 100000 in
theorem mw_193 : MOK 193 := ⟨mem_6 168 rfl, mem_1 6 rfl⟩
set_option maxRecDepth 100000 in
theorem mw_194 : MOK 194 := ⟨mem_2 85 rfl, mem_1 8 rfl⟩
set_option maxRecDepth 100000 in
theorem mw_195 : MOK 195 := ⟨mem_2 137 rfl, mem_1 8 rfl⟩
set_option maxRecDepth 100000 in
theorem mw_196 : MOK 196 := ⟨mem_2 95 rfl, mem_1 8 rfl⟩
set_option maxRecDepth 100000 in
theorem mw_197 : MOK 197 := ⟨mem_2 165 rfl, mem_1 8 rfl⟩
set_option maxRecDepth 100000 in
theorem mw_198 : MOK 198 := ⟨mem_2 169 rfl, mem_1 8 rfl⟩
set_option maxRecDepth 100000 in
theorem mw_199 : MOK 199 := ⟨mem_2 89 rfl, mem_1 8 rfl⟩
set_option maxRecDepth 100000 in
theorem mw_200 : MOK 200 := ⟨mem_2 99 rfl, mem_1 8 rfl⟩
set_option maxRecDepth 100000 in
theorem mw_201 : MOK 201 := ⟨mem_2 105 rfl, mem_1 8 rfl⟩
set_option maxRecDepth 100000 in
theorem mw_202 : MOK 202 := ⟨mem_2 102 rfl, mem_1 9 rfl⟩
set_option maxRecDepth 100000 in
theorem mw_203 : MOK 203 := ⟨mem_2 176 rfl, mem_1 9 rfl⟩
set_option maxRecDepth 100000 in
theorem mw_204 : MOK 204 := ⟨mem_2 173 rfl, mem_1 9 rfl⟩
set_option maxRecDepth 100000 in
theorem mw_205 : MOK 205 := ⟨mem_2 183 rfl, mem_1 9 rfl⟩
set_option maxRecDepth 100000 in
theorem mw_206 : MOK 206 := ⟨mem_2 110 rfl, mem_1 10 rfl⟩
set_option maxRecDepth 100000 in
theorem mw_207 : MOK 207 := ⟨mem_3 130 rfl, mem_1 20 rfl⟩
set_option maxRecDepth 100000 in
theorem mw_208 : MOK 208 := ⟨mem_2 179 rfl, mem_1 7 rfl⟩
set_option maxRecDepth 100000 in
theorem mw_209 : MOK 209 := ⟨mem_2 61 rfl, mem_1 7 rfl⟩
set_option maxRecDepth 100000 in
theorem mw_210 : MOK 210 := ⟨mem_2 210 rfl, mem_1 12 rfl⟩
set_option maxRecDepth 100000 in
theorem mw_211 : MOK 211 := ⟨mem_2 213 rfl, mem_1 12 rfl⟩
set_option maxRecDepth 100000 in
theorem mw_212 : MOK 212 := ⟨mem_2 217 rfl, mem_1 12 rfl⟩
