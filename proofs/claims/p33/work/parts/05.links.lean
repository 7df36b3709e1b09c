/-! links by numbers: classes, calls, fields; each with its words by their places -/
theorem mem_p {w : Cond} (i : Nat) (h : (k2_sels lw_privs)[i]? = some w) : w ∈ lw_tbl := List.mem_append_left _ (List.mem_of_getElem? h)
theorem mem_1 {w : Cond} (i : Nat) (h : tables_1_1[i]? = some w) : w ∈ lw_tbl := List.mem_append_right _ (show w ∈ tables_1_1 ++ (tables_1_2 ++ (tables_1_3 ++ (tables_1_4 ++ tables_1_5))) from List.mem_append_left _ (List.mem_of_getElem? h))
theorem mem_2 {w : Cond} (i : Nat) (h : tables_1_2[i]? = some w) : w ∈ lw_tbl := List.mem_append_right _ (show w ∈ tables_1_1 ++ (tables_1_2 ++ (tables_1_3 ++ (tables_1_4 ++ tables_1_5))) from List.mem_append_right _ (List.mem_append_left _ (List.mem_of_getElem? h)))
theorem mem_3 {w : Cond} (i : Nat) (h : tables_1_3[i]? = some w) : w ∈ lw_tbl := List.mem_append_right _ (show w ∈ tables_1_1 ++ (tables_1_2 ++ (tables_1_3 ++ (tables_1_4 ++ tables_1_5))) from List.mem_append_right _ (List.mem_append_right _ (List.mem_append_left _ (List.mem_of_getElem? h))))
theorem mem_4 {w : Cond} (i : Nat) (h : tables_1_4[i]? = some w) : w ∈ lw_tbl := List.mem_append_right _ (show w ∈ tables_1_1 ++ (tables_1_2 ++ (tables_1_3 ++ (tables_1_4 ++ tables_1_5))) from List.mem_append_right _ (List.mem_append_right _ (List.mem_append_right _ (List.mem_append_left _ (List.mem_of_getElem? h)))))
theorem mem_5 {w : Cond} (i : Nat) (h : tables_1_5[i]? = some w) : w ∈ lw_tbl := List.mem_append_right _ (show w ∈ tables_1_1 ++ (tables_1_2 ++ (tables_1_3 ++ (tables_1_4 ++ tables_1_5))) from List.mem_append_right _ (List.mem_append_right _ (List.mem_append_right _ (List.mem_append_right _ (List.mem_of_getElem? h)))))
def cn (o : Nat) : String := bif Nat.blt o 10 then (bif Nat.blt o 5 then (bif Nat.blt o 2 then (bif Nat.blt o 1 then ("VerandaTalk$Asked") else ("VerandaTalk$Boundary")) else (bif Nat.blt o 3 then ("VerandaTalk$Frontier") else (bif Nat.blt o 4 then ("VerandaTalk$Hand") else ("VerandaTalk$Loan")))) else (bif Nat.blt o 7 then (bif Nat.blt o 6 then ("VerandaTalk$Marriage") else ("VerandaTalk$Matter")) else (bif Nat.blt o 8 then ("VerandaTalk$Possible") else (bif Nat.blt o 9 then ("VerandaTalk$Station") else ("VerandaTalk$Told"))))) else (bif Nat.blt o 15 then (bif Nat.blt o 12 then (bif Nat.blt o 11 then ("VerandaTalk$Veranda") else ("VerandaTalk")) else (bif Nat.blt o 13 then ("VerandaTalk") else (bif Nat.blt o 14 then ("VerandaTalkLaw") else ("java/lang/Character")))) else (bif Nat.blt o 17 then (bif Nat.blt o 16 then ("java/lang/Integer") else ("java/lang/Math")) else (bif Nat.blt o 18 then ("java/lang/String") else (bif Nat.blt o 19 then ("java/lang/StringLatin1") else ("jdk/internal/util/Preconditions")))))
def mO (k : Nat) : Nat := bif Nat.blt k 73 then (bif Nat.blt k 36 then (bif Nat.blt k 18 then (bif Nat.blt k 9 then (bif Nat.blt k 4 then (bif Nat.blt k 2 then (bif Nat.blt k 1 then (13) else (13)) else (bif Nat.blt k 3 then (13) else (13))) else (bif Nat.blt k 6 then (bif Nat.blt k 5 then (13) else (13)) else (bif Nat.blt k 7 then (13) else (bif Nat.blt k 8 then (13) else (13))))) else (bif Nat.blt k 13 then (bif Nat.blt k 11 then (bif Nat.blt k 10 then (13) else (13)) else (bif Nat.blt k 12 then (13) else (13))) else (bif Nat.blt k 15 then (bif Nat.blt k 14 then (13) else (13)) else (bif Nat.blt k 16 then (13) else (bif Nat.blt k 17 then (13) else (0)))))) else (bif Nat.blt k 27 then (bif Nat.blt k 22 then (bif Nat.blt k 20 then (bif Nat.blt k 19 then (0) else (0)) else (bif Nat.blt k 21 then (0) else (0))) else (bif Nat.blt k 24 then (bif Nat.blt k 23 then (0) else (0)) else (bif Nat.blt k 25 then (0) else (bif Nat.blt k 26 then (0) else (0))))) else (bif Nat.blt k 31 then (bif Nat.blt k 29 then (bif Nat.blt k 28 then (0) else (0)) else (bif Nat.blt k 30 then (0) else (1))) else (bif Nat.blt k 33 then (bif Nat.blt k 32 then (1) else (1)) else (bif Nat.blt k 34 then (2) else (bif Nat.blt k 35 then (2) else (2))))))) else (bif Nat.blt k 54 then (bif Nat.blt k 45 then (bif Nat.blt k 40 then (bif Nat.blt k 38 then (bif Nat.blt k 37 then (3) else (3)) else (bif Nat.blt k 39 then (3) else (3))) else (bif Nat.blt k 42 then (bif Nat.blt k 41 then (4) else (4)) else (bif Nat.blt k 43 then (4) else (bif Nat.blt k 44 then (5) else (5))))) else (bif Nat.blt k 49 then (bif Nat.blt k 47 then (bif Nat.blt k 46 then (5) else (6)) else (bif Nat.blt k 48 then (6) else (6))) else (bif Nat.blt k 51 then (bif Nat.blt k 50 then (6) else (6)) else (bif Nat.blt k 52 then (6) else (bif Nat.blt k 53 then (7) else (7)))))) else (bif Nat.blt k 63 then (bif Nat.blt k 58 then (bif Nat.blt k 56 then (bif Nat.blt k 55 then (7) else (8)) else (bif Nat.blt k 57 then (8) else (8))) else (bif Nat.blt k 60 then (bif Nat.blt k 59 then (8) else (8)) else (bif Nat.blt k 61 then (8) else (bif Nat.blt k 62 then (8) else (8))))) else (bif Nat.blt k 68 then (bif Nat.blt k 65 then (bif Nat.blt k 64 then (8) else (8)) else (bif Nat.blt k 66 then (8) else (bif Nat.blt k 67 then (8) else (8)))) else (bif Nat.blt k 70 then (bif Nat.blt k 69 then (8) else (8)) else (bif Nat.blt k 71 then (8) else (bif Nat.blt k 72 then (9) else (9)))))))) else (bif Nat.blt k 110 then (bif Nat.blt k 91 then (bif Nat.blt k 82 then (bif Nat.blt k 77 then (bif Nat.blt k 75 then (bif Nat.blt k 74 then (9) else (10)) else (bif Nat.blt k 76 then (10) else (10))) else (bif Nat.blt k 79 then (bif Nat.blt k 78 then (10) else (10)) else (bif Nat.blt k 80 then (10) else (bif Nat.blt k 81 then (10) else (10))))) else (bif Nat.blt k 86 then (bif Nat.blt k 84 then (bif Nat.blt k 83 then (10) else (10)) else (bif Nat.blt k 85 then (10) else (10))) else (bif Nat.blt k 88 then (bif Nat.blt k 87 then (10) else (10)) else (bif Nat.blt k 89 then (10) else (bif Nat.blt k 90 then (11) else (11)))))) else (bif Nat.blt k 100 then (bif Nat.blt k 95 then (bif Nat.blt k 93 then (bif Nat.blt k 92 then (11) else (11)) else (bif Nat.blt k 94 then (11) else (11))) else (bif Nat.blt k 97 then (bif Nat.blt k 96 then (11) else (11)) else (bif Nat.blt k 98 then (11) else (bif Nat.blt k 99 then (11) else (11))))) else (bif Nat.blt k 105 then (bif Nat.blt k 102 then (bif Nat.blt k 101 then (11) else (11)) else (bif Nat.blt k 103 then (11) else (bif Nat.blt k 104 then (11) else (11)))) else (bif Nat.blt k 107 then (bif Nat.blt k 106 then (11) else (11)) else (bif Nat.blt k 108 then (11) else (bif Nat.blt k 109 then (11) else (11))))))) else (bif Nat.blt k 128 then (bif Nat.blt k 119 then (bif Nat.blt k 114 then (bif Nat.blt k 112 then (bif Nat.blt k 111 then (11) else (11)) else (bif Nat.blt k 113 then (11) else (11))) else (bif Nat.blt k 116 then (bif Nat.blt k 115 then (11) else (11)) else (bif Nat.blt k 117 then (11) else (bif Nat.blt k 118 then (11) else (11))))) else (bif Nat.blt k 123 then (bif Nat.blt k 121 then (bif Nat.blt k 120 then (11) else (11)) else (bif Nat.blt k 122 then (11) else (11))) else (bif Nat.blt k 125 then (bif Nat.blt k 124 then (11) else (11)) else (bif Nat.blt k 126 then (11) else (bif Nat.blt k 127 then (11) else (11)))))) else (bif Nat.blt k 137 then (bif Nat.blt k 132 then (bif Nat.blt k 130 then (bif Nat.blt k 129 then (17) else (17)) else (bif Nat.blt k 131 then (17) else (17))) else (bif Nat.blt k 134 then (bif Nat.blt k 133 then (17) else (17)) else (bif Nat.blt k 135 then (17) else (bif Nat.blt k 136 then (17) else (18))))) else (bif Nat.blt k 142 then (bif Nat.blt k 139 then (bif Nat.blt k 138 then (18) else (18)) else (bif Nat.blt k 140 then (18) else (bif Nat.blt k 141 then (19) else (15)))) else (bif Nat.blt k 144 then (bif Nat.blt k 143 then (16) else (16)) else (bif Nat.blt k 145 then (14) else (bif Nat.blt k 146 then (14) else (14))))))))
def mA (k : Nat) : Nat := bif Nat.blt k 73 then (bif Nat.blt k 36 then (bif Nat.blt k 18 then (bif Nat.blt k 9 then (bif Nat.blt k 4 then (bif Nat.blt k 2 then (bif Nat.blt k 1 then (1) else (2)) else (bif Nat.blt k 3 then (2) else (3))) else (bif Nat.blt k 6 then (bif Nat.blt k 5 then (1) else (1)) else (bif Nat.blt k 7 then (1) else (bif Nat.blt k 8 then (1) else (2))))) else (bif Nat.blt k 13 then (bif Nat.blt k 11 then (bif Nat.blt k 10 then (2) else (3)) else (bif Nat.blt k 12 then (4) else (1))) else (bif Nat.blt k 15 then (bif Nat.blt k 14 then (3) else (4)) else (bif Nat.blt k 16 then (3) else (bif Nat.blt k 17 then (1) else (0)))))) else (bif Nat.blt k 27 then (bif Nat.blt k 22 then (bif Nat.blt k 20 then (bif Nat.blt k 19 then (2) else (4)) else (bif Nat.blt k 21 then (2) else (1))) else (bif Nat.blt k 24 then (bif Nat.blt k 23 then (2) else (2)) else (bif Nat.blt k 25 then (2) else (bif Nat.blt k 26 then (1) else (2))))) else (bif Nat.blt k 31 then (bif Nat.blt k 29 then (bif Nat.blt k 28 then (3) else (1)) else (bif Nat.blt k 30 then (2) else (4))) else (bif Nat.blt k 33 then (bif Nat.blt k 32 then (2) else (1)) else (bif Nat.blt k 34 then (4) else (bif Nat.blt k 35 then (2) else (1))))))) else (bif Nat.blt k 54 then (bif Nat.blt k 45 then (bif Nat.blt k 40 then (bif Nat.blt k 38 then (bif Nat.blt k 37 then (0) else (1)) else (bif Nat.blt k 39 then (0) else (2))) else (bif Nat.blt k 42 then (bif Nat.blt k 41 then (4) else (2)) else (bif Nat.blt k 43 then (1) else (bif Nat.blt k 44 then (4) else (2))))) else (bif Nat.blt k 49 then (bif Nat.blt k 47 then (bif Nat.blt k 46 then (1) else (4)) else (bif Nat.blt k 48 then (2) else (1))) else (bif Nat.blt k 51 then (bif Nat.blt k 50 then (1) else (1)) else (bif Nat.blt k 52 then (1) else (bif Nat.blt k 53 then (4) else (2)))))) else (bif Nat.blt k 63 then (bif Nat.blt k 58 then (bif Nat.blt k 56 then (bif Nat.blt k 55 then (1) else (0)) else (bif Nat.blt k 57 then (2) else (0))) else (bif Nat.blt k 60 then (bif Nat.blt k 59 then (1) else (1)) else (bif Nat.blt k 61 then (1) else (bif Nat.blt k 62 then (1) else (0))))) else (bif Nat.blt k 68 then (bif Nat.blt k 65 then (bif Nat.blt k 64 then (1) else (1)) else (bif Nat.blt k 66 then (1) else (bif Nat.blt k 67 then (1) else (0)))) else (bif Nat.blt k 70 then (bif Nat.blt k 69 then (1) else (3)) else (bif Nat.blt k 71 then (2) else (bif Nat.blt k 72 then (4) else (2)))))))) else (bif Nat.blt k 110 then (bif Nat.blt k 91 then (bif Nat.blt k 82 then (bif Nat.blt k 77 then (bif Nat.blt k 75 then (bif Nat.blt k 74 then (1) else (0)) else (bif Nat.blt k 76 then (1) else (1))) else (bif Nat.blt k 79 then (bif Nat.blt k 78 then (1) else (1)) else (bif Nat.blt k 80 then (0) else (bif Nat.blt k 81 then (0) else (1))))) else (bif Nat.blt k 86 then (bif Nat.blt k 84 then (bif Nat.blt k 83 then (0) else (1)) else (bif Nat.blt k 85 then (1) else (0))) else (bif Nat.blt k 88 then (bif Nat.blt k 87 then (1) else (1)) else (bif Nat.blt k 89 then (0) else (bif Nat.blt k 90 then (0) else (1)))))) else (bif Nat.blt k 100 then (bif Nat.blt k 95 then (bif Nat.blt k 93 then (bif Nat.blt k 92 then (0) else (2)) else (bif Nat.blt k 94 then (2) else (3))) else (bif Nat.blt k 97 then (bif Nat.blt k 96 then (3) else (2)) else (bif Nat.blt k 98 then (1) else (bif Nat.blt k 99 then (1) else (1))))) else (bif Nat.blt k 105 then (bif Nat.blt k 102 then (bif Nat.blt k 101 then (1) else (2)) else (bif Nat.blt k 103 then (1) else (bif Nat.blt k 104 then (2) else (1)))) else (bif Nat.blt k 107 then (bif Nat.blt k 106 then (3) else (1)) else (bif Nat.blt k 108 then (2) else (bif Nat.blt k 109 then (3) else (1))))))) else (bif Nat.blt k 128 then (bif Nat.blt k 119 then (bif Nat.blt k 114 then (bif Nat.blt k 112 then (bif Nat.blt k 111 then (2) else (1)) else (bif Nat.blt k 113 then (2) else (0))) else (bif Nat.blt k 116 then (bif Nat.blt k 115 then (3) else (1)) else (bif Nat.blt k 117 then (2) else (bif Nat.blt k 118 then (0) else (0))))) else (bif Nat.blt k 123 then (bif Nat.blt k 121 then (bif Nat.blt k 120 then (1) else (1)) else (bif Nat.blt k 122 then (1) else (1))) else (bif Nat.blt k 125 then (bif Nat.blt k 124 then (3) else (2)) else (bif Nat.blt k 126 then (3) else (bif Nat.blt k 127 then (2) else (3)))))) else (bif Nat.blt k 137 then (bif Nat.blt k 132 then (bif Nat.blt k 130 then (bif Nat.blt k 129 then (0) else (0)) else (bif Nat.blt k 131 then (1) else (1))) else (bif Nat.blt k 134 then (bif Nat.blt k 133 then (2) else (0)) else (bif Nat.blt k 135 then (0) else (bif Nat.blt k 136 then (2) else (2))))) else (bif Nat.blt k 142 then (bif Nat.blt k 139 then (bif Nat.blt k 138 then (1) else (4)) else (bif Nat.blt k 140 then (4) else (bif Nat.blt k 141 then (3) else (1)))) else (bif Nat.blt k 144 then (bif Nat.blt k 143 then (2) else (2)) else (bif Nat.blt k 145 then (1) else (bif Nat.blt k 146 then (1) else (1))))))))
/-- what a call entry (kind, receiver's class, method, named class) says: 0 its own class's method, 1 inherited or overriding, 2 static, 3 <init>, 4 a nest mate's <init>, 5 super -/
def COK (o i : Nat) (x : Nat × Nat × Nat × Nat) : Prop := match x with
  | (0, t, k', _) => (mY k').cls = cn t ∧ Cond.methodLink (cn o) i (mY k') ∈ lw_tbl ∧ Cond.instanceMethod (mY k') ∈ lw_tbl ∧ Cond.selects (cn t) (mY k') (mY k') ∈ lw_tbl
  | (1, t, k', xc) => ∃ ow : String, (ow ≠ "java/lang/invoke/MethodHandle" ∧ ow ≠ "java/lang/invoke/VarHandle") ∧ Cond.methodLink (cn o) i ⟨cn xc, (mY k').name, (mY k').desc⟩ ∈ lw_tbl ∧ Cond.sameMethod (cn xc) ow (mY k').name (mY k').desc ∈ lw_tbl ∧ Cond.selects (cn t) ⟨cn xc, (mY k').name, (mY k').desc⟩ (mY k') ∈ lw_tbl ∧ Cond.instanceMethod (mY k') ∈ lw_tbl ∧ (Cond.declares ⟨ow, (mY k').name, (mY k').desc⟩ ∈ lw_tbl ∨ ∃ kk : Nat, mY kk = ⟨ow, (mY k').name, (mY k').desc⟩ ∧ Cond.instanceMethod (mY kk) ∈ lw_tbl ∧ Cond.code (mY kk) (mB kk) (mL kk) (mR kk) ∈ lw_tbl)
  | (2, _, k', _) => Cond.methodLink (cn o) i (mY k') ∈ lw_tbl ∧ Cond.static (mY k') ∈ lw_tbl
  | (3, _, k', _) => Cond.methodLink (cn o) i (mY k') ∈ lw_tbl ∧ Cond.instanceMethod (mY k') ∈ lw_tbl ∧ (mY k').name = "<init>" ∧ mR k' = none
  | (4, _, k', _) => Cond.methodLinkNest (cn o) i (mY k') "VerandaTalk" ∈ lw_tbl ∧ Cond.instanceMethod (mY k') ∈ lw_tbl ∧ (mY k').name = "<init>" ∧ mR k' = none
  | (5, _, k', xc) => Cond.methodLink (cn o) i ⟨cn xc, (mY k').name, (mY k').desc⟩ ∈ lw_tbl ∧ Cond.sameMethod (cn xc) (mY k').cls (mY k').name (mY k').desc ∈ lw_tbl ∧ Cond.superclass (cn o) (cn xc) ∈ lw_tbl ∧ (cn xc = (mY k').cls ∨ Cond.superclass (cn xc) (mY k').cls ∈ lw_tbl) ∧ Cond.instanceMethod (mY k') ∈ lw_tbl ∧ (mY k').name ≠ "<init>"
  | _ => False
def vwAt (t : Nat) : vw_C := vwCl.getD t ("", TX0, 0)
/-- what a field entry (named class, field, object's class) says -/
def FOK (o i : Nat) (x : Nat × Nat × Nat) : Prop := match x with
  | (c, a, t) => Cond.fieldLink (cn o) i (cn c) ((vwAt t).2.1 a).2.1 ((vwAt t).2.1 a).2.2.1 ∈ lw_tbl ∧ (((vwAt t).2.1 a).1 = cn c ∨ Cond.sameField (cn c) ((vwAt t).2.1 a).1 ((vwAt t).2.1 a).2.1 ((vwAt t).2.1 a).2.2.1 ∈ lw_tbl)
def CLL : List ((Nat × Nat) × List (Nat × Nat × Nat × Nat)) := [((0, 11), [(4, 0, 74, 0)]), ((0, 45), [(0, 10, 75, 0)]), ((0, 49), [(0, 10, 85, 0)]), ((0, 53), [(0, 10, 86, 0)]), ((0, 60), [(0, 10, 78, 0)]), ((0, 64), [(2, 0, 143, 0)]), ((0, 73), [(2, 0, 21, 0)]), ((0, 77), [(0, 0, 22, 0)]), ((0, 81), [(0, 0, 24, 0)]), ((0, 85), [(0, 0, 23, 0)]), ((0, 91), [(2, 0, 141, 0)]), ((0, 105), [(0, 10, 79, 0)]), ((0, 111), [(0, 0, 28, 0)]), ((0, 118), [(0, 3, 38, 0)]), ((0, 123), [(0, 3, 39, 0)]), ((1, 1), [(3, 0, 46, 0)]), ((1, 19), [(1, 1, 51, 1), (1, 2, 51, 1)]), ((1, 23), [(5, 0, 49, 6)]), ((2, 1), [(3, 0, 30, 0)]), ((2, 7), [(5, 0, 31, 1)]), ((2, 23), [(1, 2, 51, 2)]), ((2, 27), [(5, 0, 48, 1)]), ((3, 56), [(2, 0, 142, 0)]), ((3, 62), [(0, 10, 78, 0)]), ((4, 1), [(3, 0, 46, 0)]), ((4, 18), [(2, 0, 141, 0)]), ((4, 24), [(1, 4, 51, 4), (1, 9, 51, 4)]), ((4, 28), [(5, 0, 50, 6)]), ((5, 1), [(3, 0, 46, 0)]), ((5, 19), [(1, 5, 51, 5), (1, 7, 51, 5)]), ((5, 23), [(5, 0, 48, 6)]), ((6, 23), [(1, 1, 51, 6), (1, 2, 51, 6), (1, 4, 51, 6), (1, 5, 51, 6), (0, 6, 51, 0), (1, 7, 51, 6), (1, 9, 51, 6)]), ((6, 27), [(1, 1, 48, 6), (1, 2, 35, 6), (1, 4, 48, 6), (1, 5, 45, 6), (0, 6, 48, 0), (1, 7, 45, 6), (1, 9, 48, 6)]), ((6, 31), [(1, 1, 32, 6), (1, 2, 32, 6), (1, 4, 49, 6), (1, 5, 49, 6), (0, 6, 49, 0), (1, 7, 49, 6), (1, 9, 73, 6)]), ((7, 1), [(3, 0, 43, 0)]), ((7, 13), [(5, 0, 44, 5)]), ((7, 17), [(1, 7, 51, 7)]), ((7, 23), [(5, 0, 50, 5)]), ((7, 27), [(1, 7, 45, 7)]), ((8, 44), [(2, 0, 143, 0)]), ((8, 50), [(0, 8, 57, 0)]), ((8, 54), [(0, 8, 66, 0)]), ((8, 58), [(0, 8, 67, 0)]), ((8, 62), [(2, 0, 58, 0)]), ((8, 66), [(0, 8, 65, 0)]), ((8, 70), [(0, 8, 62, 0)]), ((8, 73), [(0, 8, 59, 0)]), ((8, 85), [(0, 8, 60, 0)]), ((8, 88), [(0, 8, 68, 0)]), ((8, 92), [(0, 8, 61, 0)]), ((8, 97), [(0, 8, 64, 0)]), ((8, 103), [(2, 0, 63, 0)]), ((8, 107), [(0, 17, 131, 0)]), ((8, 112), [(0, 17, 128, 0)]), ((8, 115), [(0, 17, 130, 0)]), ((8, 119), [(0, 17, 129, 0)]), ((8, 122), [(2, 0, 69, 0)]), ((9, 3), [(3, 0, 40, 0)]), ((9, 9), [(5, 0, 41, 4)]), ((9, 28), [(1, 9, 51, 9)]), ((9, 32), [(5, 0, 49, 4)]), ((10, 60), [(4, 0, 55, 0)]), ((10, 80), [(0, 10, 79, 0)]), ((10, 84), [(0, 10, 80, 0)]), ((10, 87), [(0, 10, 81, 0)]), ((10, 91), [(0, 10, 84, 0)]), ((10, 95), [(1, 1, 31, 6), (1, 2, 34, 6), (1, 4, 41, 6), (1, 5, 44, 6), (0, 6, 47, 0), (1, 7, 53, 6), (1, 9, 72, 6)]), ((10, 99), [(2, 0, 141, 0)]), ((10, 107), [(0, 8, 70, 0)]), ((10, 114), [(0, 10, 83, 0)]), ((10, 117), [(2, 0, 142, 0)]), ((10, 123), [(2, 0, 143, 0)]), ((10, 129), [(0, 10, 78, 0)]), ((10, 132), [(0, 10, 87, 0)]), ((11, 13), [(4, 0, 74, 0)]), ((11, 20), [(4, 0, 36, 0)]), ((11, 33), [(3, 0, 17, 0)]), ((11, 44), [(4, 0, 55, 0)]), ((11, 64), [(0, 8, 56, 0)]), ((11, 68), [(0, 10, 77, 0)]), ((11, 75), [(0, 11, 127, 0)]), ((11, 79), [(0, 10, 76, 0)]), ((11, 83), [(0, 11, 120, 0)]), ((11, 106), [(0, 10, 81, 0)]), ((11, 109), [(0, 10, 83, 0)]), ((11, 119), [(2, 0, 123, 0)]), ((11, 138), [(0, 10, 82, 0)]), ((11, 142), [(0, 10, 85, 0)]), ((11, 145), [(0, 10, 88, 0)]), ((11, 148), [(0, 0, 25, 0)]), ((11, 152), [(0, 10, 86, 0)]), ((11, 156), [(2, 0, 121, 0)]), ((11, 159), [(0, 0, 18, 0)]), ((11, 163), [(0, 0, 19, 0)]), ((11, 167), [(0, 0, 20, 0)]), ((11, 180), [(0, 10, 87, 0)]), ((11, 195), [(0, 0, 26, 0)]), ((11, 205), [(0, 0, 27, 0)]), ((11, 209), [(2, 0, 122, 0)]), ((11, 214), [(2, 0, 125, 0)]), ((11, 218), [(0, 10, 80, 0)]), ((11, 221), [(2, 0, 141, 0)]), ((11, 235), [(0, 0, 29, 0)]), ((11, 252), [(1, 1, 48, 6), (1, 2, 35, 6), (1, 4, 48, 6), (1, 5, 45, 6), (0, 6, 48, 0), (1, 7, 45, 6), (1, 9, 48, 6)]), ((11, 257), [(1, 1, 32, 6), (1, 2, 32, 6), (1, 4, 49, 6), (1, 5, 49, 6), (0, 6, 49, 0), (1, 7, 49, 6), (1, 9, 73, 6)]), ((11, 260), [(1, 1, 50, 6), (1, 2, 50, 6), (1, 4, 42, 6), (1, 5, 50, 6), (0, 6, 50, 0), (1, 7, 54, 6), (1, 9, 42, 6)]), ((11, 263), [(2, 0, 124, 0)]), ((11, 267), [(0, 10, 75, 0)]), ((11, 271), [(0, 3, 37, 0)]), ((11, 277), [(2, 0, 126, 0)]), ((11, 283), [(3, 0, 43, 0)]), ((11, 288), [(3, 0, 30, 0)]), ((11, 291), [(3, 0, 40, 0)]), ((11, 294), [(3, 0, 52, 0)]), ((11, 297), [(3, 0, 33, 0)]), ((11, 300), [(3, 0, 71, 0)]), ((11, 301), [(3, 0, 46, 0)]), ((13, 7), [(0, 17, 130, 0)]), ((13, 13), [(0, 11, 90, 0)]), ((13, 19), [(0, 11, 91, 0)]), ((13, 29), [(2, 0, 1, 0)]), ((13, 35), [(2, 0, 2, 0)]), ((13, 39), [(2, 0, 5, 0)]), ((13, 43), [(3, 0, 89, 0)]), ((13, 44), [(2, 0, 7, 0)]), ((13, 47), [(2, 0, 8, 0)]), ((13, 50), [(2, 0, 9, 0)]), ((13, 53), [(0, 11, 92, 0)]), ((13, 56), [(2, 0, 10, 0)]), ((13, 60), [(0, 11, 94, 0)]), ((13, 63), [(0, 11, 96, 0)]), ((13, 67), [(0, 11, 95, 0)]), ((13, 71), [(2, 0, 4, 0)]), ((13, 75), [(0, 17, 128, 0)]), ((13, 78), [(0, 11, 93, 0)]), ((13, 81), [(0, 11, 98, 0)]), ((13, 97), [(0, 11, 99, 0)]), ((13, 106), [(2, 0, 13, 0)]), ((13, 109), [(0, 11, 100, 0)]), ((13, 112), [(2, 0, 12, 0)]), ((13, 116), [(0, 11, 105, 0)]), ((13, 119), [(0, 11, 97, 0)]), ((13, 122), [(0, 11, 112, 0)]), ((13, 125), [(0, 11, 110, 0)]), ((13, 132), [(0, 11, 119, 0)]), ((13, 135), [(0, 11, 107, 0)]), ((13, 138), [(0, 11, 111, 0)]), ((13, 141), [(0, 11, 113, 0)]), ((13, 144), [(2, 0, 6, 0)]), ((13, 147), [(2, 0, 11, 0)]), ((13, 150), [(2, 0, 15, 0)]), ((13, 154), [(0, 11, 117, 0)]), ((13, 157), [(2, 0, 16, 0)]), ((13, 161), [(0, 11, 116, 0)]), ((13, 164), [(0, 11, 101, 0)]), ((13, 167), [(0, 11, 102, 0)]), ((13, 170), [(0, 11, 103, 0)]), ((13, 173), [(0, 11, 104, 0)]), ((13, 176), [(0, 11, 106, 0)]), ((13, 179), [(0, 11, 108, 0)]), ((13, 183), [(0, 11, 109, 0)]), ((13, 189), [(2, 0, 14, 0)]), ((13, 193), [(0, 11, 114, 0)]), ((13, 195), [(0, 11, 115, 0)]), ((13, 200), [(2, 0, 3, 0)]), ((13, 204), [(0, 11, 118, 0)]), ((17, 335), [(0, 17, 133, 0)]), ((17, 492), [(0, 17, 134, 0)]), ((17, 495), [(2, 0, 136, 0)]), ((17, 505), [(0, 17, 128, 0)]), ((17, 633), [(0, 17, 132, 0)]), ((17, 637), [(2, 0, 138, 0)]), ((17, 1059), [(2, 0, 140, 0)]), ((18, 9), [(2, 0, 135, 0)]), ((18, 38), [(2, 0, 143, 0)]), ((18, 88), [(2, 0, 137, 0)]), ((18, 92), [(2, 0, 142, 0)]), ((18, 95), [(2, 0, 139, 0)])]
def FLL : List ((Nat × Nat) × List (Nat × Nat × Nat)) := [((0, 12), [(0, 0, 0)]), ((0, 18), [(0, 1, 0)]), ((0, 22), [(0, 2, 0)]), ((0, 26), [(0, 3, 0)]), ((0, 29), [(0, 4, 0)]), ((0, 33), [(0, 5, 0)]), ((0, 36), [(0, 6, 0)]), ((0, 39), [(0, 7, 0)]), ((0, 42), [(0, 8, 0)]), ((0, 57), [(10, 13, 10)]), ((0, 70), [(10, 8, 10)]), ((0, 88), [(10, 9, 10)]), ((0, 96), [(10, 11, 10)]), ((0, 108), [(10, 5, 10)]), ((0, 115), [(10, 2, 10)]), ((0, 127), [(3, 8, 3)]), ((0, 130), [(3, 7, 3)]), ((0, 133), [(3, 6, 3)]), ((0, 136), [(10, 10, 10)]), ((1, 7), [(10, 2, 10)]), ((1, 13), [(1, 0, 1), (1, 0, 2)]), ((2, 11), [(10, 5, 10)]), ((2, 17), [(2, 0, 2)]), ((3, 9), [(3, 0, 3)]), ((3, 15), [(3, 1, 3)]), ((3, 19), [(3, 2, 3)]), ((3, 23), [(3, 3, 3)]), ((3, 26), [(3, 4, 3)]), ((3, 29), [(3, 5, 3)]), ((3, 32), [(3, 6, 3)]), ((3, 35), [(3, 7, 3)]), ((3, 38), [(3, 8, 3)]), ((3, 41), [(3, 9, 3)]), ((3, 44), [(3, 10, 3)]), ((3, 47), [(3, 11, 3)]), ((4, 7), [(10, 9, 10)]), ((4, 13), [(4, 0, 4), (4, 0, 9)]), ((5, 7), [(10, 3, 10)]), ((5, 13), [(5, 0, 5), (5, 0, 7)]), ((6, 7), [(6, 0, 1), (6, 0, 2), (6, 0, 4), (6, 0, 5), (6, 0, 6), (6, 0, 7), (6, 0, 9)]), ((6, 13), [(6, 1, 1), (6, 1, 2), (6, 1, 4), (6, 1, 5), (6, 1, 6), (6, 1, 7), (6, 1, 9)]), ((6, 16), [(6, 2, 1), (6, 2, 2), (6, 2, 4), (6, 2, 5), (6, 2, 6), (6, 2, 7), (6, 2, 9)]), ((6, 19), [(6, 3, 1), (6, 3, 2), (6, 3, 4), (6, 3, 5), (6, 3, 6), (6, 3, 7), (6, 3, 9)]), ((7, 7), [(10, 12, 10)]), ((8, 9), [(8, 0, 8)]), ((8, 15), [(8, 1, 8)]), ((8, 18), [(8, 2, 8)]), ((8, 21), [(8, 3, 8)]), ((8, 25), [(8, 4, 8)]), ((8, 28), [(8, 5, 8)]), ((8, 31), [(8, 6, 8)]), ((8, 34), [(8, 7, 8)]), ((8, 38), [(8, 8, 8)]), ((8, 41), [(8, 9, 8)]), ((9, 13), [(10, 6, 10)]), ((9, 19), [(9, 0, 9)]), ((9, 25), [(10, 12, 10)]), ((9, 36), [(9, 2, 9)]), ((10, 11), [(10, 0, 10)]), ((10, 17), [(10, 1, 10)]), ((10, 21), [(10, 2, 10)]), ((10, 24), [(10, 3, 10)]), ((10, 27), [(10, 4, 10)]), ((10, 30), [(10, 5, 10)]), ((10, 33), [(10, 6, 10)]), ((10, 36), [(10, 7, 10)]), ((10, 39), [(10, 8, 10)]), ((10, 43), [(10, 9, 10)]), ((10, 46), [(10, 10, 10)]), ((10, 49), [(10, 11, 10)]), ((10, 52), [(10, 12, 10)]), ((10, 55), [(10, 13, 10)]), ((10, 61), [(10, 14, 10)]), ((10, 65), [(10, 15, 10)]), ((10, 74), [(6, 1, 1), (6, 1, 2), (6, 1, 4), (6, 1, 5), (6, 1, 6), (6, 1, 7), (6, 1, 9)]), ((10, 77), [(6, 2, 1), (6, 2, 2), (6, 2, 4), (6, 2, 5), (6, 2, 6), (6, 2, 7), (6, 2, 9)]), ((10, 79), [(8, 0, 8)]), ((10, 104), [(8, 2, 8)]), ((10, 111), [(8, 3, 8)]), ((10, 126), [(8, 1, 8)]), ((11, 14), [(11, 0, 11)]), ((11, 21), [(11, 1, 11)]), ((11, 25), [(11, 2, 11)]), ((11, 28), [(11, 3, 11)]), ((11, 34), [(11, 4, 11)]), ((11, 38), [(11, 5, 11)]), ((11, 45), [(11, 6, 11)]), ((11, 49), [(11, 7, 11)]), ((11, 53), [(3, 1, 3)]), ((11, 57), [(3, 0, 3)]), ((11, 61), [(10, 15, 10)]), ((11, 72), [(10, 8, 10)]), ((11, 88), [(10, 1, 10)]), ((11, 91), [(10, 2, 10)]), ((11, 94), [(10, 3, 10)]), ((11, 97), [(10, 4, 10)]), ((11, 100), [(10, 9, 10)]), ((11, 103), [(10, 10, 10)]), ((11, 113), [(10, 5, 10)]), ((11, 116), [(10, 6, 10)]), ((11, 123), [(10, 12, 10)]), ((11, 126), [(10, 13, 10)]), ((11, 129), [(10, 14, 10)]), ((11, 132), [(8, 1, 8)]), ((11, 135), [(10, 11, 10)]), ((11, 171), [(0, 3, 0)]), ((11, 174), [(0, 4, 0)]), ((11, 177), [(0, 5, 0)]), ((11, 183), [(3, 5, 3)]), ((11, 186), [(3, 2, 3)]), ((11, 189), [(3, 3, 3)]), ((11, 192), [(3, 4, 3)]), ((11, 199), [(0, 6, 0)]), ((11, 202), [(0, 7, 0)]), ((11, 226), [(3, 8, 3)]), ((11, 229), [(3, 6, 3)]), ((11, 232), [(3, 7, 3)]), ((11, 239), [(3, 11, 3)]), ((11, 242), [(3, 9, 3)]), ((11, 245), [(3, 10, 3)]), ((11, 248), [(10, 0, 10)])]
set_option maxRecDepth 100000 in
theorem cl_0 : ∀ x ∈ ([(4, 0, 74, 0)] : List (Nat × Nat × Nat × Nat)), COK 0 11 x := List.forall_mem_cons.mpr ⟨⟨mem_4 213 rfl, mem_4 64 rfl, rfl, rfl⟩, fun _ h => absurd h List.not_mem_nil⟩
set_option maxRecDepth 100000 in
theorem cl_1 : ∀ x ∈ ([(0, 10, 75, 0)] : List (Nat × Nat × Nat × Nat)), COK 0 45 x := List.forall_mem_cons.mpr ⟨⟨rfl, mem_2 50 rfl, mem_2 51 rfl, mem_2 52 rfl⟩, fun _ h => absurd h List.not_mem_nil⟩
set_option maxRecDepth 100000 in
theorem cl_2 : ∀ x ∈ ([(0, 10, 85, 0)] : List (Nat × Nat × Nat × Nat)), COK 0 49 x := List.forall_mem_cons.mpr ⟨⟨rfl, mem_2 57 rfl, mem_1 238 rfl, mem_1 239 rfl⟩, fun _ h => absurd h List.not_mem_nil⟩
set_option maxRecDepth 100000 in
theorem cl_3 : ∀ x ∈ ([(0, 10, 86, 0)] : List (Nat × Nat × Nat × Nat)), COK 0 53 x := List.forall_mem_cons.mpr ⟨⟨rfl, mem_2 58 rfl, mem_2 24 rfl, mem_2 25 rfl⟩, fun _ h => absurd h List.not_mem_nil⟩
set_option maxRecDepth 100000 in
theorem cl_4 : ∀ x ∈ ([(0, 10, 78, 0)] : List (Nat × Nat × Nat × Nat)), COK 0 60 x := List.forall_mem_cons.mpr ⟨⟨rfl, mem_2 67 rfl, mem_2 32 rfl, mem_2 33 rfl⟩, fun _ h => absurd h List.not_mem_nil⟩
set_option maxRecDepth 100000 in
theorem cl_5 : ∀ x ∈ ([(2, 0, 143, 0)] : List (Nat × Nat × Nat × Nat)), COK 0 64 x := List.forall_mem_cons.mpr ⟨⟨mem_2 16 rfl, mem_2 17 rfl⟩, fun _ h => absurd h List.not_mem_nil⟩
set_option maxRecDepth 100000 in
theorem cl_6 : ∀ x ∈ ([(2, 0, 21, 0)] : List (Nat × Nat × Nat × Nat)), COK 0 73 x := List.forall_mem_cons.mpr ⟨⟨mem_2 76 rfl, mem_2 77 rfl⟩, fun _ h => absurd h List.not_mem_nil⟩
set_option maxRecDepth 100000 in
theorem cl_7 : ∀ x ∈ ([(0, 0, 22, 0)] : List (Nat × Nat × Nat × Nat)), COK 0 77 x := List.forall_mem_cons.mpr ⟨⟨rfl, mem_2 79 rfl, mem_2 81 rfl, mem_p 3 rfl⟩, fun _ h => absurd h List.not_mem_nil⟩
set_option maxRecDepth 100000 in
theorem cl_8 : ∀ x ∈ ([(0, 0, 24, 0)] : List (Nat × Nat × Nat × Nat)), COK 0 81 x := List.forall_mem_cons.mpr ⟨⟨rfl, mem_2 84 rfl, mem_2 86 rfl, mem_p 4 rfl⟩, fun _ h => absurd h List.not_mem_nil⟩
set_option maxRecDepth 100000 in
theorem cl_9 : ∀ x ∈ ([(0, 0, 23, 0)] : List (Nat × Nat × Nat × Nat)), COK 0 85 x := List.forall_mem_cons.mpr ⟨⟨rfl, mem_2 89 rfl, mem_2 91 rfl, mem_p 5 rfl⟩, fun _ h => absurd h List.not_mem_nil⟩
set_option maxRecDepth 100000 in
theorem cl_10 : ∀ x ∈ ([(2, 0, 141, 0)] : List (Nat × Nat × Nat × Nat)), COK 0 91 x := List.forall_mem_cons.mpr ⟨⟨mem_2 15 rfl, mem_1 170 rfl⟩, fun _ h => absurd h List.not_mem_nil⟩
set_option maxRecDepth 100000 in
theorem cl_11 : ∀ x ∈ ([(0, 10, 79, 0)] : List (Nat × Nat × Nat × Nat)), COK 0 105 x := List.forall_mem_cons.mpr ⟨⟨rfl, mem_2 14 rfl, mem_1 157 rfl, mem_1 158 rfl⟩, fun _ h => absurd h List.not_mem_nil⟩
set_option maxRecDepth 100000 in
theorem cl_12 : ∀ x ∈ ([(0, 0, 28, 0)] : List (Nat × Nat × Nat × Nat)), COK 0 111 x := List.forall_mem_cons.mpr ⟨⟨rfl, mem_2 110 rfl, mem_2 112 rfl, mem_p 6 rfl⟩, fun _ h => absurd h List.not_mem_nil⟩
set_option maxRecDepth 100000 in
theorem cl_13 : ∀ x ∈ ([(0, 3, 38, 0)] : List (Nat × Nat × Nat × Nat)), COK 0 118 x := List.forall_mem_cons.mpr ⟨⟨rfl, mem_2 114 rfl, mem_2 115 rfl, mem_2 116 rfl⟩, fun _ h => absurd h List.not_mem_nil⟩
set_option maxRecDepth 100000 in
theorem cl_14 : ∀ x ∈ ([(0, 3, 39, 0)] : List (Nat × Nat × Nat × Nat)), COK 0 123 x := List.forall_mem_cons.mpr ⟨⟨rfl, mem_2 119 rfl, mem_2 120 rfl, mem_2 121 rfl⟩, fun _ h => absurd h List.not_mem_nil⟩
set_option maxRecDepth 100000 in
theorem cl_15 : ∀ x ∈ ([(3, 0, 46, 0)] : List (Nat × Nat × Nat × Nat)), COK 1 1 x := List.forall_mem_cons.mpr ⟨⟨mem_1 77 rfl, mem_1 40 rfl, rfl, rfl⟩, fun _ h => absurd h List.not_mem_nil⟩
set_option maxRecDepth 100000 in
theorem cl_16 : ∀ x ∈ ([(1, 1, 51, 1), (1, 2, 51, 1)] : List (Nat × Nat × Nat × Nat)), COK 1 19 x := List.forall_mem_cons.mpr ⟨⟨"VerandaTalk$Matter", ⟨by decide +kernel, by decide +kernel⟩, mem_2 213 rfl, mem_2 214 rfl, mem_2 215 rfl, mem_2 188 rfl, Or.inr ⟨51, rfl, mem_2 188 rfl, mem_2 189 rfl⟩⟩, List.forall_mem_cons.mpr ⟨⟨"VerandaTalk$Matter", ⟨by decide +kernel, by decide +kernel⟩, mem_2 213 rfl, mem_2 214 rfl, mem_2 216 rfl, mem_2 188 rfl, Or.inr ⟨51, rfl, mem_2 188 rfl, mem_2 189 rfl⟩⟩, fun _ h => absurd h List.not_mem_nil⟩⟩
set_option maxRecDepth 100000 in
theorem cl_17 : ∀ x ∈ ([(5, 0, 49, 6)] : List (Nat × Nat × Nat × Nat)), COK 1 23 x := List.forall_mem_cons.mpr ⟨⟨mem_2 217 rfl, mem_2 209 rfl, mem_1 82 rfl, Or.inl rfl, mem_2 207 rfl, by decide +kernel⟩, fun _ h => absurd h List.not_mem_nil⟩
set_option maxRecDepth 100000 in
theorem cl_18 : ∀ x ∈ ([(3, 0, 30, 0)] : List (Nat × Nat × Nat × Nat)), COK 2 1 x := List.forall_mem_cons.mpr ⟨⟨mem_1 110 rfl, mem_1 75 rfl, rfl, rfl⟩, fun _ h => absurd h List.not_mem_nil⟩
set_option maxRecDepth 100000 in
theorem cl_19 : ∀ x ∈ ([(5, 0, 31, 1)] : List (Nat × Nat × Nat × Nat)), COK 2 7 x := List.forall_mem_cons.mpr ⟨⟨mem_1 192 rfl, mem_5 65 rfl, mem_1 115 rfl, Or.inl rfl, mem_1 187 rfl, by decide +kernel⟩, fun _ h => absurd h List.not_mem_nil⟩
set_option maxRecDepth 100000 in
theorem cl_20 : ∀ x ∈ ([(1, 2, 51, 2)] : List (Nat × Nat × Nat × Nat)), COK 2 23 x := List.forall_mem_cons.mpr ⟨⟨"VerandaTalk$Matter", ⟨by decide +kernel, by decide +kernel⟩, mem_2 184 rfl, mem_2 185 rfl, mem_2 187 rfl, mem_2 188 rfl, Or.inr ⟨51, rfl, mem_2 188 rfl, mem_2 189 rfl⟩⟩, fun _ h => absurd h List.not_mem_nil⟩
set_option maxRecDepth 100000 in
theorem cl_21 : ∀ x ∈ ([(5, 0, 48, 1)] : List (Nat × Nat × Nat × Nat)), COK 2 27 x := List.forall_mem_cons.mpr ⟨⟨mem_2 190 rfl, mem_2 191 rfl, mem_1 115 rfl, Or.inr (mem_1 82 rfl), mem_2 177 rfl, by decide +kernel⟩, fun _ h => absurd h List.not_mem_nil⟩
set_option maxRecDepth 100000 in
theorem cl_22 : ∀ x ∈ ([(2, 0, 142, 0)] : List (Nat × Nat × Nat × Nat)), COK 3 56 x := List.forall_mem_cons.mpr ⟨⟨mem_2 118 rfl, mem_2 28 rfl⟩, fun _ h => absurd h List.not_mem_nil⟩
set_option maxRecDepth 100000 in
theorem cl_23 : ∀ x ∈ ([(0, 10, 78, 0)] : List (Nat × Nat × Nat × Nat)), COK 3 62 x := List.forall_mem_cons.mpr ⟨⟨rfl, mem_2 123 rfl, mem_2 32 rfl, mem_2 33 rfl⟩, fun _ h => absurd h List.not_mem_nil⟩
set_option maxRecDepth 100000 in
theorem cl_24 : ∀ x ∈ ([(3, 0, 46, 0)] : List (Nat × Nat × Nat × Nat)), COK 4 1 x := List.forall_mem_cons.mpr ⟨⟨mem_1 88 rfl, mem_1 40 rfl, rfl, rfl⟩, fun _ h => absurd h List.not_mem_nil⟩
set_option maxRecDepth 100000 in
theorem cl_25 : ∀ x ∈ ([(2, 0, 141, 0)] : List (Nat × Nat × Nat × Nat)), COK 4 18 x := List.forall_mem_cons.mpr ⟨⟨mem_1 196 rfl, mem_1 170 rfl⟩, fun _ h => absurd h List.not_mem_nil⟩
set_option maxRecDepth 100000 in
theorem cl_26 : ∀ x ∈ ([(1, 4, 51, 4), (1, 9, 51, 4)] : List (Nat × Nat × Nat × Nat)), COK 4 24 x := List.forall_mem_cons.mpr ⟨⟨"VerandaTalk$Matter", ⟨by decide +kernel, by decide +kernel⟩, mem_3 2 rfl, mem_3 3 rfl, mem_3 4 rfl, mem_2 188 rfl, Or.inr ⟨51, rfl, mem_2 188 rfl, mem_2 189 rfl⟩⟩, List.forall_mem_cons.mpr ⟨⟨"VerandaTalk$Matter", ⟨by decide +kernel, by decide +kernel⟩, mem_3 2 rfl, mem_3 3 rfl, mem_3 5 rfl, mem_2 188 rfl, Or.inr ⟨51, rfl, mem_2 188 rfl, mem_2 189 rfl⟩⟩, fun _ h => absurd h List.not_mem_nil⟩⟩
set_option maxRecDepth 100000 in
theorem cl_27 : ∀ x ∈ ([(5, 0, 50, 6)] : List (Nat × Nat × Nat × Nat)), COK 4 28 x := List.forall_mem_cons.mpr ⟨⟨mem_3 6 rfl, mem_2 236 rfl, mem_1 93 rfl, Or.inl rfl, mem_2 234 rfl, by decide +kernel⟩, fun _ h => absurd h List.not_mem_nil⟩
set_option maxRecDepth 100000 in
theorem cl_28 : ∀ x ∈ ([(3, 0, 46, 0)] : List (Nat × Nat × Nat × Nat)), COK 5 1 x := List.forall_mem_cons.mpr ⟨⟨mem_1 39 rfl, mem_1 40 rfl, rfl, rfl⟩, fun _ h => absurd h List.not_mem_nil⟩
set_option maxRecDepth 100000 in
theorem cl_29 : ∀ x ∈ ([(1, 5, 51, 5), (1, 7, 51, 5)] : List (Nat × Nat × Nat × Nat)), COK 5 19 x := List.forall_mem_cons.mpr ⟨⟨"VerandaTalk$Matter", ⟨by decide +kernel, by decide +kernel⟩, mem_2 197 rfl, mem_2 198 rfl, mem_2 199 rfl, mem_2 188 rfl, Or.inr ⟨51, rfl, mem_2 188 rfl, mem_2 189 rfl⟩⟩, List.forall_mem_cons.mpr ⟨⟨"VerandaTalk$Matter", ⟨by decide +kernel, by decide +kernel⟩, mem_2 197 rfl, mem_2 198 rfl, mem_2 200 rfl, mem_2 188 rfl, Or.inr ⟨51, rfl, mem_2 188 rfl, mem_2 189 rfl⟩⟩, fun _ h => absurd h List.not_mem_nil⟩⟩
set_option maxRecDepth 100000 in
theorem cl_30 : ∀ x ∈ ([(5, 0, 48, 6)] : List (Nat × Nat × Nat × Nat)), COK 5 23 x := List.forall_mem_cons.mpr ⟨⟨mem_2 201 rfl, mem_2 179 rfl, mem_1 71 rfl, Or.inl rfl, mem_2 177 rfl, by decide +kernel⟩, fun _ h => absurd h List.not_mem_nil⟩
set_option maxRecDepth 100000 in
theorem cl_31 : ∀ x ∈ ([(1, 1, 51, 6), (1, 2, 51, 6), (1, 4, 51, 6), (1, 5, 51, 6), (0, 6, 51, 0), (1, 7, 51, 6), (1, 9, 51, 6)] : List (Nat × Nat × Nat × Nat)), COK 6 23 x := List.forall_mem_cons.mpr ⟨⟨"VerandaTalk$Matter", ⟨by decide +kernel, by decide +kernel⟩, mem_2 205 rfl, mem_5 68 rfl, mem_5 69 rfl, mem_2 188 rfl, Or.inr ⟨51, rfl, mem_2 188 rfl, mem_2 189 rfl⟩⟩, List.forall_mem_cons.mpr ⟨⟨"VerandaTalk$Matter", ⟨by decide +kernel, by decide +kernel⟩, mem_2 205 rfl, mem_5 68 rfl, mem_5 70 rfl, mem_2 188 rfl, Or.inr ⟨51, rfl, mem_2 188 rfl, mem_2 189 rfl⟩⟩, List.forall_mem_cons.mpr ⟨⟨"VerandaTalk$Matter", ⟨by decide +kernel, by decide +kernel⟩, mem_2 205 rfl, mem_5 68 rfl, mem_5 71 rfl, mem_2 188 rfl, Or.inr ⟨51, rfl, mem_2 188 rfl, mem_2 189 rfl⟩⟩, List.forall_mem_cons.mpr ⟨⟨"VerandaTalk$Matter", ⟨by decide +kernel, by decide +kernel⟩, mem_2 205 rfl, mem_5 68 rfl, mem_5 72 rfl, mem_2 188 rfl, Or.inr ⟨51, rfl, mem_2 188 rfl, mem_2 189 rfl⟩⟩, List.forall_mem_cons.mpr ⟨⟨rfl, mem_2 205 rfl, mem_2 188 rfl, mem_5 73 rfl⟩, List.forall_mem_cons.mpr ⟨⟨"VerandaTalk$Matter", ⟨by decide +kernel, by decide +kernel⟩, mem_2 205 rfl, mem_5 68 rfl, mem_5 74 rfl, mem_2 188 rfl, Or.inr ⟨51, rfl, mem_2 188 rfl, mem_2 189 rfl⟩⟩, List.forall_mem_cons.mpr ⟨⟨"VerandaTalk$Matter", ⟨by decide +kernel, by decide +kernel⟩, mem_2 205 rfl, mem_5 68 rfl, mem_5 75 rfl, mem_2 188 rfl, Or.inr ⟨51, rfl, mem_2 188 rfl, mem_2 189 rfl⟩⟩, fun _ h => absurd h List.not_mem_nil⟩⟩⟩⟩⟩⟩⟩
set_option maxRecDepth 100000 in
theorem cl_32 : ∀ x ∈ ([(1, 1, 48, 6), (1, 2, 35, 6), (1, 4, 48, 6), (1, 5, 45, 6), (0, 6, 48, 0), (1, 7, 45, 6), (1, 9, 48, 6)] : List (Nat × Nat × Nat × Nat)), COK 6 27 x := List.forall_mem_cons.mpr ⟨⟨"VerandaTalk$Matter", ⟨by decide +kernel, by decide +kernel⟩, mem_2 232 rfl, mem_2 179 rfl, mem_2 180 rfl, mem_2 177 rfl, Or.inr ⟨48, rfl, mem_2 177 rfl, mem_2 204 rfl⟩⟩, List.forall_mem_cons.mpr ⟨⟨"VerandaTalk$Matter", ⟨by decide +kernel, by decide +kernel⟩, mem_2 232 rfl, mem_2 179 rfl, mem_2 181 rfl, mem_2 182 rfl, Or.inl (mem_2 192 rfl)⟩, List.forall_mem_cons.mpr ⟨⟨"VerandaTalk$Matter", ⟨by decide +kernel, by decide +kernel⟩, mem_2 232 rfl, mem_2 179 rfl, mem_2 193 rfl, mem_2 177 rfl, Or.inr ⟨48, rfl, mem_2 177 rfl, mem_2 204 rfl⟩⟩, List.forall_mem_cons.mpr ⟨⟨"VerandaTalk$Matter", ⟨by decide +kernel, by decide +kernel⟩, mem_2 232 rfl, mem_2 179 rfl, mem_2 194 rfl, mem_2 195 rfl, Or.inl (mem_2 192 rfl)⟩, List.forall_mem_cons.mpr ⟨⟨rfl, mem_2 232 rfl, mem_2 177 rfl, mem_2 178 rfl⟩, List.forall_mem_cons.mpr ⟨⟨"VerandaTalk$Matter", ⟨by decide +kernel, by decide +kernel⟩, mem_2 232 rfl, mem_2 179 rfl, mem_2 202 rfl, mem_2 195 rfl, Or.inl (mem_2 192 rfl)⟩, List.forall_mem_cons.mpr ⟨⟨"VerandaTalk$Matter", ⟨by decide +kernel, by decide +kernel⟩, mem_2 232 rfl, mem_2 179 rfl, mem_2 203 rfl, mem_2 177 rfl, Or.inr ⟨48, rfl, mem_2 177 rfl, mem_2 204 rfl⟩⟩, fun _ h => absurd h List.not_mem_nil⟩⟩⟩⟩⟩⟩⟩
set_option maxRecDepth 100000 in
theorem cl_33 : ∀ x ∈ ([(1, 1, 32, 6), (1, 2, 32, 6), (1, 4, 49, 6), (1, 5, 49, 6), (0, 6, 49, 0), (1, 7, 49, 6), (1, 9, 73, 6)] : List (Nat × Nat × Nat × Nat)), COK 6 31 x := List.forall_mem_cons.mpr ⟨⟨"VerandaTalk$Matter", ⟨by decide +kernel, by decide +kernel⟩, mem_3 23 rfl, mem_2 209 rfl, mem_2 210 rfl, mem_2 211 rfl, Or.inl (mem_2 230 rfl)⟩, List.forall_mem_cons.mpr ⟨⟨"VerandaTalk$Matter", ⟨by decide +kernel, by decide +kernel⟩, mem_3 23 rfl, mem_2 209 rfl, mem_2 218 rfl, mem_2 211 rfl, Or.inl (mem_2 230 rfl)⟩, List.forall_mem_cons.mpr ⟨⟨"VerandaTalk$Matter", ⟨by decide +kernel, by decide +kernel⟩, mem_3 23 rfl, mem_2 209 rfl, mem_2 219 rfl, mem_2 207 rfl, Or.inr ⟨49, rfl, mem_2 207 rfl, mem_2 231 rfl⟩⟩, List.forall_mem_cons.mpr ⟨⟨"VerandaTalk$Matter", ⟨by decide +kernel, by decide +kernel⟩, mem_3 23 rfl, mem_2 209 rfl, mem_2 220 rfl, mem_2 207 rfl, Or.inr ⟨49, rfl, mem_2 207 rfl, mem_2 231 rfl⟩⟩, List.forall_mem_cons.mpr ⟨⟨rfl, mem_3 23 rfl, mem_2 207 rfl, mem_2 208 rfl⟩, List.forall_mem_cons.mpr ⟨⟨"VerandaTalk$Matter", ⟨by decide +kernel, by decide +kernel⟩, mem_3 23 rfl, mem_2 209 rfl, mem_2 221 rfl, mem_2 207 rfl, Or.inr ⟨49, rfl, mem_2 207 rfl, mem_2 231 rfl⟩⟩, List.forall_mem_cons.mpr ⟨⟨"VerandaTalk$Matter", ⟨by decide +kernel, by decide +kernel⟩, mem_3 23 rfl, mem_2 209 rfl, mem_2 222 rfl, mem_2 223 rfl, Or.inl (mem_2 230 rfl)⟩, fun _ h => absurd h List.not_mem_nil⟩⟩⟩⟩⟩⟩⟩
set_option maxRecDepth 100000 in
theorem cl_34 : ∀ x ∈ ([(3, 0, 43, 0)] : List (Nat × Nat × Nat × Nat)), COK 7 1 x := List.forall_mem_cons.mpr ⟨⟨mem_1 99 rfl, mem_1 37 rfl, rfl, rfl⟩, fun _ h => absurd h List.not_mem_nil⟩
set_option maxRecDepth 100000 in
theorem cl_35 : ∀ x ∈ ([(5, 0, 44, 5)] : List (Nat × Nat × Nat × Nat)), COK 7 13 x := List.forall_mem_cons.mpr ⟨⟨mem_1 203 rfl, mem_5 66 rfl, mem_1 104 rfl, Or.inl rfl, mem_1 198 rfl, by decide +kernel⟩, fun _ h => absurd h List.not_mem_nil⟩
set_option maxRecDepth 100000 in
theorem cl_36 : ∀ x ∈ ([(1, 7, 51, 7)] : List (Nat × Nat × Nat × Nat)), COK 7 17 x := List.forall_mem_cons.mpr ⟨⟨"VerandaTalk$Matter", ⟨by decide +kernel, by decide +kernel⟩, mem_3 11 rfl, mem_3 12 rfl, mem_3 13 rfl, mem_2 188 rfl, Or.inr ⟨51, rfl, mem_2 188 rfl, mem_2 189 rfl⟩⟩, fun _ h => absurd h List.not_mem_nil⟩
set_option maxRecDepth 100000 in
theorem cl_37 : ∀ x ∈ ([(5, 0, 50, 5)] : List (Nat × Nat × Nat × Nat)), COK 7 23 x := List.forall_mem_cons.mpr ⟨⟨mem_3 14 rfl, mem_3 15 rfl, mem_1 104 rfl, Or.inr (mem_1 71 rfl), mem_2 234 rfl, by decide +kernel⟩, fun _ h => absurd h List.not_mem_nil⟩
set_option maxRecDepth 100000 in
theorem cl_38 : ∀ x ∈ ([(1, 7, 45, 7)] : List (Nat × Nat × Nat × Nat)), COK 7 27 x := List.forall_mem_cons.mpr ⟨⟨"VerandaTalk$Marriage", ⟨by decide +kernel, by decide +kernel⟩, mem_3 17 rfl, mem_3 18 rfl, mem_3 20 rfl, mem_2 195 rfl, Or.inr ⟨45, rfl, mem_2 195 rfl, mem_2 196 rfl⟩⟩, fun _ h => absurd h List.not_mem_nil⟩
set_option maxRecDepth 100000 in
theorem cl_39 : ∀ x ∈ ([(2, 0, 143, 0)] : List (Nat × Nat × Nat × Nat)), COK 8 44 x := List.forall_mem_cons.mpr ⟨⟨mem_3 109 rfl, mem_2 17 rfl⟩, fun _ h => absurd h List.not_mem_nil⟩
set_option maxRecDepth 100000 in
theorem cl_40 : ∀ x ∈ ([(0, 8, 57, 0)] : List (Nat × Nat × Nat × Nat)), COK 8 50 x := List.forall_mem_cons.mpr ⟨⟨rfl, mem_3 110 rfl, mem_3 112 rfl, mem_p 7 rfl⟩, fun _ h => absurd h List.not_mem_nil⟩
set_option maxRecDepth 100000 in
theorem cl_41 : ∀ x ∈ ([(0, 8, 66, 0)] : List (Nat × Nat × Nat × Nat)), COK 8 54 x := List.forall_mem_cons.mpr ⟨⟨rfl, mem_3 140 rfl, mem_3 142 rfl, mem_p 10 rfl⟩, fun _ h => absurd h List.not_mem_nil⟩
set_option maxRecDepth 100000 in
theorem cl_42 : ∀ x ∈ ([(0, 8, 67, 0)] : List (Nat × Nat × Nat × Nat)), COK 8 58 x := List.forall_mem_cons.mpr ⟨⟨rfl, mem_3 115 rfl, mem_3 117 rfl, mem_p 8 rfl⟩, fun _ h => absurd h List.not_mem_nil⟩
set_option maxRecDepth 100000 in
theorem cl_43 : ∀ x ∈ ([(2, 0, 58, 0)] : List (Nat × Nat × Nat × Nat)), COK 8 62 x := List.forall_mem_cons.mpr ⟨⟨mem_3 119 rfl, mem_3 120 rfl⟩, fun _ h => absurd h List.not_mem_nil⟩
set_option maxRecDepth 100000 in
theorem cl_44 : ∀ x ∈ ([(0, 8, 65, 0)] : List (Nat × Nat × Nat × Nat)), COK 8 66 x := List.forall_mem_cons.mpr ⟨⟨rfl, mem_3 127 rfl, mem_3 129 rfl, mem_p 9 rfl⟩, fun _ h => absurd h List.not_mem_nil⟩
set_option maxRecDepth 100000 in
theorem cl_45 : ∀ x ∈ ([(0, 8, 62, 0)] : List (Nat × Nat × Nat × Nat)), COK 8 70 x := List.forall_mem_cons.mpr ⟨⟨rfl, mem_3 148 rfl, mem_3 150 rfl, mem_p 11 rfl⟩, fun _ h => absurd h List.not_mem_nil⟩
set_option maxRecDepth 100000 in
theorem cl_46 : ∀ x ∈ ([(0, 8, 59, 0)] : List (Nat × Nat × Nat × Nat)), COK 8 73 x := List.forall_mem_cons.mpr ⟨⟨rfl, mem_3 155 rfl, mem_3 157 rfl, mem_p 12 rfl⟩, fun _ h => absurd h List.not_mem_nil⟩
set_option maxRecDepth 100000 in
theorem cl_47 : ∀ x ∈ ([(0, 8, 60, 0)] : List (Nat × Nat × Nat × Nat)), COK 8 85 x := List.forall_mem_cons.mpr ⟨⟨rfl, mem_3 159 rfl, mem_3 161 rfl, mem_p 13 rfl⟩, fun _ h => absurd h List.not_mem_nil⟩
set_option maxRecDepth 100000 in
theorem cl_48 : ∀ x ∈ ([(0, 8, 68, 0)] : List (Nat × Nat × Nat × Nat)), COK 8 88 x := List.forall_mem_cons.mpr ⟨⟨rfl, mem_3 228 rfl, mem_3 230 rfl, mem_p 16 rfl⟩, fun _ h => absurd h List.not_mem_nil⟩
set_option maxRecDepth 100000 in
theorem cl_49 : ∀ x ∈ ([(0, 8, 61, 0)] : List (Nat × Nat × Nat × Nat)), COK 8 92 x := List.forall_mem_cons.mpr ⟨⟨rfl, mem_3 163 rfl, mem_3 165 rfl, mem_p 14 rfl⟩, fun _ h => absurd h List.not_mem_nil⟩
set_option maxRecDepth 100000 in
theorem cl_50 : ∀ x ∈ ([(0, 8, 64, 0)] : List (Nat × Nat × Nat × Nat)), COK 8 97 x := List.forall_mem_cons.mpr ⟨⟨rfl, mem_3 168 rfl, mem_3 170 rfl, mem_p 15 rfl⟩, fun _ h => absurd h List.not_mem_nil⟩
set_option maxRecDepth 100000 in
theorem cl_51 : ∀ x ∈ ([(2, 0, 63, 0)] : List (Nat × Nat × Nat × Nat)), COK 8 103 x := List.forall_mem_cons.mpr ⟨⟨mem_3 152 rfl, mem_3 153 rfl⟩, fun _ h => absurd h List.not_mem_nil⟩
set_option maxRecDepth 100000 in
theorem cl_52 : ∀ x ∈ ([(0, 17, 131, 0)] : List (Nat × Nat × Nat × Nat)), COK 8 107 x := List.forall_mem_cons.mpr ⟨⟨rfl, mem_3 172 rfl, mem_3 173 rfl, mem_3 174 rfl⟩, fun _ h => absurd h List.not_mem_nil⟩
set_option maxRecDepth 100000 in
theorem cl_53 : ∀ x ∈ ([(0, 17, 128, 0)] : List (Nat × Nat × Nat × Nat)), COK 8 112 x := List.forall_mem_cons.mpr ⟨⟨rfl, mem_3 131 rfl, mem_3 132 rfl, mem_3 133 rfl⟩, fun _ h => absurd h List.not_mem_nil⟩
set_option maxRecDepth 100000 in
theorem cl_54 : ∀ x ∈ ([(0, 17, 130, 0)] : List (Nat × Nat × Nat × Nat)), COK 8 115 x := List.forall_mem_cons.mpr ⟨⟨rfl, mem_3 139 rfl, mem_3 62 rfl, mem_3 63 rfl⟩, fun _ h => absurd h List.not_mem_nil⟩
set_option maxRecDepth 100000 in
theorem cl_55 : ∀ x ∈ ([(0, 17, 129, 0)] : List (Nat × Nat × Nat × Nat)), COK 8 119 x := List.forall_mem_cons.mpr ⟨⟨rfl, mem_3 144 rfl, mem_3 145 rfl, mem_3 146 rfl⟩, fun _ h => absurd h List.not_mem_nil⟩
set_option maxRecDepth 100000 in
theorem cl_56 : ∀ x ∈ ([(2, 0, 69, 0)] : List (Nat × Nat × Nat × Nat)), COK 8 122 x := List.forall_mem_cons.mpr ⟨⟨mem_1 179 rfl, mem_1 180 rfl⟩, fun _ h => absurd h List.not_mem_nil⟩
set_option maxRecDepth 100000 in
theorem cl_57 : ∀ x ∈ ([(3, 0, 40, 0)] : List (Nat × Nat × Nat × Nat)), COK 9 3 x := List.forall_mem_cons.mpr ⟨⟨mem_1 121 rfl, mem_1 86 rfl, rfl, rfl⟩, fun _ h => absurd h List.not_mem_nil⟩
set_option maxRecDepth 100000 in
theorem cl_58 : ∀ x ∈ ([(5, 0, 41, 4)] : List (Nat × Nat × Nat × Nat)), COK 9 9 x := List.forall_mem_cons.mpr ⟨⟨mem_1 207 rfl, mem_5 67 rfl, mem_1 126 rfl, Or.inl rfl, mem_1 194 rfl, by decide +kernel⟩, fun _ h => absurd h List.not_mem_nil⟩
set_option maxRecDepth 100000 in
theorem cl_59 : ∀ x ∈ ([(1, 9, 51, 9)] : List (Nat × Nat × Nat × Nat)), COK 9 28 x := List.forall_mem_cons.mpr ⟨⟨"VerandaTalk$Matter", ⟨by decide +kernel, by decide +kernel⟩, mem_2 225 rfl, mem_2 226 rfl, mem_2 227 rfl, mem_2 188 rfl, Or.inr ⟨51, rfl, mem_2 188 rfl, mem_2 189 rfl⟩⟩, fun _ h => absurd h List.not_mem_nil⟩
set_option maxRecDepth 100000 in
theorem cl_60 : ∀ x ∈ ([(5, 0, 49, 4)] : List (Nat × Nat × Nat × Nat)), COK 9 32 x := List.forall_mem_cons.mpr ⟨⟨mem_2 228 rfl, mem_2 229 rfl, mem_1 126 rfl, Or.inr (mem_1 93 rfl), mem_2 207 rfl, by decide +kernel⟩, fun _ h => absurd h List.not_mem_nil⟩
set_option maxRecDepth 100000 in
theorem cl_61 : ∀ x ∈ ([(4, 0, 55, 0)] : List (Nat × Nat × Nat × Nat)), COK 10 60 x := List.forall_mem_cons.mpr ⟨⟨mem_4 70 rfl, mem_3 238 rfl, rfl, rfl⟩, fun _ h => absurd h List.not_mem_nil⟩
set_option maxRecDepth 100000 in
theorem cl_62 : ∀ x ∈ ([(0, 10, 79, 0)] : List (Nat × Nat × Nat × Nat)), COK 10 80 x := List.forall_mem_cons.mpr ⟨⟨rfl, mem_1 156 rfl, mem_1 157 rfl, mem_1 158 rfl⟩, fun _ h => absurd h List.not_mem_nil⟩
set_option maxRecDepth 100000 in
theorem cl_63 : ∀ x ∈ ([(0, 10, 80, 0)] : List (Nat × Nat × Nat × Nat)), COK 10 84 x := List.forall_mem_cons.mpr ⟨⟨rfl, mem_1 152 rfl, mem_1 153 rfl, mem_1 154 rfl⟩, fun _ h => absurd h List.not_mem_nil⟩
set_option maxRecDepth 100000 in
theorem cl_64 : ∀ x ∈ ([(0, 10, 81, 0)] : List (Nat × Nat × Nat × Nat)), COK 10 87 x := List.forall_mem_cons.mpr ⟨⟨rfl, mem_1 236 rfl, mem_1 149 rfl, mem_1 150 rfl⟩, fun _ h => absurd h List.not_mem_nil⟩
set_option maxRecDepth 100000 in
theorem cl_65 : ∀ x ∈ ([(0, 10, 84, 0)] : List (Nat × Nat × Nat × Nat)), COK 10 91 x := List.forall_mem_cons.mpr ⟨⟨rfl, mem_1 164 rfl, mem_1 166 rfl, mem_p 2 rfl⟩, fun _ h => absurd h List.not_mem_nil⟩
set_option maxRecDepth 100000 in
theorem cl_66 : ∀ x ∈ ([(1, 1, 31, 6), (1, 2, 34, 6), (1, 4, 41, 6), (1, 5, 44, 6), (0, 6, 47, 0), (1, 7, 53, 6), (1, 9, 72, 6)] : List (Nat × Nat × Nat × Nat)), COK 10 95 x := List.forall_mem_cons.mpr ⟨⟨"VerandaTalk$Matter", ⟨by decide +kernel, by decide +kernel⟩, mem_1 182 rfl, mem_1 185 rfl, mem_1 186 rfl, mem_1 187 rfl, Or.inr ⟨47, rfl, mem_1 183 rfl, mem_1 208 rfl⟩⟩, List.forall_mem_cons.mpr ⟨⟨"VerandaTalk$Matter", ⟨by decide +kernel, by decide +kernel⟩, mem_1 182 rfl, mem_1 185 rfl, mem_1 189 rfl, mem_1 190 rfl, Or.inr ⟨47, rfl, mem_1 183 rfl, mem_1 208 rfl⟩⟩, List.forall_mem_cons.mpr ⟨⟨"VerandaTalk$Matter", ⟨by decide +kernel, by decide +kernel⟩, mem_1 182 rfl, mem_1 185 rfl, mem_1 193 rfl, mem_1 194 rfl, Or.inr ⟨47, rfl, mem_1 183 rfl, mem_1 208 rfl⟩⟩, List.forall_mem_cons.mpr ⟨⟨"VerandaTalk$Matter", ⟨by decide +kernel, by decide +kernel⟩, mem_1 182 rfl, mem_1 185 rfl, mem_1 197 rfl, mem_1 198 rfl, Or.inr ⟨47, rfl, mem_1 183 rfl, mem_1 208 rfl⟩⟩, List.forall_mem_cons.mpr ⟨⟨rfl, mem_1 182 rfl, mem_1 183 rfl, mem_1 184 rfl⟩, List.forall_mem_cons.mpr ⟨⟨"VerandaTalk$Matter", ⟨by decide +kernel, by decide +kernel⟩, mem_1 182 rfl, mem_1 185 rfl, mem_1 200 rfl, mem_1 201 rfl, Or.inr ⟨47, rfl, mem_1 183 rfl, mem_1 208 rfl⟩⟩, List.forall_mem_cons.mpr ⟨⟨"VerandaTalk$Matter", ⟨by decide +kernel, by decide +kernel⟩, mem_1 182 rfl, mem_1 185 rfl, mem_1 204 rfl, mem_1 205 rfl, Or.inr ⟨47, rfl, mem_1 183 rfl, mem_1 208 rfl⟩⟩, fun _ h => absurd h List.not_mem_nil⟩⟩⟩⟩⟩⟩⟩
set_option maxRecDepth 100000 in
theorem cl_67 : ∀ x ∈ ([(2, 0, 141, 0)] : List (Nat × Nat × Nat × Nat)), COK 10 99 x := List.forall_mem_cons.mpr ⟨⟨mem_1 169 rfl, mem_1 170 rfl⟩, fun _ h => absurd h List.not_mem_nil⟩
set_option maxRecDepth 100000 in
theorem cl_68 : ∀ x ∈ ([(0, 8, 70, 0)] : List (Nat × Nat × Nat × Nat)), COK 10 107 x := List.forall_mem_cons.mpr ⟨⟨rfl, mem_1 175 rfl, mem_1 176 rfl, mem_1 177 rfl⟩, fun _ h => absurd h List.not_mem_nil⟩
set_option maxRecDepth 100000 in
theorem cl_69 : ∀ x ∈ ([(0, 10, 83, 0)] : List (Nat × Nat × Nat × Nat)), COK 10 114 x := List.forall_mem_cons.mpr ⟨⟨rfl, mem_2 1 rfl, mem_1 161 rfl, mem_1 162 rfl⟩, fun _ h => absurd h List.not_mem_nil⟩
set_option maxRecDepth 100000 in
theorem cl_70 : ∀ x ∈ ([(2, 0, 142, 0)] : List (Nat × Nat × Nat × Nat)), COK 10 117 x := List.forall_mem_cons.mpr ⟨⟨mem_2 27 rfl, mem_2 28 rfl⟩, fun _ h => absurd h List.not_mem_nil⟩
set_option maxRecDepth 100000 in
theorem cl_71 : ∀ x ∈ ([(2, 0, 143, 0)] : List (Nat × Nat × Nat × Nat)), COK 10 123 x := List.forall_mem_cons.mpr ⟨⟨mem_2 30 rfl, mem_2 17 rfl⟩, fun _ h => absurd h List.not_mem_nil⟩
set_option maxRecDepth 100000 in
theorem cl_72 : ∀ x ∈ ([(0, 10, 78, 0)] : List (Nat × Nat × Nat × Nat)), COK 10 129 x := List.forall_mem_cons.mpr ⟨⟨rfl, mem_2 31 rfl, mem_2 32 rfl, mem_2 33 rfl⟩, fun _ h => absurd h List.not_mem_nil⟩
set_option maxRecDepth 100000 in
theorem cl_73 : ∀ x ∈ ([(0, 10, 87, 0)] : List (Nat × Nat × Nat × Nat)), COK 10 132 x := List.forall_mem_cons.mpr ⟨⟨rfl, mem_2 6 rfl, mem_2 7 rfl, mem_2 8 rfl⟩, fun _ h => absurd h List.not_mem_nil⟩
set_option maxRecDepth 100000 in
theorem cl_74 : ∀ x ∈ ([(4, 0, 74, 0)] : List (Nat × Nat × Nat × Nat)), COK 11 13 x := List.forall_mem_cons.mpr ⟨⟨mem_4 63 rfl, mem_4 64 rfl, rfl, rfl⟩, fun _ h => absurd h List.not_mem_nil⟩
set_option maxRecDepth 100000 in
theorem cl_75 : ∀ x ∈ ([(4, 0, 36, 0)] : List (Nat × Nat × Nat × Nat)), COK 11 20 x := List.forall_mem_cons.mpr ⟨⟨mem_4 151 rfl, mem_4 152 rfl, rfl, rfl⟩, fun _ h => absurd h List.not_mem_nil⟩
set_option maxRecDepth 100000 in
theorem cl_76 : ∀ x ∈ ([(3, 0, 17, 0)] : List (Nat × Nat × Nat × Nat)), COK 11 33 x := List.forall_mem_cons.mpr ⟨⟨mem_4 208 rfl, mem_4 209 rfl, rfl, rfl⟩, fun _ h => absurd h List.not_mem_nil⟩
set_option maxRecDepth 100000 in
theorem cl_77 : ∀ x ∈ ([(4, 0, 55, 0)] : List (Nat × Nat × Nat × Nat)), COK 11 44 x := List.forall_mem_cons.mpr ⟨⟨mem_3 237 rfl, mem_3 238 rfl, rfl, rfl⟩, fun _ h => absurd h List.not_mem_nil⟩
set_option maxRecDepth 100000 in
theorem cl_78 : ∀ x ∈ ([(0, 8, 56, 0)] : List (Nat × Nat × Nat × Nat)), COK 11 64 x := List.forall_mem_cons.mpr ⟨⟨rfl, mem_3 105 rfl, mem_3 106 rfl, mem_3 107 rfl⟩, fun _ h => absurd h List.not_mem_nil⟩
set_option maxRecDepth 100000 in
theorem cl_79 : ∀ x ∈ ([(0, 10, 77, 0)] : List (Nat × Nat × Nat × Nat)), COK 11 68 x := List.forall_mem_cons.mpr ⟨⟨rfl, mem_3 232 rfl, mem_3 233 rfl, mem_3 234 rfl⟩, fun _ h => absurd h List.not_mem_nil⟩
set_option maxRecDepth 100000 in
theorem cl_80 : ∀ x ∈ ([(0, 11, 127, 0)] : List (Nat × Nat × Nat × Nat)), COK 11 75 x := List.forall_mem_cons.mpr ⟨⟨rfl, mem_1 29 rfl, mem_1 31 rfl, mem_p 0 rfl⟩, fun _ h => absurd h List.not_mem_nil⟩
set_option maxRecDepth 100000 in
theorem cl_81 : ∀ x ∈ ([(0, 10, 76, 0)] : List (Nat × Nat × Nat × Nat)), COK 11 79 x := List.forall_mem_cons.mpr ⟨⟨rfl, mem_1 135 rfl, mem_1 136 rfl, mem_1 137 rfl⟩, fun _ h => absurd h List.not_mem_nil⟩
set_option maxRecDepth 100000 in
theorem cl_82 : ∀ x ∈ ([(0, 11, 120, 0)] : List (Nat × Nat × Nat × Nat)), COK 11 83 x := List.forall_mem_cons.mpr ⟨⟨rfl, mem_1 143 rfl, mem_1 145 rfl, mem_p 1 rfl⟩, fun _ h => absurd h List.not_mem_nil⟩
set_option maxRecDepth 100000 in
theorem cl_83 : ∀ x ∈ ([(0, 10, 81, 0)] : List (Nat × Nat × Nat × Nat)), COK 11 106 x := List.forall_mem_cons.mpr ⟨⟨rfl, mem_1 148 rfl, mem_1 149 rfl, mem_1 150 rfl⟩, fun _ h => absurd h List.not_mem_nil⟩
set_option maxRecDepth 100000 in
theorem cl_84 : ∀ x ∈ ([(0, 10, 83, 0)] : List (Nat × Nat × Nat × Nat)), COK 11 109 x := List.forall_mem_cons.mpr ⟨⟨rfl, mem_1 160 rfl, mem_1 161 rfl, mem_1 162 rfl⟩, fun _ h => absurd h List.not_mem_nil⟩
set_option maxRecDepth 100000 in
theorem cl_85 : ∀ x ∈ ([(2, 0, 123, 0)] : List (Nat × Nat × Nat × Nat)), COK 11 119 x := List.forall_mem_cons.mpr ⟨⟨mem_1 217 rfl, mem_1 218 rfl⟩, fun _ h => absurd h List.not_mem_nil⟩
set_option maxRecDepth 100000 in
theorem cl_86 : ∀ x ∈ ([(0, 10, 82, 0)] : List (Nat × Nat × Nat × Nat)), COK 11 138 x := List.forall_mem_cons.mpr ⟨⟨rfl, mem_1 232 rfl, mem_1 233 rfl, mem_1 234 rfl⟩, fun _ h => absurd h List.not_mem_nil⟩
set_option maxRecDepth 100000 in
theorem cl_87 : ∀ x ∈ ([(0, 10, 85, 0)] : List (Nat × Nat × Nat × Nat)), COK 11 142 x := List.forall_mem_cons.mpr ⟨⟨rfl, mem_1 237 rfl, mem_1 238 rfl, mem_1 239 rfl⟩, fun _ h => absurd h List.not_mem_nil⟩
set_option maxRecDepth 100000 in
theorem cl_88 : ∀ x ∈ ([(0, 10, 88, 0)] : List (Nat × Nat × Nat × Nat)), COK 11 145 x := List.forall_mem_cons.mpr ⟨⟨rfl, mem_2 2 rfl, mem_2 3 rfl, mem_2 4 rfl⟩, fun _ h => absurd h List.not_mem_nil⟩
set_option maxRecDepth 100000 in
theorem cl_89 : ∀ x ∈ ([(0, 0, 25, 0)] : List (Nat × Nat × Nat × Nat)), COK 11 148 x := List.forall_mem_cons.mpr ⟨⟨rfl, mem_2 10 rfl, mem_2 11 rfl, mem_2 12 rfl⟩, fun _ h => absurd h List.not_mem_nil⟩
set_option maxRecDepth 100000 in
theorem cl_90 : ∀ x ∈ ([(0, 10, 86, 0)] : List (Nat × Nat × Nat × Nat)), COK 11 152 x := List.forall_mem_cons.mpr ⟨⟨rfl, mem_2 23 rfl, mem_2 24 rfl, mem_2 25 rfl⟩, fun _ h => absurd h List.not_mem_nil⟩
set_option maxRecDepth 100000 in
theorem cl_91 : ∀ x ∈ ([(2, 0, 121, 0)] : List (Nat × Nat × Nat × Nat)), COK 11 156 x := List.forall_mem_cons.mpr ⟨⟨mem_2 43 rfl, mem_2 44 rfl⟩, fun _ h => absurd h List.not_mem_nil⟩
set_option maxRecDepth 100000 in
theorem cl_92 : ∀ x ∈ ([(0, 0, 18, 0)] : List (Nat × Nat × Nat × Nat)), COK 11 159 x := List.forall_mem_cons.mpr ⟨⟨rfl, mem_2 46 rfl, mem_2 47 rfl, mem_2 48 rfl⟩, fun _ h => absurd h List.not_mem_nil⟩
set_option maxRecDepth 100000 in
theorem cl_93 : ∀ x ∈ ([(0, 0, 19, 0)] : List (Nat × Nat × Nat × Nat)), COK 11 163 x := List.forall_mem_cons.mpr ⟨⟨rfl, mem_2 63 rfl, mem_2 64 rfl, mem_2 65 rfl⟩, fun _ h => absurd h List.not_mem_nil⟩
set_option maxRecDepth 100000 in
theorem cl_94 : ∀ x ∈ ([(0, 0, 20, 0)] : List (Nat × Nat × Nat × Nat)), COK 11 167 x := List.forall_mem_cons.mpr ⟨⟨rfl, mem_2 72 rfl, mem_2 73 rfl, mem_2 74 rfl⟩, fun _ h => absurd h List.not_mem_nil⟩
set_option maxRecDepth 100000 in
theorem cl_95 : ∀ x ∈ ([(0, 10, 87, 0)] : List (Nat × Nat × Nat × Nat)), COK 11 180 x := List.forall_mem_cons.mpr ⟨⟨rfl, mem_2 97 rfl, mem_2 7 rfl, mem_2 8 rfl⟩, fun _ h => absurd h List.not_mem_nil⟩
set_option maxRecDepth 100000 in
theorem cl_96 : ∀ x ∈ ([(0, 0, 26, 0)] : List (Nat × Nat × Nat × Nat)), COK 11 195 x := List.forall_mem_cons.mpr ⟨⟨rfl, mem_2 106 rfl, mem_2 107 rfl, mem_2 108 rfl⟩, fun _ h => absurd h List.not_mem_nil⟩
set_option maxRecDepth 100000 in
theorem cl_97 : ∀ x ∈ ([(0, 0, 27, 0)] : List (Nat × Nat × Nat × Nat)), COK 11 205 x := List.forall_mem_cons.mpr ⟨⟨rfl, mem_2 128 rfl, mem_2 129 rfl, mem_2 130 rfl⟩, fun _ h => absurd h List.not_mem_nil⟩
set_option maxRecDepth 100000 in
theorem cl_98 : ∀ x ∈ ([(2, 0, 122, 0)] : List (Nat × Nat × Nat × Nat)), COK 11 209 x := List.forall_mem_cons.mpr ⟨⟨mem_2 136 rfl, mem_2 137 rfl⟩, fun _ h => absurd h List.not_mem_nil⟩
set_option maxRecDepth 100000 in
theorem cl_99 : ∀ x ∈ ([(2, 0, 125, 0)] : List (Nat × Nat × Nat × Nat)), COK 11 214 x := List.forall_mem_cons.mpr ⟨⟨mem_2 140 rfl, mem_2 141 rfl⟩, fun _ h => absurd h List.not_mem_nil⟩
set_option maxRecDepth 100000 in
theorem cl_100 : ∀ x ∈ ([(0, 10, 80, 0)] : List (Nat × Nat × Nat × Nat)), COK 11 218 x := List.forall_mem_cons.mpr ⟨⟨rfl, mem_2 150 rfl, mem_1 153 rfl, mem_1 154 rfl⟩, fun _ h => absurd h List.not_mem_nil⟩
set_option maxRecDepth 100000 in
theorem cl_101 : ∀ x ∈ ([(2, 0, 141, 0)] : List (Nat × Nat × Nat × Nat)), COK 11 221 x := List.forall_mem_cons.mpr ⟨⟨mem_2 151 rfl, mem_1 170 rfl⟩, fun _ h => absurd h List.not_mem_nil⟩
set_option maxRecDepth 100000 in
theorem cl_102 : ∀ x ∈ ([(0, 0, 29, 0)] : List (Nat × Nat × Nat × Nat)), COK 11 235 x := List.forall_mem_cons.mpr ⟨⟨rfl, mem_2 160 rfl, mem_2 161 rfl, mem_2 162 rfl⟩, fun _ h => absurd h List.not_mem_nil⟩
set_option maxRecDepth 100000 in
theorem cl_103 : ∀ x ∈ ([(1, 1, 48, 6), (1, 2, 35, 6), (1, 4, 48, 6), (1, 5, 45, 6), (0, 6, 48, 0), (1, 7, 45, 6), (1, 9, 48, 6)] : List (Nat × Nat × Nat × Nat)), COK 11 252 x := List.forall_mem_cons.mpr ⟨⟨"VerandaTalk$Matter", ⟨by decide +kernel, by decide +kernel⟩, mem_2 176 rfl, mem_2 179 rfl, mem_2 180 rfl, mem_2 177 rfl, Or.inr ⟨48, rfl, mem_2 177 rfl, mem_2 204 rfl⟩⟩, List.forall_mem_cons.mpr ⟨⟨"VerandaTalk$Matter", ⟨by decide +kernel, by decide +kernel⟩, mem_2 176 rfl, mem_2 179 rfl, mem_2 181 rfl, mem_2 182 rfl, Or.inl (mem_2 192 rfl)⟩, List.forall_mem_cons.mpr ⟨⟨"VerandaTalk$Matter", ⟨by decide +kernel, by decide +kernel⟩, mem_2 176 rfl, mem_2 179 rfl, mem_2 193 rfl, mem_2 177 rfl, Or.inr ⟨48, rfl, mem_2 177 rfl, mem_2 204 rfl⟩⟩, List.forall_mem_cons.mpr ⟨⟨"VerandaTalk$Matter", ⟨by decide +kernel, by decide +kernel⟩, mem_2 176 rfl, mem_2 179 rfl, mem_2 194 rfl, mem_2 195 rfl, Or.inl (mem_2 192 rfl)⟩, List.forall_mem_cons.mpr ⟨⟨rfl, mem_2 176 rfl, mem_2 177 rfl, mem_2 178 rfl⟩, List.forall_mem_cons.mpr ⟨⟨"VerandaTalk$Matter", ⟨by decide +kernel, by decide +kernel⟩, mem_2 176 rfl, mem_2 179 rfl, mem_2 202 rfl, mem_2 195 rfl, Or.inl (mem_2 192 rfl)⟩, List.forall_mem_cons.mpr ⟨⟨"VerandaTalk$Matter", ⟨by decide +kernel, by decide +kernel⟩, mem_2 176 rfl, mem_2 179 rfl, mem_2 203 rfl, mem_2 177 rfl, Or.inr ⟨48, rfl, mem_2 177 rfl, mem_2 204 rfl⟩⟩, fun _ h => absurd h List.not_mem_nil⟩⟩⟩⟩⟩⟩⟩
set_option maxRecDepth 100000 in
theorem cl_104 : ∀ x ∈ ([(1, 1, 32, 6), (1, 2, 32, 6), (1, 4, 49, 6), (1, 5, 49, 6), (0, 6, 49, 0), (1, 7, 49, 6), (1, 9, 73, 6)] : List (Nat × Nat × Nat × Nat)), COK 11 257 x := List.forall_mem_cons.mpr ⟨⟨"VerandaTalk$Matter", ⟨by decide +kernel, by decide +kernel⟩, mem_2 206 rfl, mem_2 209 rfl, mem_2 210 rfl, mem_2 211 rfl, Or.inl (mem_2 230 rfl)⟩, List.forall_mem_cons.mpr ⟨⟨"VerandaTalk$Matter", ⟨by decide +kernel, by decide +kernel⟩, mem_2 206 rfl, mem_2 209 rfl, mem_2 218 rfl, mem_2 211 rfl, Or.inl (mem_2 230 rfl)⟩, List.forall_mem_cons.mpr ⟨⟨"VerandaTalk$Matter", ⟨by decide +kernel, by decide +kernel⟩, mem_2 206 rfl, mem_2 209 rfl, mem_2 219 rfl, mem_2 207 rfl, Or.inr ⟨49, rfl, mem_2 207 rfl, mem_2 231 rfl⟩⟩, List.forall_mem_cons.mpr ⟨⟨"VerandaTalk$Matter", ⟨by decide +kernel, by decide +kernel⟩, mem_2 206 rfl, mem_2 209 rfl, mem_2 220 rfl, mem_2 207 rfl, Or.inr ⟨49, rfl, mem_2 207 rfl, mem_2 231 rfl⟩⟩, List.forall_mem_cons.mpr ⟨⟨rfl, mem_2 206 rfl, mem_2 207 rfl, mem_2 208 rfl⟩, List.forall_mem_cons.mpr ⟨⟨"VerandaTalk$Matter", ⟨by decide +kernel, by decide +kernel⟩, mem_2 206 rfl, mem_2 209 rfl, mem_2 221 rfl, mem_2 207 rfl, Or.inr ⟨49, rfl, mem_2 207 rfl, mem_2 231 rfl⟩⟩, List.forall_mem_cons.mpr ⟨⟨"VerandaTalk$Matter", ⟨by decide +kernel, by decide +kernel⟩, mem_2 206 rfl, mem_2 209 rfl, mem_2 222 rfl, mem_2 223 rfl, Or.inl (mem_2 230 rfl)⟩, fun _ h => absurd h List.not_mem_nil⟩⟩⟩⟩⟩⟩⟩
set_option maxRecDepth 100000 in
theorem cl_105 : ∀ x ∈ ([(1, 1, 50, 6), (1, 2, 50, 6), (1, 4, 42, 6), (1, 5, 50, 6), (0, 6, 50, 0), (1, 7, 54, 6), (1, 9, 42, 6)] : List (Nat × Nat × Nat × Nat)), COK 11 260 x := List.forall_mem_cons.mpr ⟨⟨"VerandaTalk$Matter", ⟨by decide +kernel, by decide +kernel⟩, mem_2 233 rfl, mem_2 236 rfl, mem_2 237 rfl, mem_2 234 rfl, Or.inr ⟨50, rfl, mem_2 234 rfl, mem_3 22 rfl⟩⟩, List.forall_mem_cons.mpr ⟨⟨"VerandaTalk$Matter", ⟨by decide +kernel, by decide +kernel⟩, mem_2 233 rfl, mem_2 236 rfl, mem_2 238 rfl, mem_2 234 rfl, Or.inr ⟨50, rfl, mem_2 234 rfl, mem_3 22 rfl⟩⟩, List.forall_mem_cons.mpr ⟨⟨"VerandaTalk$Matter", ⟨by decide +kernel, by decide +kernel⟩, mem_2 233 rfl, mem_2 236 rfl, mem_2 239 rfl, mem_3 0 rfl, Or.inl (mem_3 16 rfl)⟩, List.forall_mem_cons.mpr ⟨⟨"VerandaTalk$Matter", ⟨by decide +kernel, by decide +kernel⟩, mem_2 233 rfl, mem_2 236 rfl, mem_3 7 rfl, mem_2 234 rfl, Or.inr ⟨50, rfl, mem_2 234 rfl, mem_3 22 rfl⟩⟩, List.forall_mem_cons.mpr ⟨⟨rfl, mem_2 233 rfl, mem_2 234 rfl, mem_2 235 rfl⟩, List.forall_mem_cons.mpr ⟨⟨"VerandaTalk$Matter", ⟨by decide +kernel, by decide +kernel⟩, mem_2 233 rfl, mem_2 236 rfl, mem_3 8 rfl, mem_3 9 rfl, Or.inl (mem_3 16 rfl)⟩, List.forall_mem_cons.mpr ⟨⟨"VerandaTalk$Matter", ⟨by decide +kernel, by decide +kernel⟩, mem_2 233 rfl, mem_2 236 rfl, mem_3 21 rfl, mem_3 0 rfl, Or.inl (mem_3 16 rfl)⟩, fun _ h => absurd h List.not_mem_nil⟩⟩⟩⟩⟩⟩⟩
set_option maxRecDepth 100000 in
theorem cl_106 : ∀ x ∈ ([(2, 0, 124, 0)] : List (Nat × Nat × Nat × Nat)), COK 11 263 x := List.forall_mem_cons.mpr ⟨⟨mem_3 32 rfl, mem_3 33 rfl⟩, fun _ h => absurd h List.not_mem_nil⟩
set_option maxRecDepth 100000 in
theorem cl_107 : ∀ x ∈ ([(0, 10, 75, 0)] : List (Nat × Nat × Nat × Nat)), COK 11 267 x := List.forall_mem_cons.mpr ⟨⟨rfl, mem_3 41 rfl, mem_2 51 rfl, mem_2 52 rfl⟩, fun _ h => absurd h List.not_mem_nil⟩
set_option maxRecDepth 100000 in
theorem cl_108 : ∀ x ∈ ([(0, 3, 37, 0)] : List (Nat × Nat × Nat × Nat)), COK 11 271 x := List.forall_mem_cons.mpr ⟨⟨rfl, mem_3 42 rfl, mem_3 43 rfl, mem_3 44 rfl⟩, fun _ h => absurd h List.not_mem_nil⟩
set_option maxRecDepth 100000 in
theorem cl_109 : ∀ x ∈ ([(2, 0, 126, 0)] : List (Nat × Nat × Nat × Nat)), COK 11 277 x := List.forall_mem_cons.mpr ⟨⟨mem_2 143 rfl, mem_2 144 rfl⟩, fun _ h => absurd h List.not_mem_nil⟩
set_option maxRecDepth 100000 in
theorem cl_110 : ∀ x ∈ ([(3, 0, 43, 0)] : List (Nat × Nat × Nat × Nat)), COK 11 283 x := List.forall_mem_cons.mpr ⟨⟨mem_1 36 rfl, mem_1 37 rfl, rfl, rfl⟩, fun _ h => absurd h List.not_mem_nil⟩
set_option maxRecDepth 100000 in
theorem cl_111 : ∀ x ∈ ([(3, 0, 30, 0)] : List (Nat × Nat × Nat × Nat)), COK 11 288 x := List.forall_mem_cons.mpr ⟨⟨mem_1 74 rfl, mem_1 75 rfl, rfl, rfl⟩, fun _ h => absurd h List.not_mem_nil⟩
set_option maxRecDepth 100000 in
theorem cl_112 : ∀ x ∈ ([(3, 0, 40, 0)] : List (Nat × Nat × Nat × Nat)), COK 11 291 x := List.forall_mem_cons.mpr ⟨⟨mem_1 85 rfl, mem_1 86 rfl, rfl, rfl⟩, fun _ h => absurd h List.not_mem_nil⟩
set_option maxRecDepth 100000 in
theorem cl_113 : ∀ x ∈ ([(3, 0, 52, 0)] : List (Nat × Nat × Nat × Nat)), COK 11 294 x := List.forall_mem_cons.mpr ⟨⟨mem_1 96 rfl, mem_1 97 rfl, rfl, rfl⟩, fun _ h => absurd h List.not_mem_nil⟩
set_option maxRecDepth 100000 in
theorem cl_114 : ∀ x ∈ ([(3, 0, 33, 0)] : List (Nat × Nat × Nat × Nat)), COK 11 297 x := List.forall_mem_cons.mpr ⟨⟨mem_1 107 rfl, mem_1 108 rfl, rfl, rfl⟩, fun _ h => absurd h List.not_mem_nil⟩
set_option maxRecDepth 100000 in
theorem cl_115 : ∀ x ∈ ([(3, 0, 71, 0)] : List (Nat × Nat × Nat × Nat)), COK 11 300 x := List.forall_mem_cons.mpr ⟨⟨mem_1 118 rfl, mem_1 119 rfl, rfl, rfl⟩, fun _ h => absurd h List.not_mem_nil⟩
set_option maxRecDepth 100000 in
theorem cl_116 : ∀ x ∈ ([(3, 0, 46, 0)] : List (Nat × Nat × Nat × Nat)), COK 11 301 x := List.forall_mem_cons.mpr ⟨⟨mem_1 129 rfl, mem_1 40 rfl, rfl, rfl⟩, fun _ h => absurd h List.not_mem_nil⟩
set_option maxRecDepth 100000 in
theorem cl_117 : ∀ x ∈ ([(0, 17, 130, 0)] : List (Nat × Nat × Nat × Nat)), COK 13 7 x := List.forall_mem_cons.mpr ⟨⟨rfl, mem_3 61 rfl, mem_3 62 rfl, mem_3 63 rfl⟩, fun _ h => absurd h List.not_mem_nil⟩
set_option maxRecDepth 100000 in
theorem cl_118 : ∀ x ∈ ([(0, 11, 90, 0)] : List (Nat × Nat × Nat × Nat)), COK 13 13 x := List.forall_mem_cons.mpr ⟨⟨rfl, mem_1 21 rfl, mem_1 22 rfl, mem_1 23 rfl⟩, fun _ h => absurd h List.not_mem_nil⟩
set_option maxRecDepth 100000 in
theorem cl_119 : ∀ x ∈ ([(0, 11, 91, 0)] : List (Nat × Nat × Nat × Nat)), COK 13 19 x := List.forall_mem_cons.mpr ⟨⟨rfl, mem_3 101 rfl, mem_3 102 rfl, mem_3 103 rfl⟩, fun _ h => absurd h List.not_mem_nil⟩
set_option maxRecDepth 100000 in
theorem cl_120 : ∀ x ∈ ([(2, 0, 1, 0)] : List (Nat × Nat × Nat × Nat)), COK 13 29 x := List.forall_mem_cons.mpr ⟨⟨mem_4 42 rfl, mem_4 43 rfl⟩, fun _ h => absurd h List.not_mem_nil⟩
set_option maxRecDepth 100000 in
theorem cl_121 : ∀ x ∈ ([(2, 0, 2, 0)] : List (Nat × Nat × Nat × Nat)), COK 13 35 x := List.forall_mem_cons.mpr ⟨⟨mem_3 55 rfl, mem_3 56 rfl⟩, fun _ h => absurd h List.not_mem_nil⟩
set_option maxRecDepth 100000 in
theorem cl_122 : ∀ x ∈ ([(2, 0, 5, 0)] : List (Nat × Nat × Nat × Nat)), COK 13 39 x := List.forall_mem_cons.mpr ⟨⟨mem_5 36 rfl, mem_5 37 rfl⟩, fun _ h => absurd h List.not_mem_nil⟩
set_option maxRecDepth 100000 in
theorem cl_123 : ∀ x ∈ ([(3, 0, 89, 0)] : List (Nat × Nat × Nat × Nat)), COK 13 43 x := List.forall_mem_cons.mpr ⟨⟨mem_4 58 rfl, mem_4 59 rfl, rfl, rfl⟩, fun _ h => absurd h List.not_mem_nil⟩
set_option maxRecDepth 100000 in
theorem cl_124 : ∀ x ∈ ([(2, 0, 7, 0)] : List (Nat × Nat × Nat × Nat)), COK 13 44 x := List.forall_mem_cons.mpr ⟨⟨mem_4 45 rfl, mem_4 46 rfl⟩, fun _ h => absurd h List.not_mem_nil⟩
set_option maxRecDepth 100000 in
theorem cl_125 : ∀ x ∈ ([(2, 0, 8, 0)] : List (Nat × Nat × Nat × Nat)), COK 13 47 x := List.forall_mem_cons.mpr ⟨⟨mem_4 48 rfl, mem_4 49 rfl⟩, fun _ h => absurd h List.not_mem_nil⟩
set_option maxRecDepth 100000 in
theorem cl_126 : ∀ x ∈ ([(2, 0, 9, 0)] : List (Nat × Nat × Nat × Nat)), COK 13 50 x := List.forall_mem_cons.mpr ⟨⟨mem_4 51 rfl, mem_4 52 rfl⟩, fun _ h => absurd h List.not_mem_nil⟩
set_option maxRecDepth 100000 in
theorem cl_127 : ∀ x ∈ ([(0, 11, 92, 0)] : List (Nat × Nat × Nat × Nat)), COK 13 53 x := List.forall_mem_cons.mpr ⟨⟨rfl, mem_1 25 rfl, mem_1 26 rfl, mem_1 27 rfl⟩, fun _ h => absurd h List.not_mem_nil⟩
set_option maxRecDepth 100000 in
theorem cl_128 : ∀ x ∈ ([(2, 0, 10, 0)] : List (Nat × Nat × Nat × Nat)), COK 13 56 x := List.forall_mem_cons.mpr ⟨⟨mem_5 33 rfl, mem_5 34 rfl⟩, fun _ h => absurd h List.not_mem_nil⟩
set_option maxRecDepth 100000 in
theorem cl_129 : ∀ x ∈ ([(0, 11, 94, 0)] : List (Nat × Nat × Nat × Nat)), COK 13 60 x := List.forall_mem_cons.mpr ⟨⟨rfl, mem_1 209 rfl, mem_1 210 rfl, mem_1 211 rfl⟩, fun _ h => absurd h List.not_mem_nil⟩
set_option maxRecDepth 100000 in
theorem cl_130 : ∀ x ∈ ([(0, 11, 96, 0)] : List (Nat × Nat × Nat × Nat)), COK 13 63 x := List.forall_mem_cons.mpr ⟨⟨rfl, mem_1 220 rfl, mem_1 221 rfl, mem_1 222 rfl⟩, fun _ h => absurd h List.not_mem_nil⟩
set_option maxRecDepth 100000 in
theorem cl_131 : ∀ x ∈ ([(0, 11, 95, 0)] : List (Nat × Nat × Nat × Nat)), COK 13 67 x := List.forall_mem_cons.mpr ⟨⟨rfl, mem_1 213 rfl, mem_1 214 rfl, mem_1 215 rfl⟩, fun _ h => absurd h List.not_mem_nil⟩
set_option maxRecDepth 100000 in
theorem cl_132 : ∀ x ∈ ([(2, 0, 4, 0)] : List (Nat × Nat × Nat × Nat)), COK 13 71 x := List.forall_mem_cons.mpr ⟨⟨mem_5 39 rfl, mem_5 40 rfl⟩, fun _ h => absurd h List.not_mem_nil⟩
set_option maxRecDepth 100000 in
theorem cl_133 : ∀ x ∈ ([(0, 17, 128, 0)] : List (Nat × Nat × Nat × Nat)), COK 13 75 x := List.forall_mem_cons.mpr ⟨⟨rfl, mem_5 45 rfl, mem_3 132 rfl, mem_3 133 rfl⟩, fun _ h => absurd h List.not_mem_nil⟩
set_option maxRecDepth 100000 in
theorem cl_134 : ∀ x ∈ ([(0, 11, 93, 0)] : List (Nat × Nat × Nat × Nat)), COK 13 78 x := List.forall_mem_cons.mpr ⟨⟨rfl, mem_1 139 rfl, mem_1 140 rfl, mem_1 141 rfl⟩, fun _ h => absurd h List.not_mem_nil⟩
set_option maxRecDepth 100000 in
theorem cl_135 : ∀ x ∈ ([(0, 11, 98, 0)] : List (Nat × Nat × Nat × Nat)), COK 13 81 x := List.forall_mem_cons.mpr ⟨⟨rfl, mem_1 228 rfl, mem_1 229 rfl, mem_1 230 rfl⟩, fun _ h => absurd h List.not_mem_nil⟩
set_option maxRecDepth 100000 in
theorem cl_136 : ∀ x ∈ ([(0, 11, 99, 0)] : List (Nat × Nat × Nat × Nat)), COK 13 97 x := List.forall_mem_cons.mpr ⟨⟨rfl, mem_2 19 rfl, mem_2 20 rfl, mem_2 21 rfl⟩, fun _ h => absurd h List.not_mem_nil⟩
set_option maxRecDepth 100000 in
theorem cl_137 : ∀ x ∈ ([(2, 0, 13, 0)] : List (Nat × Nat × Nat × Nat)), COK 13 106 x := List.forall_mem_cons.mpr ⟨⟨mem_5 46 rfl, mem_5 47 rfl⟩, fun _ h => absurd h List.not_mem_nil⟩
set_option maxRecDepth 100000 in
theorem cl_138 : ∀ x ∈ ([(0, 11, 100, 0)] : List (Nat × Nat × Nat × Nat)), COK 13 109 x := List.forall_mem_cons.mpr ⟨⟨rfl, mem_2 35 rfl, mem_2 36 rfl, mem_2 37 rfl⟩, fun _ h => absurd h List.not_mem_nil⟩
set_option maxRecDepth 100000 in
theorem cl_139 : ∀ x ∈ ([(2, 0, 12, 0)] : List (Nat × Nat × Nat × Nat)), COK 13 112 x := List.forall_mem_cons.mpr ⟨⟨mem_5 55 rfl, mem_5 56 rfl⟩, fun _ h => absurd h List.not_mem_nil⟩
set_option maxRecDepth 100000 in
theorem cl_140 : ∀ x ∈ ([(0, 11, 105, 0)] : List (Nat × Nat × Nat × Nat)), COK 13 116 x := List.forall_mem_cons.mpr ⟨⟨rfl, mem_2 98 rfl, mem_2 99 rfl, mem_2 100 rfl⟩, fun _ h => absurd h List.not_mem_nil⟩
set_option maxRecDepth 100000 in
theorem cl_141 : ∀ x ∈ ([(0, 11, 97, 0)] : List (Nat × Nat × Nat × Nat)), COK 13 119 x := List.forall_mem_cons.mpr ⟨⟨rfl, mem_1 224 rfl, mem_1 225 rfl, mem_1 226 rfl⟩, fun _ h => absurd h List.not_mem_nil⟩
set_option maxRecDepth 100000 in
theorem cl_142 : ∀ x ∈ ([(0, 11, 112, 0)] : List (Nat × Nat × Nat × Nat)), COK 13 122 x := List.forall_mem_cons.mpr ⟨⟨rfl, mem_2 164 rfl, mem_2 165 rfl, mem_2 166 rfl⟩, fun _ h => absurd h List.not_mem_nil⟩
set_option maxRecDepth 100000 in
theorem cl_143 : ∀ x ∈ ([(0, 11, 110, 0)] : List (Nat × Nat × Nat × Nat)), COK 13 125 x := List.forall_mem_cons.mpr ⟨⟨rfl, mem_2 152 rfl, mem_2 153 rfl, mem_2 154 rfl⟩, fun _ h => absurd h List.not_mem_nil⟩
set_option maxRecDepth 100000 in
theorem cl_144 : ∀ x ∈ ([(0, 11, 119, 0)] : List (Nat × Nat × Nat × Nat)), COK 13 132 x := List.forall_mem_cons.mpr ⟨⟨rfl, mem_3 51 rfl, mem_3 52 rfl, mem_3 53 rfl⟩, fun _ h => absurd h List.not_mem_nil⟩
set_option maxRecDepth 100000 in
theorem cl_145 : ∀ x ∈ ([(0, 11, 107, 0)] : List (Nat × Nat × Nat × Nat)), COK 13 135 x := List.forall_mem_cons.mpr ⟨⟨rfl, mem_2 124 rfl, mem_2 125 rfl, mem_2 126 rfl⟩, fun _ h => absurd h List.not_mem_nil⟩
set_option maxRecDepth 100000 in
theorem cl_146 : ∀ x ∈ ([(0, 11, 111, 0)] : List (Nat × Nat × Nat × Nat)), COK 13 138 x := List.forall_mem_cons.mpr ⟨⟨rfl, mem_2 156 rfl, mem_2 157 rfl, mem_2 158 rfl⟩, fun _ h => absurd h List.not_mem_nil⟩
set_option maxRecDepth 100000 in
theorem cl_147 : ∀ x ∈ ([(0, 11, 113, 0)] : List (Nat × Nat × Nat × Nat)), COK 13 141 x := List.forall_mem_cons.mpr ⟨⟨rfl, mem_2 168 rfl, mem_2 169 rfl, mem_2 170 rfl⟩, fun _ h => absurd h List.not_mem_nil⟩
set_option maxRecDepth 100000 in
theorem cl_148 : ∀ x ∈ ([(2, 0, 6, 0)] : List (Nat × Nat × Nat × Nat)), COK 13 144 x := List.forall_mem_cons.mpr ⟨⟨mem_4 39 rfl, mem_4 40 rfl⟩, fun _ h => absurd h List.not_mem_nil⟩
set_option maxRecDepth 100000 in
theorem cl_149 : ∀ x ∈ ([(2, 0, 11, 0)] : List (Nat × Nat × Nat × Nat)), COK 13 147 x := List.forall_mem_cons.mpr ⟨⟨mem_4 54 rfl, mem_4 55 rfl⟩, fun _ h => absurd h List.not_mem_nil⟩
set_option maxRecDepth 100000 in
theorem cl_150 : ∀ x ∈ ([(2, 0, 15, 0)] : List (Nat × Nat × Nat × Nat)), COK 13 150 x := List.forall_mem_cons.mpr ⟨⟨mem_5 52 rfl, mem_5 53 rfl⟩, fun _ h => absurd h List.not_mem_nil⟩
set_option maxRecDepth 100000 in
theorem cl_151 : ∀ x ∈ ([(0, 11, 117, 0)] : List (Nat × Nat × Nat × Nat)), COK 13 154 x := List.forall_mem_cons.mpr ⟨⟨rfl, mem_3 37 rfl, mem_3 38 rfl, mem_3 39 rfl⟩, fun _ h => absurd h List.not_mem_nil⟩
set_option maxRecDepth 100000 in
theorem cl_152 : ∀ x ∈ ([(2, 0, 16, 0)] : List (Nat × Nat × Nat × Nat)), COK 13 157 x := List.forall_mem_cons.mpr ⟨⟨mem_5 58 rfl, mem_5 59 rfl⟩, fun _ h => absurd h List.not_mem_nil⟩
set_option maxRecDepth 100000 in
theorem cl_153 : ∀ x ∈ ([(0, 11, 116, 0)] : List (Nat × Nat × Nat × Nat)), COK 13 161 x := List.forall_mem_cons.mpr ⟨⟨rfl, mem_3 28 rfl, mem_3 29 rfl, mem_3 30 rfl⟩, fun _ h => absurd h List.not_mem_nil⟩
set_option maxRecDepth 100000 in
theorem cl_154 : ∀ x ∈ ([(0, 11, 101, 0)] : List (Nat × Nat × Nat × Nat)), COK 13 164 x := List.forall_mem_cons.mpr ⟨⟨rfl, mem_2 39 rfl, mem_2 40 rfl, mem_2 41 rfl⟩, fun _ h => absurd h List.not_mem_nil⟩
set_option maxRecDepth 100000 in
theorem cl_155 : ∀ x ∈ ([(0, 11, 102, 0)] : List (Nat × Nat × Nat × Nat)), COK 13 167 x := List.forall_mem_cons.mpr ⟨⟨rfl, mem_2 59 rfl, mem_2 60 rfl, mem_2 61 rfl⟩, fun _ h => absurd h List.not_mem_nil⟩
set_option maxRecDepth 100000 in
theorem cl_156 : ∀ x ∈ ([(0, 11, 103, 0)] : List (Nat × Nat × Nat × Nat)), COK 13 170 x := List.forall_mem_cons.mpr ⟨⟨rfl, mem_2 68 rfl, mem_2 69 rfl, mem_2 70 rfl⟩, fun _ h => absurd h List.not_mem_nil⟩
set_option maxRecDepth 100000 in
theorem cl_157 : ∀ x ∈ ([(0, 11, 104, 0)] : List (Nat × Nat × Nat × Nat)), COK 13 173 x := List.forall_mem_cons.mpr ⟨⟨rfl, mem_2 93 rfl, mem_2 94 rfl, mem_2 95 rfl⟩, fun _ h => absurd h List.not_mem_nil⟩
set_option maxRecDepth 100000 in
theorem cl_158 : ∀ x ∈ ([(0, 11, 106, 0)] : List (Nat × Nat × Nat × Nat)), COK 13 176 x := List.forall_mem_cons.mpr ⟨⟨rfl, mem_2 102 rfl, mem_2 103 rfl, mem_2 104 rfl⟩, fun _ h => absurd h List.not_mem_nil⟩
set_option maxRecDepth 100000 in
theorem cl_159 : ∀ x ∈ ([(0, 11, 108, 0)] : List (Nat × Nat × Nat × Nat)), COK 13 179 x := List.forall_mem_cons.mpr ⟨⟨rfl, mem_2 132 rfl, mem_2 133 rfl, mem_2 134 rfl⟩, fun _ h => absurd h List.not_mem_nil⟩
set_option maxRecDepth 100000 in
theorem cl_160 : ∀ x ∈ ([(0, 11, 109, 0)] : List (Nat × Nat × Nat × Nat)), COK 13 183 x := List.forall_mem_cons.mpr ⟨⟨rfl, mem_2 146 rfl, mem_2 147 rfl, mem_2 148 rfl⟩, fun _ h => absurd h List.not_mem_nil⟩
set_option maxRecDepth 100000 in
theorem cl_161 : ∀ x ∈ ([(2, 0, 14, 0)] : List (Nat × Nat × Nat × Nat)), COK 13 189 x := List.forall_mem_cons.mpr ⟨⟨mem_5 49 rfl, mem_5 50 rfl⟩, fun _ h => absurd h List.not_mem_nil⟩
set_option maxRecDepth 100000 in
theorem cl_162 : ∀ x ∈ ([(0, 11, 114, 0)] : List (Nat × Nat × Nat × Nat)), COK 13 193 x := List.forall_mem_cons.mpr ⟨⟨rfl, mem_2 172 rfl, mem_2 173 rfl, mem_2 174 rfl⟩, fun _ h => absurd h List.not_mem_nil⟩
set_option maxRecDepth 100000 in
theorem cl_163 : ∀ x ∈ ([(0, 11, 115, 0)] : List (Nat × Nat × Nat × Nat)), COK 13 195 x := List.forall_mem_cons.mpr ⟨⟨rfl, mem_3 24 rfl, mem_3 25 rfl, mem_3 26 rfl⟩, fun _ h => absurd h List.not_mem_nil⟩
set_option maxRecDepth 100000 in
theorem cl_164 : ∀ x ∈ ([(2, 0, 3, 0)] : List (Nat × Nat × Nat × Nat)), COK 13 200 x := List.forall_mem_cons.mpr ⟨⟨mem_3 58 rfl, mem_3 59 rfl⟩, fun _ h => absurd h List.not_mem_nil⟩
set_option maxRecDepth 100000 in
theorem cl_165 : ∀ x ∈ ([(0, 11, 118, 0)] : List (Nat × Nat × Nat × Nat)), COK 13 204 x := List.forall_mem_cons.mpr ⟨⟨rfl, mem_3 47 rfl, mem_3 48 rfl, mem_3 49 rfl⟩, fun _ h => absurd h List.not_mem_nil⟩
set_option maxRecDepth 100000 in
theorem cl_166 : ∀ x ∈ ([(0, 17, 133, 0)] : List (Nat × Nat × Nat × Nat)), COK 17 335 x := List.forall_mem_cons.mpr ⟨⟨rfl, mem_3 135 rfl, mem_3 136 rfl, mem_3 137 rfl⟩, fun _ h => absurd h List.not_mem_nil⟩
set_option maxRecDepth 100000 in
theorem cl_167 : ∀ x ∈ ([(0, 17, 134, 0)] : List (Nat × Nat × Nat × Nat)), COK 17 492 x := List.forall_mem_cons.mpr ⟨⟨rfl, mem_3 65 rfl, mem_3 66 rfl, mem_3 67 rfl⟩, fun _ h => absurd h List.not_mem_nil⟩
set_option maxRecDepth 100000 in
theorem cl_168 : ∀ x ∈ ([(2, 0, 136, 0)] : List (Nat × Nat × Nat × Nat)), COK 17 495 x := List.forall_mem_cons.mpr ⟨⟨mem_3 71 rfl, mem_3 72 rfl⟩, fun _ h => absurd h List.not_mem_nil⟩
set_option maxRecDepth 100000 in
theorem cl_169 : ∀ x ∈ ([(0, 17, 128, 0)] : List (Nat × Nat × Nat × Nat)), COK 17 505 x := List.forall_mem_cons.mpr ⟨⟨rfl, mem_3 180 rfl, mem_3 132 rfl, mem_3 133 rfl⟩, fun _ h => absurd h List.not_mem_nil⟩
set_option maxRecDepth 100000 in
theorem cl_170 : ∀ x ∈ ([(0, 17, 132, 0)] : List (Nat × Nat × Nat × Nat)), COK 17 633 x := List.forall_mem_cons.mpr ⟨⟨rfl, mem_3 176 rfl, mem_3 177 rfl, mem_3 178 rfl⟩, fun _ h => absurd h List.not_mem_nil⟩
set_option maxRecDepth 100000 in
theorem cl_171 : ∀ x ∈ ([(2, 0, 138, 0)] : List (Nat × Nat × Nat × Nat)), COK 17 637 x := List.forall_mem_cons.mpr ⟨⟨mem_3 181 rfl, mem_3 182 rfl⟩, fun _ h => absurd h List.not_mem_nil⟩
set_option maxRecDepth 100000 in
theorem cl_172 : ∀ x ∈ ([(2, 0, 140, 0)] : List (Nat × Nat × Nat × Nat)), COK 17 1059 x := List.forall_mem_cons.mpr ⟨⟨mem_3 79 rfl, mem_3 80 rfl⟩, fun _ h => absurd h List.not_mem_nil⟩
set_option maxRecDepth 100000 in
theorem cl_173 : ∀ x ∈ ([(2, 0, 135, 0)] : List (Nat × Nat × Nat × Nat)), COK 18 9 x := List.forall_mem_cons.mpr ⟨⟨mem_3 74 rfl, mem_3 75 rfl⟩, fun _ h => absurd h List.not_mem_nil⟩
set_option maxRecDepth 100000 in
theorem cl_174 : ∀ x ∈ ([(2, 0, 143, 0)] : List (Nat × Nat × Nat × Nat)), COK 18 38 x := List.forall_mem_cons.mpr ⟨⟨mem_3 188 rfl, mem_2 17 rfl⟩, fun _ h => absurd h List.not_mem_nil⟩
set_option maxRecDepth 100000 in
theorem cl_175 : ∀ x ∈ ([(2, 0, 137, 0)] : List (Nat × Nat × Nat × Nat)), COK 18 88 x := List.forall_mem_cons.mpr ⟨⟨mem_3 184 rfl, mem_3 185 rfl⟩, fun _ h => absurd h List.not_mem_nil⟩
set_option maxRecDepth 100000 in
theorem cl_176 : ∀ x ∈ ([(2, 0, 142, 0)] : List (Nat × Nat × Nat × Nat)), COK 18 92 x := List.forall_mem_cons.mpr ⟨⟨mem_3 187 rfl, mem_2 28 rfl⟩, fun _ h => absurd h List.not_mem_nil⟩
set_option maxRecDepth 100000 in
theorem cl_177 : ∀ x ∈ ([(2, 0, 139, 0)] : List (Nat × Nat × Nat × Nat)), COK 18 95 x := List.forall_mem_cons.mpr ⟨⟨mem_3 189 rfl, mem_3 190 rfl⟩, fun _ h => absurd h List.not_mem_nil⟩
set_option maxRecDepth 100000 in
theorem fl_0 : ∀ x ∈ ([(0, 0, 0)] : List (Nat × Nat × Nat)), FOK 0 12 x := List.forall_mem_cons.mpr ⟨⟨mem_4 215 rfl, Or.inl rfl⟩, fun _ h => absurd h List.not_mem_nil⟩
set_option maxRecDepth 100000 in
theorem fl_1 : ∀ x ∈ ([(0, 1, 0)] : List (Nat × Nat × Nat)), FOK 0 18 x := List.forall_mem_cons.mpr ⟨⟨mem_4 216 rfl, Or.inl rfl⟩, fun _ h => absurd h List.not_mem_nil⟩
set_option maxRecDepth 100000 in
theorem fl_2 : ∀ x ∈ ([(0, 2, 0)] : List (Nat × Nat × Nat)), FOK 0 22 x := List.forall_mem_cons.mpr ⟨⟨mem_4 217 rfl, Or.inl rfl⟩, fun _ h => absurd h List.not_mem_nil⟩
set_option maxRecDepth 100000 in
theorem fl_3 : ∀ x ∈ ([(0, 3, 0)] : List (Nat × Nat × Nat)), FOK 0 26 x := List.forall_mem_cons.mpr ⟨⟨mem_4 218 rfl, Or.inl rfl⟩, fun _ h => absurd h List.not_mem_nil⟩
set_option maxRecDepth 100000 in
theorem fl_4 : ∀ x ∈ ([(0, 4, 0)] : List (Nat × Nat × Nat)), FOK 0 29 x := List.forall_mem_cons.mpr ⟨⟨mem_4 220 rfl, Or.inl rfl⟩, fun _ h => absurd h List.not_mem_nil⟩
set_option maxRecDepth 100000 in
theorem fl_5 : ∀ x ∈ ([(0, 5, 0)] : List (Nat × Nat × Nat)), FOK 0 33 x := List.forall_mem_cons.mpr ⟨⟨mem_4 222 rfl, Or.inl rfl⟩, fun _ h => absurd h List.not_mem_nil⟩
set_option maxRecDepth 100000 in
theorem fl_6 : ∀ x ∈ ([(0, 6, 0)] : List (Nat × Nat × Nat)), FOK 0 36 x := List.forall_mem_cons.mpr ⟨⟨mem_4 224 rfl, Or.inl rfl⟩, fun _ h => absurd h List.not_mem_nil⟩
set_option maxRecDepth 100000 in
theorem fl_7 : ∀ x ∈ ([(0, 7, 0)] : List (Nat × Nat × Nat)), FOK 0 39 x := List.forall_mem_cons.mpr ⟨⟨mem_4 226 rfl, Or.inl rfl⟩, fun _ h => absurd h List.not_mem_nil⟩
set_option maxRecDepth 100000 in
theorem fl_8 : ∀ x ∈ ([(0, 8, 0)] : List (Nat × Nat × Nat)), FOK 0 42 x := List.forall_mem_cons.mpr ⟨⟨mem_4 228 rfl, Or.inl rfl⟩, fun _ h => absurd h List.not_mem_nil⟩
set_option maxRecDepth 100000 in
theorem fl_9 : ∀ x ∈ ([(10, 13, 10)] : List (Nat × Nat × Nat)), FOK 0 57 x := List.forall_mem_cons.mpr ⟨⟨mem_4 110 rfl, Or.inl rfl⟩, fun _ h => absurd h List.not_mem_nil⟩
set_option maxRecDepth 100000 in
theorem fl_10 : ∀ x ∈ ([(10, 8, 10)] : List (Nat × Nat × Nat)), FOK 0 70 x := List.forall_mem_cons.mpr ⟨⟨mem_4 94 rfl, Or.inl rfl⟩, fun _ h => absurd h List.not_mem_nil⟩
set_option maxRecDepth 100000 in
theorem fl_11 : ∀ x ∈ ([(10, 9, 10)] : List (Nat × Nat × Nat)), FOK 0 88 x := List.forall_mem_cons.mpr ⟨⟨mem_4 98 rfl, Or.inl rfl⟩, fun _ h => absurd h List.not_mem_nil⟩
set_option maxRecDepth 100000 in
theorem fl_12 : ∀ x ∈ ([(10, 11, 10)] : List (Nat × Nat × Nat)), FOK 0 96 x := List.forall_mem_cons.mpr ⟨⟨mem_4 103 rfl, Or.inl rfl⟩, fun _ h => absurd h List.not_mem_nil⟩
set_option maxRecDepth 100000 in
theorem fl_13 : ∀ x ∈ ([(10, 5, 10)] : List (Nat × Nat × Nat)), FOK 0 108 x := List.forall_mem_cons.mpr ⟨⟨mem_4 87 rfl, Or.inl rfl⟩, fun _ h => absurd h List.not_mem_nil⟩
set_option maxRecDepth 100000 in
theorem fl_14 : ∀ x ∈ ([(10, 2, 10)] : List (Nat × Nat × Nat)), FOK 0 115 x := List.forall_mem_cons.mpr ⟨⟨mem_4 78 rfl, Or.inl rfl⟩, fun _ h => absurd h List.not_mem_nil⟩
set_option maxRecDepth 100000 in
theorem fl_15 : ∀ x ∈ ([(3, 8, 3)] : List (Nat × Nat × Nat)), FOK 0 127 x := List.forall_mem_cons.mpr ⟨⟨mem_4 174 rfl, Or.inl rfl⟩, fun _ h => absurd h List.not_mem_nil⟩
set_option maxRecDepth 100000 in
theorem fl_16 : ∀ x ∈ ([(3, 7, 3)] : List (Nat × Nat × Nat)), FOK 0 130 x := List.forall_mem_cons.mpr ⟨⟨mem_4 171 rfl, Or.inl rfl⟩, fun _ h => absurd h List.not_mem_nil⟩
set_option maxRecDepth 100000 in
theorem fl_17 : ∀ x ∈ ([(3, 6, 3)] : List (Nat × Nat × Nat)), FOK 0 133 x := List.forall_mem_cons.mpr ⟨⟨mem_4 168 rfl, Or.inl rfl⟩, fun _ h => absurd h List.not_mem_nil⟩
set_option maxRecDepth 100000 in
theorem fl_18 : ∀ x ∈ ([(10, 10, 10)] : List (Nat × Nat × Nat)), FOK 0 136 x := List.forall_mem_cons.mpr ⟨⟨mem_4 101 rfl, Or.inl rfl⟩, fun _ h => absurd h List.not_mem_nil⟩
set_option maxRecDepth 100000 in
theorem fl_19 : ∀ x ∈ ([(10, 2, 10)] : List (Nat × Nat × Nat)), FOK 1 7 x := List.forall_mem_cons.mpr ⟨⟨mem_4 76 rfl, Or.inl rfl⟩, fun _ h => absurd h List.not_mem_nil⟩
set_option maxRecDepth 100000 in
theorem fl_20 : ∀ x ∈ ([(1, 0, 1), (1, 0, 2)] : List (Nat × Nat × Nat)), FOK 1 13 x := List.forall_mem_cons.mpr ⟨⟨mem_1 48 rfl, Or.inr (mem_1 49 rfl)⟩, List.forall_mem_cons.mpr ⟨⟨mem_1 48 rfl, Or.inr (mem_1 49 rfl)⟩, fun _ h => absurd h List.not_mem_nil⟩⟩
set_option maxRecDepth 100000 in
theorem fl_21 : ∀ x ∈ ([(10, 5, 10)] : List (Nat × Nat × Nat)), FOK 2 11 x := List.forall_mem_cons.mpr ⟨⟨mem_4 85 rfl, Or.inl rfl⟩, fun _ h => absurd h List.not_mem_nil⟩
set_option maxRecDepth 100000 in
theorem fl_22 : ∀ x ∈ ([(2, 0, 2)] : List (Nat × Nat × Nat)), FOK 2 17 x := List.forall_mem_cons.mpr ⟨⟨mem_1 54 rfl, Or.inr (mem_1 55 rfl)⟩, fun _ h => absurd h List.not_mem_nil⟩
set_option maxRecDepth 100000 in
theorem fl_23 : ∀ x ∈ ([(3, 0, 3)] : List (Nat × Nat × Nat)), FOK 3 9 x := List.forall_mem_cons.mpr ⟨⟨mem_4 155 rfl, Or.inl rfl⟩, fun _ h => absurd h List.not_mem_nil⟩
set_option maxRecDepth 100000 in
theorem fl_24 : ∀ x ∈ ([(3, 1, 3)] : List (Nat × Nat × Nat)), FOK 3 15 x := List.forall_mem_cons.mpr ⟨⟨mem_4 157 rfl, Or.inl rfl⟩, fun _ h => absurd h List.not_mem_nil⟩
set_option maxRecDepth 100000 in
theorem fl_25 : ∀ x ∈ ([(3, 2, 3)] : List (Nat × Nat × Nat)), FOK 3 19 x := List.forall_mem_cons.mpr ⟨⟨mem_4 159 rfl, Or.inl rfl⟩, fun _ h => absurd h List.not_mem_nil⟩
set_option maxRecDepth 100000 in
theorem fl_26 : ∀ x ∈ ([(3, 3, 3)] : List (Nat × Nat × Nat)), FOK 3 23 x := List.forall_mem_cons.mpr ⟨⟨mem_4 161 rfl, Or.inl rfl⟩, fun _ h => absurd h List.not_mem_nil⟩
set_option maxRecDepth 100000 in
theorem fl_27 : ∀ x ∈ ([(3, 4, 3)] : List (Nat × Nat × Nat)), FOK 3 26 x := List.forall_mem_cons.mpr ⟨⟨mem_4 163 rfl, Or.inl rfl⟩, fun _ h => absurd h List.not_mem_nil⟩
set_option maxRecDepth 100000 in
theorem fl_28 : ∀ x ∈ ([(3, 5, 3)] : List (Nat × Nat × Nat)), FOK 3 29 x := List.forall_mem_cons.mpr ⟨⟨mem_4 165 rfl, Or.inl rfl⟩, fun _ h => absurd h List.not_mem_nil⟩
set_option maxRecDepth 100000 in
theorem fl_29 : ∀ x ∈ ([(3, 6, 3)] : List (Nat × Nat × Nat)), FOK 3 32 x := List.forall_mem_cons.mpr ⟨⟨mem_4 167 rfl, Or.inl rfl⟩, fun _ h => absurd h List.not_mem_nil⟩
set_option maxRecDepth 100000 in
theorem fl_30 : ∀ x ∈ ([(3, 7, 3)] : List (Nat × Nat × Nat)), FOK 3 35 x := List.forall_mem_cons.mpr ⟨⟨mem_4 170 rfl, Or.inl rfl⟩, fun _ h => absurd h List.not_mem_nil⟩
set_option maxRecDepth 100000 in
theorem fl_31 : ∀ x ∈ ([(3, 8, 3)] : List (Nat × Nat × Nat)), FOK 3 38 x := List.forall_mem_cons.mpr ⟨⟨mem_4 173 rfl, Or.inl rfl⟩, fun _ h => absurd h List.not_mem_nil⟩
set_option maxRecDepth 100000 in
theorem fl_32 : ∀ x ∈ ([(3, 9, 3)] : List (Nat × Nat × Nat)), FOK 3 41 x := List.forall_mem_cons.mpr ⟨⟨mem_4 176 rfl, Or.inl rfl⟩, fun _ h => absurd h List.not_mem_nil⟩
set_option maxRecDepth 100000 in
theorem fl_33 : ∀ x ∈ ([(3, 10, 3)] : List (Nat × Nat × Nat)), FOK 3 44 x := List.forall_mem_cons.mpr ⟨⟨mem_4 178 rfl, Or.inl rfl⟩, fun _ h => absurd h List.not_mem_nil⟩
set_option maxRecDepth 100000 in
theorem fl_34 : ∀ x ∈ ([(3, 11, 3)] : List (Nat × Nat × Nat)), FOK 3 47 x := List.forall_mem_cons.mpr ⟨⟨mem_4 180 rfl, Or.inl rfl⟩, fun _ h => absurd h List.not_mem_nil⟩
set_option maxRecDepth 100000 in
theorem fl_35 : ∀ x ∈ ([(10, 9, 10)] : List (Nat × Nat × Nat)), FOK 4 7 x := List.forall_mem_cons.mpr ⟨⟨mem_4 96 rfl, Or.inl rfl⟩, fun _ h => absurd h List.not_mem_nil⟩
set_option maxRecDepth 100000 in
theorem fl_36 : ∀ x ∈ ([(4, 0, 4), (4, 0, 9)] : List (Nat × Nat × Nat)), FOK 4 13 x := List.forall_mem_cons.mpr ⟨⟨mem_1 50 rfl, Or.inr (mem_1 51 rfl)⟩, List.forall_mem_cons.mpr ⟨⟨mem_1 50 rfl, Or.inr (mem_1 51 rfl)⟩, fun _ h => absurd h List.not_mem_nil⟩⟩
set_option maxRecDepth 100000 in
theorem fl_37 : ∀ x ∈ ([(10, 3, 10)] : List (Nat × Nat × Nat)), FOK 5 7 x := List.forall_mem_cons.mpr ⟨⟨mem_4 80 rfl, Or.inl rfl⟩, fun _ h => absurd h List.not_mem_nil⟩
set_option maxRecDepth 100000 in
theorem fl_38 : ∀ x ∈ ([(5, 0, 5), (5, 0, 7)] : List (Nat × Nat × Nat)), FOK 5 13 x := List.forall_mem_cons.mpr ⟨⟨mem_1 46 rfl, Or.inr (mem_1 47 rfl)⟩, List.forall_mem_cons.mpr ⟨⟨mem_1 46 rfl, Or.inr (mem_1 47 rfl)⟩, fun _ h => absurd h List.not_mem_nil⟩⟩
set_option maxRecDepth 100000 in
theorem fl_39 : ∀ x ∈ ([(6, 0, 1), (6, 0, 2), (6, 0, 4), (6, 0, 5), (6, 0, 6), (6, 0, 7), (6, 0, 9)] : List (Nat × Nat × Nat)), FOK 6 7 x := List.forall_mem_cons.mpr ⟨⟨mem_1 45 rfl, Or.inl rfl⟩, List.forall_mem_cons.mpr ⟨⟨mem_1 45 rfl, Or.inl rfl⟩, List.forall_mem_cons.mpr ⟨⟨mem_1 45 rfl, Or.inl rfl⟩, List.forall_mem_cons.mpr ⟨⟨mem_1 45 rfl, Or.inl rfl⟩, List.forall_mem_cons.mpr ⟨⟨mem_1 45 rfl, Or.inl rfl⟩, List.forall_mem_cons.mpr ⟨⟨mem_1 45 rfl, Or.inl rfl⟩, List.forall_mem_cons.mpr ⟨⟨mem_1 45 rfl, Or.inl rfl⟩, fun _ h => absurd h List.not_mem_nil⟩⟩⟩⟩⟩⟩⟩
set_option maxRecDepth 100000 in
theorem fl_40 : ∀ x ∈ ([(6, 1, 1), (6, 1, 2), (6, 1, 4), (6, 1, 5), (6, 1, 6), (6, 1, 7), (6, 1, 9)] : List (Nat × Nat × Nat)), FOK 6 13 x := List.forall_mem_cons.mpr ⟨⟨mem_1 56 rfl, Or.inl rfl⟩, List.forall_mem_cons.mpr ⟨⟨mem_1 56 rfl, Or.inl rfl⟩, List.forall_mem_cons.mpr ⟨⟨mem_1 56 rfl, Or.inl rfl⟩, List.forall_mem_cons.mpr ⟨⟨mem_1 56 rfl, Or.inl rfl⟩, List.forall_mem_cons.mpr ⟨⟨mem_1 56 rfl, Or.inl rfl⟩, List.forall_mem_cons.mpr ⟨⟨mem_1 56 rfl, Or.inl rfl⟩, List.forall_mem_cons.mpr ⟨⟨mem_1 56 rfl, Or.inl rfl⟩, fun _ h => absurd h List.not_mem_nil⟩⟩⟩⟩⟩⟩⟩
set_option maxRecDepth 100000 in
theorem fl_41 : ∀ x ∈ ([(6, 2, 1), (6, 2, 2), (6, 2, 4), (6, 2, 5), (6, 2, 6), (6, 2, 7), (6, 2, 9)] : List (Nat × Nat × Nat)), FOK 6 16 x := List.forall_mem_cons.mpr ⟨⟨mem_1 58 rfl, Or.inl rfl⟩, List.forall_mem_cons.mpr ⟨⟨mem_1 58 rfl, Or.inl rfl⟩, List.forall_mem_cons.mpr ⟨⟨mem_1 58 rfl, Or.inl rfl⟩, List.forall_mem_cons.mpr ⟨⟨mem_1 58 rfl, Or.inl rfl⟩, List.forall_mem_cons.mpr ⟨⟨mem_1 58 rfl, Or.inl rfl⟩, List.forall_mem_cons.mpr ⟨⟨mem_1 58 rfl, Or.inl rfl⟩, List.forall_mem_cons.mpr ⟨⟨mem_1 58 rfl, Or.inl rfl⟩, fun _ h => absurd h List.not_mem_nil⟩⟩⟩⟩⟩⟩⟩
set_option maxRecDepth 100000 in
theorem fl_42 : ∀ x ∈ ([(6, 3, 1), (6, 3, 2), (6, 3, 4), (6, 3, 5), (6, 3, 6), (6, 3, 7), (6, 3, 9)] : List (Nat × Nat × Nat)), FOK 6 19 x := List.forall_mem_cons.mpr ⟨⟨mem_1 62 rfl, Or.inl rfl⟩, List.forall_mem_cons.mpr ⟨⟨mem_1 62 rfl, Or.inl rfl⟩, List.forall_mem_cons.mpr ⟨⟨mem_1 62 rfl, Or.inl rfl⟩, List.forall_mem_cons.mpr ⟨⟨mem_1 62 rfl, Or.inl rfl⟩, List.forall_mem_cons.mpr ⟨⟨mem_1 62 rfl, Or.inl rfl⟩, List.forall_mem_cons.mpr ⟨⟨mem_1 62 rfl, Or.inl rfl⟩, List.forall_mem_cons.mpr ⟨⟨mem_1 62 rfl, Or.inl rfl⟩, fun _ h => absurd h List.not_mem_nil⟩⟩⟩⟩⟩⟩⟩
set_option maxRecDepth 100000 in
theorem fl_43 : ∀ x ∈ ([(10, 12, 10)] : List (Nat × Nat × Nat)), FOK 7 7 x := List.forall_mem_cons.mpr ⟨⟨mem_4 106 rfl, Or.inl rfl⟩, fun _ h => absurd h List.not_mem_nil⟩
set_option maxRecDepth 100000 in
theorem fl_44 : ∀ x ∈ ([(8, 0, 8)] : List (Nat × Nat × Nat)), FOK 8 9 x := List.forall_mem_cons.mpr ⟨⟨mem_4 1 rfl, Or.inl rfl⟩, fun _ h => absurd h List.not_mem_nil⟩
set_option maxRecDepth 100000 in
theorem fl_45 : ∀ x ∈ ([(8, 1, 8)] : List (Nat × Nat × Nat)), FOK 8 15 x := List.forall_mem_cons.mpr ⟨⟨mem_4 3 rfl, Or.inl rfl⟩, fun _ h => absurd h List.not_mem_nil⟩
set_option maxRecDepth 100000 in
theorem fl_46 : ∀ x ∈ ([(8, 2, 8)] : List (Nat × Nat × Nat)), FOK 8 18 x := List.forall_mem_cons.mpr ⟨⟨mem_4 6 rfl, Or.inl rfl⟩, fun _ h => absurd h List.not_mem_nil⟩
set_option maxRecDepth 100000 in
theorem fl_47 : ∀ x ∈ ([(8, 3, 8)] : List (Nat × Nat × Nat)), FOK 8 21 x := List.forall_mem_cons.mpr ⟨⟨mem_4 8 rfl, Or.inl rfl⟩, fun _ h => absurd h List.not_mem_nil⟩
set_option maxRecDepth 100000 in
theorem fl_48 : ∀ x ∈ ([(8, 4, 8)] : List (Nat × Nat × Nat)), FOK 8 25 x := List.forall_mem_cons.mpr ⟨⟨mem_4 10 rfl, Or.inl rfl⟩, fun _ h => absurd h List.not_mem_nil⟩
set_option maxRecDepth 100000 in
theorem fl_49 : ∀ x ∈ ([(8, 5, 8)] : List (Nat × Nat × Nat)), FOK 8 28 x := List.forall_mem_cons.mpr ⟨⟨mem_4 11 rfl, Or.inl rfl⟩, fun _ h => absurd h List.not_mem_nil⟩
set_option maxRecDepth 100000 in
theorem fl_50 : ∀ x ∈ ([(8, 6, 8)] : List (Nat × Nat × Nat)), FOK 8 31 x := List.forall_mem_cons.mpr ⟨⟨mem_4 12 rfl, Or.inl rfl⟩, fun _ h => absurd h List.not_mem_nil⟩
set_option maxRecDepth 100000 in
theorem fl_51 : ∀ x ∈ ([(8, 7, 8)] : List (Nat × Nat × Nat)), FOK 8 34 x := List.forall_mem_cons.mpr ⟨⟨mem_4 13 rfl, Or.inl rfl⟩, fun _ h => absurd h List.not_mem_nil⟩
set_option maxRecDepth 100000 in
theorem fl_52 : ∀ x ∈ ([(8, 8, 8)] : List (Nat × Nat × Nat)), FOK 8 38 x := List.forall_mem_cons.mpr ⟨⟨mem_4 14 rfl, Or.inl rfl⟩, fun _ h => absurd h List.not_mem_nil⟩
set_option maxRecDepth 100000 in
theorem fl_53 : ∀ x ∈ ([(8, 9, 8)] : List (Nat × Nat × Nat)), FOK 8 41 x := List.forall_mem_cons.mpr ⟨⟨mem_4 15 rfl, Or.inl rfl⟩, fun _ h => absurd h List.not_mem_nil⟩
set_option maxRecDepth 100000 in
theorem fl_54 : ∀ x ∈ ([(10, 6, 10)] : List (Nat × Nat × Nat)), FOK 9 13 x := List.forall_mem_cons.mpr ⟨⟨mem_4 89 rfl, Or.inl rfl⟩, fun _ h => absurd h List.not_mem_nil⟩
set_option maxRecDepth 100000 in
theorem fl_55 : ∀ x ∈ ([(9, 0, 9)] : List (Nat × Nat × Nat)), FOK 9 19 x := List.forall_mem_cons.mpr ⟨⟨mem_1 52 rfl, Or.inr (mem_1 53 rfl)⟩, fun _ h => absurd h List.not_mem_nil⟩
set_option maxRecDepth 100000 in
theorem fl_56 : ∀ x ∈ ([(10, 12, 10)] : List (Nat × Nat × Nat)), FOK 9 25 x := List.forall_mem_cons.mpr ⟨⟨mem_4 107 rfl, Or.inl rfl⟩, fun _ h => absurd h List.not_mem_nil⟩
set_option maxRecDepth 100000 in
theorem fl_57 : ∀ x ∈ ([(9, 2, 9)] : List (Nat × Nat × Nat)), FOK 9 36 x := List.forall_mem_cons.mpr ⟨⟨mem_1 59 rfl, Or.inr (mem_1 60 rfl)⟩, fun _ h => absurd h List.not_mem_nil⟩
set_option maxRecDepth 100000 in
theorem fl_58 : ∀ x ∈ ([(10, 0, 10)] : List (Nat × Nat × Nat)), FOK 10 11 x := List.forall_mem_cons.mpr ⟨⟨mem_4 71 rfl, Or.inl rfl⟩, fun _ h => absurd h List.not_mem_nil⟩
set_option maxRecDepth 100000 in
theorem fl_59 : ∀ x ∈ ([(10, 1, 10)] : List (Nat × Nat × Nat)), FOK 10 17 x := List.forall_mem_cons.mpr ⟨⟨mem_4 73 rfl, Or.inl rfl⟩, fun _ h => absurd h List.not_mem_nil⟩
set_option maxRecDepth 100000 in
theorem fl_60 : ∀ x ∈ ([(10, 2, 10)] : List (Nat × Nat × Nat)), FOK 10 21 x := List.forall_mem_cons.mpr ⟨⟨mem_4 75 rfl, Or.inl rfl⟩, fun _ h => absurd h List.not_mem_nil⟩
set_option maxRecDepth 100000 in
theorem fl_61 : ∀ x ∈ ([(10, 3, 10)] : List (Nat × Nat × Nat)), FOK 10 24 x := List.forall_mem_cons.mpr ⟨⟨mem_4 79 rfl, Or.inl rfl⟩, fun _ h => absurd h List.not_mem_nil⟩
set_option maxRecDepth 100000 in
theorem fl_62 : ∀ x ∈ ([(10, 4, 10)] : List (Nat × Nat × Nat)), FOK 10 27 x := List.forall_mem_cons.mpr ⟨⟨mem_4 82 rfl, Or.inl rfl⟩, fun _ h => absurd h List.not_mem_nil⟩
set_option maxRecDepth 100000 in
theorem fl_63 : ∀ x ∈ ([(10, 5, 10)] : List (Nat × Nat × Nat)), FOK 10 30 x := List.forall_mem_cons.mpr ⟨⟨mem_4 84 rfl, Or.inl rfl⟩, fun _ h => absurd h List.not_mem_nil⟩
set_option maxRecDepth 100000 in
theorem fl_64 : ∀ x ∈ ([(10, 6, 10)] : List (Nat × Nat × Nat)), FOK 10 33 x := List.forall_mem_cons.mpr ⟨⟨mem_4 88 rfl, Or.inl rfl⟩, fun _ h => absurd h List.not_mem_nil⟩
set_option maxRecDepth 100000 in
theorem fl_65 : ∀ x ∈ ([(10, 7, 10)] : List (Nat × Nat × Nat)), FOK 10 36 x := List.forall_mem_cons.mpr ⟨⟨mem_4 91 rfl, Or.inl rfl⟩, fun _ h => absurd h List.not_mem_nil⟩
set_option maxRecDepth 100000 in
theorem fl_66 : ∀ x ∈ ([(10, 8, 10)] : List (Nat × Nat × Nat)), FOK 10 39 x := List.forall_mem_cons.mpr ⟨⟨mem_4 92 rfl, Or.inl rfl⟩, fun _ h => absurd h List.not_mem_nil⟩
set_option maxRecDepth 100000 in
theorem fl_67 : ∀ x ∈ ([(10, 9, 10)] : List (Nat × Nat × Nat)), FOK 10 43 x := List.forall_mem_cons.mpr ⟨⟨mem_4 95 rfl, Or.inl rfl⟩, fun _ h => absurd h List.not_mem_nil⟩
set_option maxRecDepth 100000 in
theorem fl_68 : ∀ x ∈ ([(10, 10, 10)] : List (Nat × Nat × Nat)), FOK 10 46 x := List.forall_mem_cons.mpr ⟨⟨mem_4 99 rfl, Or.inl rfl⟩, fun _ h => absurd h List.not_mem_nil⟩
set_option maxRecDepth 100000 in
theorem fl_69 : ∀ x ∈ ([(10, 11, 10)] : List (Nat × Nat × Nat)), FOK 10 49 x := List.forall_mem_cons.mpr ⟨⟨mem_4 102 rfl, Or.inl rfl⟩, fun _ h => absurd h List.not_mem_nil⟩
set_option maxRecDepth 100000 in
theorem fl_70 : ∀ x ∈ ([(10, 12, 10)] : List (Nat × Nat × Nat)), FOK 10 52 x := List.forall_mem_cons.mpr ⟨⟨mem_4 105 rfl, Or.inl rfl⟩, fun _ h => absurd h List.not_mem_nil⟩
set_option maxRecDepth 100000 in
theorem fl_71 : ∀ x ∈ ([(10, 13, 10)] : List (Nat × Nat × Nat)), FOK 10 55 x := List.forall_mem_cons.mpr ⟨⟨mem_4 109 rfl, Or.inl rfl⟩, fun _ h => absurd h List.not_mem_nil⟩
set_option maxRecDepth 100000 in
theorem fl_72 : ∀ x ∈ ([(10, 14, 10)] : List (Nat × Nat × Nat)), FOK 10 61 x := List.forall_mem_cons.mpr ⟨⟨mem_4 112 rfl, Or.inl rfl⟩, fun _ h => absurd h List.not_mem_nil⟩
set_option maxRecDepth 100000 in
theorem fl_73 : ∀ x ∈ ([(10, 15, 10)] : List (Nat × Nat × Nat)), FOK 10 65 x := List.forall_mem_cons.mpr ⟨⟨mem_4 114 rfl, Or.inl rfl⟩, fun _ h => absurd h List.not_mem_nil⟩
set_option maxRecDepth 100000 in
theorem fl_74 : ∀ x ∈ ([(6, 1, 1), (6, 1, 2), (6, 1, 4), (6, 1, 5), (6, 1, 6), (6, 1, 7), (6, 1, 9)] : List (Nat × Nat × Nat)), FOK 10 74 x := List.forall_mem_cons.mpr ⟨⟨mem_1 57 rfl, Or.inl rfl⟩, List.forall_mem_cons.mpr ⟨⟨mem_1 57 rfl, Or.inl rfl⟩, List.forall_mem_cons.mpr ⟨⟨mem_1 57 rfl, Or.inl rfl⟩, List.forall_mem_cons.mpr ⟨⟨mem_1 57 rfl, Or.inl rfl⟩, List.forall_mem_cons.mpr ⟨⟨mem_1 57 rfl, Or.inl rfl⟩, List.forall_mem_cons.mpr ⟨⟨mem_1 57 rfl, Or.inl rfl⟩, List.forall_mem_cons.mpr ⟨⟨mem_1 57 rfl, Or.inl rfl⟩, fun _ h => absurd h List.not_mem_nil⟩⟩⟩⟩⟩⟩⟩
set_option maxRecDepth 100000 in
theorem fl_75 : ∀ x ∈ ([(6, 2, 1), (6, 2, 2), (6, 2, 4), (6, 2, 5), (6, 2, 6), (6, 2, 7), (6, 2, 9)] : List (Nat × Nat × Nat)), FOK 10 77 x := List.forall_mem_cons.mpr ⟨⟨mem_1 61 rfl, Or.inl rfl⟩, List.forall_mem_cons.mpr ⟨⟨mem_1 61 rfl, Or.inl rfl⟩, List.forall_mem_cons.mpr ⟨⟨mem_1 61 rfl, Or.inl rfl⟩, List.forall_mem_cons.mpr ⟨⟨mem_1 61 rfl, Or.inl rfl⟩, List.forall_mem_cons.mpr ⟨⟨mem_1 61 rfl, Or.inl rfl⟩, List.forall_mem_cons.mpr ⟨⟨mem_1 61 rfl, Or.inl rfl⟩, List.forall_mem_cons.mpr ⟨⟨mem_1 61 rfl, Or.inl rfl⟩, fun _ h => absurd h List.not_mem_nil⟩⟩⟩⟩⟩⟩⟩
set_option maxRecDepth 100000 in
theorem fl_76 : ∀ x ∈ ([(8, 0, 8)] : List (Nat × Nat × Nat)), FOK 10 79 x := List.forall_mem_cons.mpr ⟨⟨mem_4 2 rfl, Or.inl rfl⟩, fun _ h => absurd h List.not_mem_nil⟩
set_option maxRecDepth 100000 in
theorem fl_77 : ∀ x ∈ ([(8, 2, 8)] : List (Nat × Nat × Nat)), FOK 10 104 x := List.forall_mem_cons.mpr ⟨⟨mem_4 7 rfl, Or.inl rfl⟩, fun _ h => absurd h List.not_mem_nil⟩
set_option maxRecDepth 100000 in
theorem fl_78 : ∀ x ∈ ([(8, 3, 8)] : List (Nat × Nat × Nat)), FOK 10 111 x := List.forall_mem_cons.mpr ⟨⟨mem_4 9 rfl, Or.inl rfl⟩, fun _ h => absurd h List.not_mem_nil⟩
set_option maxRecDepth 100000 in
theorem fl_79 : ∀ x ∈ ([(8, 1, 8)] : List (Nat × Nat × Nat)), FOK 10 126 x := List.forall_mem_cons.mpr ⟨⟨mem_4 5 rfl, Or.inl rfl⟩, fun _ h => absurd h List.not_mem_nil⟩
set_option maxRecDepth 100000 in
theorem fl_80 : ∀ x ∈ ([(11, 0, 11)] : List (Nat × Nat × Nat)), FOK 11 14 x := List.forall_mem_cons.mpr ⟨⟨mem_5 8 rfl, Or.inl rfl⟩, fun _ h => absurd h List.not_mem_nil⟩
set_option maxRecDepth 100000 in
theorem fl_81 : ∀ x ∈ ([(11, 1, 11)] : List (Nat × Nat × Nat)), FOK 11 21 x := List.forall_mem_cons.mpr ⟨⟨mem_5 9 rfl, Or.inl rfl⟩, fun _ h => absurd h List.not_mem_nil⟩
set_option maxRecDepth 100000 in
theorem fl_82 : ∀ x ∈ ([(11, 2, 11)] : List (Nat × Nat × Nat)), FOK 11 25 x := List.forall_mem_cons.mpr ⟨⟨mem_5 10 rfl, Or.inl rfl⟩, fun _ h => absurd h List.not_mem_nil⟩
set_option maxRecDepth 100000 in
theorem fl_83 : ∀ x ∈ ([(11, 3, 11)] : List (Nat × Nat × Nat)), FOK 11 28 x := List.forall_mem_cons.mpr ⟨⟨mem_5 11 rfl, Or.inl rfl⟩, fun _ h => absurd h List.not_mem_nil⟩
set_option maxRecDepth 100000 in
theorem fl_84 : ∀ x ∈ ([(11, 4, 11)] : List (Nat × Nat × Nat)), FOK 11 34 x := List.forall_mem_cons.mpr ⟨⟨mem_5 12 rfl, Or.inl rfl⟩, fun _ h => absurd h List.not_mem_nil⟩
set_option maxRecDepth 100000 in
theorem fl_85 : ∀ x ∈ ([(11, 5, 11)] : List (Nat × Nat × Nat)), FOK 11 38 x := List.forall_mem_cons.mpr ⟨⟨mem_5 13 rfl, Or.inl rfl⟩, fun _ h => absurd h List.not_mem_nil⟩
set_option maxRecDepth 100000 in
theorem fl_86 : ∀ x ∈ ([(11, 6, 11)] : List (Nat × Nat × Nat)), FOK 11 45 x := List.forall_mem_cons.mpr ⟨⟨mem_5 14 rfl, Or.inl rfl⟩, fun _ h => absurd h List.not_mem_nil⟩
set_option maxRecDepth 100000 in
theorem fl_87 : ∀ x ∈ ([(11, 7, 11)] : List (Nat × Nat × Nat)), FOK 11 49 x := List.forall_mem_cons.mpr ⟨⟨mem_5 15 rfl, Or.inl rfl⟩, fun _ h => absurd h List.not_mem_nil⟩
set_option maxRecDepth 100000 in
theorem fl_88 : ∀ x ∈ ([(3, 1, 3)] : List (Nat × Nat × Nat)), FOK 11 53 x := List.forall_mem_cons.mpr ⟨⟨mem_4 158 rfl, Or.inl rfl⟩, fun _ h => absurd h List.not_mem_nil⟩
set_option maxRecDepth 100000 in
theorem fl_89 : ∀ x ∈ ([(3, 0, 3)] : List (Nat × Nat × Nat)), FOK 11 57 x := List.forall_mem_cons.mpr ⟨⟨mem_4 156 rfl, Or.inl rfl⟩, fun _ h => absurd h List.not_mem_nil⟩
set_option maxRecDepth 100000 in
theorem fl_90 : ∀ x ∈ ([(10, 15, 10)] : List (Nat × Nat × Nat)), FOK 11 61 x := List.forall_mem_cons.mpr ⟨⟨mem_4 115 rfl, Or.inl rfl⟩, fun _ h => absurd h List.not_mem_nil⟩
set_option maxRecDepth 100000 in
theorem fl_91 : ∀ x ∈ ([(10, 8, 10)] : List (Nat × Nat × Nat)), FOK 11 72 x := List.forall_mem_cons.mpr ⟨⟨mem_4 93 rfl, Or.inl rfl⟩, fun _ h => absurd h List.not_mem_nil⟩
set_option maxRecDepth 100000 in
theorem fl_92 : ∀ x ∈ ([(10, 1, 10)] : List (Nat × Nat × Nat)), FOK 11 88 x := List.forall_mem_cons.mpr ⟨⟨mem_4 74 rfl, Or.inl rfl⟩, fun _ h => absurd h List.not_mem_nil⟩
set_option maxRecDepth 100000 in
theorem fl_93 : ∀ x ∈ ([(10, 2, 10)] : List (Nat × Nat × Nat)), FOK 11 91 x := List.forall_mem_cons.mpr ⟨⟨mem_4 77 rfl, Or.inl rfl⟩, fun _ h => absurd h List.not_mem_nil⟩
set_option maxRecDepth 100000 in
theorem fl_94 : ∀ x ∈ ([(10, 3, 10)] : List (Nat × Nat × Nat)), FOK 11 94 x := List.forall_mem_cons.mpr ⟨⟨mem_4 81 rfl, Or.inl rfl⟩, fun _ h => absurd h List.not_mem_nil⟩
set_option maxRecDepth 100000 in
theorem fl_95 : ∀ x ∈ ([(10, 4, 10)] : List (Nat × Nat × Nat)), FOK 11 97 x := List.forall_mem_cons.mpr ⟨⟨mem_4 83 rfl, Or.inl rfl⟩, fun _ h => absurd h List.not_mem_nil⟩
set_option maxRecDepth 100000 in
theorem fl_96 : ∀ x ∈ ([(10, 9, 10)] : List (Nat × Nat × Nat)), FOK 11 100 x := List.forall_mem_cons.mpr ⟨⟨mem_4 97 rfl, Or.inl rfl⟩, fun _ h => absurd h List.not_mem_nil⟩
set_option maxRecDepth 100000 in
theorem fl_97 : ∀ x ∈ ([(10, 10, 10)] : List (Nat × Nat × Nat)), FOK 11 103 x := List.forall_mem_cons.mpr ⟨⟨mem_4 100 rfl, Or.inl rfl⟩, fun _ h => absurd h List.not_mem_nil⟩
set_option maxRecDepth 100000 in
theorem fl_98 : ∀ x ∈ ([(10, 5, 10)] : List (Nat × Nat × Nat)), FOK 11 113 x := List.forall_mem_cons.mpr ⟨⟨mem_4 86 rfl, Or.inl rfl⟩, fun _ h => absurd h List.not_mem_nil⟩
set_option maxRecDepth 100000 in
theorem fl_99 : ∀ x ∈ ([(10, 6, 10)] : List (Nat × Nat × Nat)), FOK 11 116 x := List.forall_mem_cons.mpr ⟨⟨mem_4 90 rfl, Or.inl rfl⟩, fun _ h => absurd h List.not_mem_nil⟩
set_option maxRecDepth 100000 in
theorem fl_100 : ∀ x ∈ ([(10, 12, 10)] : List (Nat × Nat × Nat)), FOK 11 123 x := List.forall_mem_cons.mpr ⟨⟨mem_4 108 rfl, Or.inl rfl⟩, fun _ h => absurd h List.not_mem_nil⟩
set_option maxRecDepth 100000 in
theorem fl_101 : ∀ x ∈ ([(10, 13, 10)] : List (Nat × Nat × Nat)), FOK 11 126 x := List.forall_mem_cons.mpr ⟨⟨mem_4 111 rfl, Or.inl rfl⟩, fun _ h => absurd h List.not_mem_nil⟩
set_option maxRecDepth 100000 in
theorem fl_102 : ∀ x ∈ ([(10, 14, 10)] : List (Nat × Nat × Nat)), FOK 11 129 x := List.forall_mem_cons.mpr ⟨⟨mem_4 113 rfl, Or.inl rfl⟩, fun _ h => absurd h List.not_mem_nil⟩
set_option maxRecDepth 100000 in
theorem fl_103 : ∀ x ∈ ([(8, 1, 8)] : List (Nat × Nat × Nat)), FOK 11 132 x := List.forall_mem_cons.mpr ⟨⟨mem_4 4 rfl, Or.inl rfl⟩, fun _ h => absurd h List.not_mem_nil⟩
set_option maxRecDepth 100000 in
theorem fl_104 : ∀ x ∈ ([(10, 11, 10)] : List (Nat × Nat × Nat)), FOK 11 135 x := List.forall_mem_cons.mpr ⟨⟨mem_4 104 rfl, Or.inl rfl⟩, fun _ h => absurd h List.not_mem_nil⟩
set_option maxRecDepth 100000 in
theorem fl_105 : ∀ x ∈ ([(0, 3, 0)] : List (Nat × Nat × Nat)), FOK 11 171 x := List.forall_mem_cons.mpr ⟨⟨mem_4 219 rfl, Or.inl rfl⟩, fun _ h => absurd h List.not_mem_nil⟩
set_option maxRecDepth 100000 in
theorem fl_106 : ∀ x ∈ ([(0, 4, 0)] : List (Nat × Nat × Nat)), FOK 11 174 x := List.forall_mem_cons.mpr ⟨⟨mem_4 221 rfl, Or.inl rfl⟩, fun _ h => absurd h List.not_mem_nil⟩
set_option maxRecDepth 100000 in
theorem fl_107 : ∀ x ∈ ([(0, 5, 0)] : List (Nat × Nat × Nat)), FOK 11 177 x := List.forall_mem_cons.mpr ⟨⟨mem_4 223 rfl, Or.inl rfl⟩, fun _ h => absurd h List.not_mem_nil⟩
set_option maxRecDepth 100000 in
theorem fl_108 : ∀ x ∈ ([(3, 5, 3)] : List (Nat × Nat × Nat)), FOK 11 183 x := List.forall_mem_cons.mpr ⟨⟨mem_4 166 rfl, Or.inl rfl⟩, fun _ h => absurd h List.not_mem_nil⟩
set_option maxRecDepth 100000 in
theorem fl_109 : ∀ x ∈ ([(3, 2, 3)] : List (Nat × Nat × Nat)), FOK 11 186 x := List.forall_mem_cons.mpr ⟨⟨mem_4 160 rfl, Or.inl rfl⟩, fun _ h => absurd h List.not_mem_nil⟩
set_option maxRecDepth 100000 in
theorem fl_110 : ∀ x ∈ ([(3, 3, 3)] : List (Nat × Nat × Nat)), FOK 11 189 x := List.forall_mem_cons.mpr ⟨⟨mem_4 162 rfl, Or.inl rfl⟩, fun _ h => absurd h List.not_mem_nil⟩
set_option maxRecDepth 100000 in
theorem fl_111 : ∀ x ∈ ([(3, 4, 3)] : List (Nat × Nat × Nat)), FOK 11 192 x := List.forall_mem_cons.mpr ⟨⟨mem_4 164 rfl, Or.inl rfl⟩, fun _ h => absurd h List.not_mem_nil⟩
set_option maxRecDepth 100000 in
theorem fl_112 : ∀ x ∈ ([(0, 6, 0)] : List (Nat × Nat × Nat)), FOK 11 199 x := List.forall_mem_cons.mpr ⟨⟨mem_4 225 rfl, Or.inl rfl⟩, fun _ h => absurd h List.not_mem_nil⟩
set_option maxRecDepth 100000 in
theorem fl_113 : ∀ x ∈ ([(0, 7, 0)] : List (Nat × Nat × Nat)), FOK 11 202 x := List.forall_mem_cons.mpr ⟨⟨mem_4 227 rfl, Or.inl rfl⟩, fun _ h => absurd h List.not_mem_nil⟩
set_option maxRecDepth 100000 in
theorem fl_114 : ∀ x ∈ ([(3, 8, 3)] : List (Nat × Nat × Nat)), FOK 11 226 x := List.forall_mem_cons.mpr ⟨⟨mem_4 175 rfl, Or.inl rfl⟩, fun _ h => absurd h List.not_mem_nil⟩
set_option maxRecDepth 100000 in
theorem fl_115 : ∀ x ∈ ([(3, 6, 3)] : List (Nat × Nat × Nat)), FOK 11 229 x := List.forall_mem_cons.mpr ⟨⟨mem_4 169 rfl, Or.inl rfl⟩, fun _ h => absurd h List.not_mem_nil⟩
set_option maxRecDepth 100000 in
theorem fl_116 : ∀ x ∈ ([(3, 7, 3)] : List (Nat × Nat × Nat)), FOK 11 232 x := List.forall_mem_cons.mpr ⟨⟨mem_4 172 rfl, Or.inl rfl⟩, fun _ h => absurd h List.not_mem_nil⟩
set_option maxRecDepth 100000 in
theorem fl_117 : ∀ x ∈ ([(3, 11, 3)] : List (Nat × Nat × Nat)), FOK 11 239 x := List.forall_mem_cons.mpr ⟨⟨mem_4 181 rfl, Or.inl rfl⟩, fun _ h => absurd h List.not_mem_nil⟩
set_option maxRecDepth 100000 in
theorem fl_118 : ∀ x ∈ ([(3, 9, 3)] : List (Nat × Nat × Nat)), FOK 11 242 x := List.forall_mem_cons.mpr ⟨⟨mem_4 177 rfl, Or.inl rfl⟩, fun _ h => absurd h List.not_mem_nil⟩
set_option maxRecDepth 100000 in
theorem fl_119 : ∀ x ∈ ([(3, 10, 3)] : List (Nat × Nat × Nat)), FOK 11 245 x := List.forall_mem_cons.mpr ⟨⟨mem_4 179 rfl, Or.inl rfl⟩, fun _ h => absurd h List.not_mem_nil⟩
set_option maxRecDepth 100000 in
theorem fl_120 : ∀ x ∈ ([(10, 0, 10)] : List (Nat × Nat × Nat)), FOK 11 248 x := List.forall_mem_cons.mpr ⟨⟨mem_4 72 rfl, Or.inl rfl⟩, fun _ h => absurd h List.not_mem_nil⟩
set_option maxRecDepth 100000 in
theorem cl_all : ∀ e ∈ CLL, ∀ x ∈ e.2, COK e.1.1 e.1.2 x := List.forall_mem_cons.mpr ⟨cl_0, List.forall_mem_cons.mpr ⟨cl_1, List.forall_mem_cons.mpr ⟨cl_2, List.forall_mem_cons.mpr ⟨cl_3, List.forall_mem_cons.mpr ⟨cl_4, List.forall_mem_cons.mpr ⟨cl_5, List.forall_mem_cons.mpr ⟨cl_6, List.forall_mem_cons.mpr ⟨cl_7, List.forall_mem_cons.mpr ⟨cl_8, List.forall_mem_cons.mpr ⟨cl_9, List.forall_mem_cons.mpr ⟨cl_10, List.forall_mem_cons.mpr ⟨cl_11, List.forall_mem_cons.mpr ⟨cl_12, List.forall_mem_cons.mpr ⟨cl_13, List.forall_mem_cons.mpr ⟨cl_14, List.forall_mem_cons.mpr ⟨cl_15, List.forall_mem_cons.mpr ⟨cl_16, List.forall_mem_cons.mpr ⟨cl_17, List.forall_mem_cons.mpr ⟨cl_18, List.forall_mem_cons.mpr ⟨cl_19, List.forall_mem_cons.mpr ⟨cl_20, List.forall_mem_cons.mpr ⟨cl_21, List.forall_mem_cons.mpr ⟨cl_22, List.forall_mem_cons.mpr ⟨cl_23, List.forall_mem_cons.mpr ⟨cl_24, List.forall_mem_cons.mpr ⟨cl_25, List.forall_mem_cons.mpr ⟨cl_26, List.forall_mem_cons.mpr ⟨cl_27, List.forall_mem_cons.mpr ⟨cl_28, List.forall_mem_cons.mpr ⟨cl_29, List.forall_mem_cons.mpr ⟨cl_30, List.forall_mem_cons.mpr ⟨cl_31, List.forall_mem_cons.mpr ⟨cl_32, List.forall_mem_cons.mpr ⟨cl_33, List.forall_mem_cons.mpr ⟨cl_34, List.forall_mem_cons.mpr ⟨cl_35, List.forall_mem_cons.mpr ⟨cl_36, List.forall_mem_cons.mpr ⟨cl_37, List.forall_mem_cons.mpr ⟨cl_38, List.forall_mem_cons.mpr ⟨cl_39, List.forall_mem_cons.mpr ⟨cl_40, List.forall_mem_cons.mpr ⟨cl_41, List.forall_mem_cons.mpr ⟨cl_42, List.forall_mem_cons.mpr ⟨cl_43, List.forall_mem_cons.mpr ⟨cl_44, List.forall_mem_cons.mpr ⟨cl_45, List.forall_mem_cons.mpr ⟨cl_46, List.forall_mem_cons.mpr ⟨cl_47, List.forall_mem_cons.mpr ⟨cl_48, List.forall_mem_cons.mpr ⟨cl_49, List.forall_mem_cons.mpr ⟨cl_50, List.forall_mem_cons.mpr ⟨cl_51, List.forall_mem_cons.mpr ⟨cl_52, List.forall_mem_cons.mpr ⟨cl_53, List.forall_mem_cons.mpr ⟨cl_54, List.forall_mem_cons.mpr ⟨cl_55, List.forall_mem_cons.mpr ⟨cl_56, List.forall_mem_cons.mpr ⟨cl_57, List.forall_mem_cons.mpr ⟨cl_58, List.forall_mem_cons.mpr ⟨cl_59, List.forall_mem_cons.mpr ⟨cl_60, List.forall_mem_cons.mpr ⟨cl_61, List.forall_mem_cons.mpr ⟨cl_62, List.forall_mem_cons.mpr ⟨cl_63, List.forall_mem_cons.mpr ⟨cl_64, List.forall_mem_cons.mpr ⟨cl_65, List.forall_mem_cons.mpr ⟨cl_66, List.forall_mem_cons.mpr ⟨cl_67, List.forall_mem_cons.mpr ⟨cl_68, List.forall_mem_cons.mpr ⟨cl_69, List.forall_mem_cons.mpr ⟨cl_70, List.forall_mem_cons.mpr ⟨cl_71, List.forall_mem_cons.mpr ⟨cl_72, List.forall_mem_cons.mpr ⟨cl_73, List.forall_mem_cons.mpr ⟨cl_74, List.forall_mem_cons.mpr ⟨cl_75, List.forall_mem_cons.mpr ⟨cl_76, List.forall_mem_cons.mpr ⟨cl_77, List.forall_mem_cons.mpr ⟨cl_78, List.forall_mem_cons.mpr ⟨cl_79, List.forall_mem_cons.mpr ⟨cl_80, List.forall_mem_cons.mpr ⟨cl_81, List.forall_mem_cons.mpr ⟨cl_82, List.forall_mem_cons.mpr ⟨cl_83, List.forall_mem_cons.mpr ⟨cl_84, List.forall_mem_cons.mpr ⟨cl_85, List.forall_mem_cons.mpr ⟨cl_86, List.forall_mem_cons.mpr ⟨cl_87, List.forall_mem_cons.mpr ⟨cl_88, List.forall_mem_cons.mpr ⟨cl_89, List.forall_mem_cons.mpr ⟨cl_90, List.forall_mem_cons.mpr ⟨cl_91, List.forall_mem_cons.mpr ⟨cl_92, List.forall_mem_cons.mpr ⟨cl_93, List.forall_mem_cons.mpr ⟨cl_94, List.forall_mem_cons.mpr ⟨cl_95, List.forall_mem_cons.mpr ⟨cl_96, List.forall_mem_cons.mpr ⟨cl_97, List.forall_mem_cons.mpr ⟨cl_98, List.forall_mem_cons.mpr ⟨cl_99, List.forall_mem_cons.mpr ⟨cl_100, List.forall_mem_cons.mpr ⟨cl_101, List.forall_mem_cons.mpr ⟨cl_102, List.forall_mem_cons.mpr ⟨cl_103, List.forall_mem_cons.mpr ⟨cl_104, List.forall_mem_cons.mpr ⟨cl_105, List.forall_mem_cons.mpr ⟨cl_106, List.forall_mem_cons.mpr ⟨cl_107, List.forall_mem_cons.mpr ⟨cl_108, List.forall_mem_cons.mpr ⟨cl_109, List.forall_mem_cons.mpr ⟨cl_110, List.forall_mem_cons.mpr ⟨cl_111, List.forall_mem_cons.mpr ⟨cl_112, List.forall_mem_cons.mpr ⟨cl_113, List.forall_mem_cons.mpr ⟨cl_114, List.forall_mem_cons.mpr ⟨cl_115, List.forall_mem_cons.mpr ⟨cl_116, List.forall_mem_cons.mpr ⟨cl_117, List.forall_mem_cons.mpr ⟨cl_118, List.forall_mem_cons.mpr ⟨cl_119, List.forall_mem_cons.mpr ⟨cl_120, List.forall_mem_cons.mpr ⟨cl_121, List.forall_mem_cons.mpr ⟨cl_122, List.forall_mem_cons.mpr ⟨cl_123, List.forall_mem_cons.mpr ⟨cl_124, List.forall_mem_cons.mpr ⟨cl_125, List.forall_mem_cons.mpr ⟨cl_126, List.forall_mem_cons.mpr ⟨cl_127, List.forall_mem_cons.mpr ⟨cl_128, List.forall_mem_cons.mpr ⟨cl_129, List.forall_mem_cons.mpr ⟨cl_130, List.forall_mem_cons.mpr ⟨cl_131, List.forall_mem_cons.mpr ⟨cl_132, List.forall_mem_cons.mpr ⟨cl_133, List.forall_mem_cons.mpr ⟨cl_134, List.forall_mem_cons.mpr ⟨cl_135, List.forall_mem_cons.mpr ⟨cl_136, List.forall_mem_cons.mpr ⟨cl_137, List.forall_mem_cons.mpr ⟨cl_138, List.forall_mem_cons.mpr ⟨cl_139, List.forall_mem_cons.mpr ⟨cl_140, List.forall_mem_cons.mpr ⟨cl_141, List.forall_mem_cons.mpr ⟨cl_142, List.forall_mem_cons.mpr ⟨cl_143, List.forall_mem_cons.mpr ⟨cl_144, List.forall_mem_cons.mpr ⟨cl_145, List.forall_mem_cons.mpr ⟨cl_146, List.forall_mem_cons.mpr ⟨cl_147, List.forall_mem_cons.mpr ⟨cl_148, List.forall_mem_cons.mpr ⟨cl_149, List.forall_mem_cons.mpr ⟨cl_150, List.forall_mem_cons.mpr ⟨cl_151, List.forall_mem_cons.mpr ⟨cl_152, List.forall_mem_cons.mpr ⟨cl_153, List.forall_mem_cons.mpr ⟨cl_154, List.forall_mem_cons.mpr ⟨cl_155, List.forall_mem_cons.mpr ⟨cl_156, List.forall_mem_cons.mpr ⟨cl_157, List.forall_mem_cons.mpr ⟨cl_158, List.forall_mem_cons.mpr ⟨cl_159, List.forall_mem_cons.mpr ⟨cl_160, List.forall_mem_cons.mpr ⟨cl_161, List.forall_mem_cons.mpr ⟨cl_162, List.forall_mem_cons.mpr ⟨cl_163, List.forall_mem_cons.mpr ⟨cl_164, List.forall_mem_cons.mpr ⟨cl_165, List.forall_mem_cons.mpr ⟨cl_166, List.forall_mem_cons.mpr ⟨cl_167, List.forall_mem_cons.mpr ⟨cl_168, List.forall_mem_cons.mpr ⟨cl_169, List.forall_mem_cons.mpr ⟨cl_170, List.forall_mem_cons.mpr ⟨cl_171, List.forall_mem_cons.mpr ⟨cl_172, List.forall_mem_cons.mpr ⟨cl_173, List.forall_mem_cons.mpr ⟨cl_174, List.forall_mem_cons.mpr ⟨cl_175, List.forall_mem_cons.mpr ⟨cl_176, List.forall_mem_cons.mpr ⟨cl_177, fun _ h => absurd h List.not_mem_nil⟩⟩⟩⟩⟩⟩⟩⟩⟩⟩⟩⟩⟩⟩⟩⟩⟩⟩⟩⟩⟩⟩⟩⟩⟩⟩⟩⟩⟩⟩⟩⟩⟩⟩⟩⟩⟩⟩⟩⟩⟩⟩⟩⟩⟩⟩⟩⟩⟩⟩⟩⟩⟩⟩⟩⟩⟩⟩⟩⟩⟩⟩⟩⟩⟩⟩⟩⟩⟩⟩⟩⟩⟩⟩⟩⟩⟩⟩⟩⟩⟩⟩⟩⟩⟩⟩⟩⟩⟩⟩⟩⟩⟩⟩⟩⟩⟩⟩⟩⟩⟩⟩⟩⟩⟩⟩⟩⟩⟩⟩⟩⟩⟩⟩⟩⟩⟩⟩⟩⟩⟩⟩⟩⟩⟩⟩⟩⟩⟩⟩⟩⟩⟩⟩⟩⟩⟩⟩⟩⟩⟩⟩⟩⟩⟩⟩⟩⟩⟩⟩⟩⟩⟩⟩⟩⟩⟩⟩⟩⟩⟩⟩⟩⟩⟩⟩⟩⟩⟩⟩⟩⟩⟩⟩⟩⟩⟩⟩
set_option maxRecDepth 100000 in
theorem fl_all : ∀ e ∈ FLL, ∀ x ∈ e.2, FOK e.1.1 e.1.2 x := List.forall_mem_cons.mpr ⟨fl_0, List.forall_mem_cons.mpr ⟨fl_1, List.forall_mem_cons.mpr ⟨fl_2, List.forall_mem_cons.mpr ⟨fl_3, List.forall_mem_cons.mpr ⟨fl_4, List.forall_mem_cons.mpr ⟨fl_5, List.forall_mem_cons.mpr ⟨fl_6, List.forall_mem_cons.mpr ⟨fl_7, List.forall_mem_cons.mpr ⟨fl_8, List.forall_mem_cons.mpr ⟨fl_9, List.forall_mem_cons.mpr ⟨fl_10, List.forall_mem_cons.mpr ⟨fl_11, List.forall_mem_cons.mpr ⟨fl_12, List.forall_mem_cons.mpr ⟨fl_13, List.forall_mem_cons.mpr ⟨fl_14, List.forall_mem_cons.mpr ⟨fl_15, List.forall_mem_cons.mpr ⟨fl_16, List.forall_mem_cons.mpr ⟨fl_17, List.forall_mem_cons.mpr ⟨fl_18, List.forall_mem_cons.mpr ⟨fl_19, List.forall_mem_cons.mpr ⟨fl_20, List.forall_mem_cons.mpr ⟨fl_21, List.forall_mem_cons.mpr ⟨fl_22, List.forall_mem_cons.mpr ⟨fl_23, List.forall_mem_cons.mpr ⟨fl_24, List.forall_mem_cons.mpr ⟨fl_25, List.forall_mem_cons.mpr ⟨fl_26, List.forall_mem_cons.mpr ⟨fl_27, List.forall_mem_cons.mpr ⟨fl_28, List.forall_mem_cons.mpr ⟨fl_29, List.forall_mem_cons.mpr ⟨fl_30, List.forall_mem_cons.mpr ⟨fl_31, List.forall_mem_cons.mpr ⟨fl_32, List.forall_mem_cons.mpr ⟨fl_33, List.forall_mem_cons.mpr ⟨fl_34, List.forall_mem_cons.mpr ⟨fl_35, List.forall_mem_cons.mpr ⟨fl_36, List.forall_mem_cons.mpr ⟨fl_37, List.forall_mem_cons.mpr ⟨fl_38, List.forall_mem_cons.mpr ⟨fl_39, List.forall_mem_cons.mpr ⟨fl_40, List.forall_mem_cons.mpr ⟨fl_41, List.forall_mem_cons.mpr ⟨fl_42, List.forall_mem_cons.mpr ⟨fl_43, List.forall_mem_cons.mpr ⟨fl_44, List.forall_mem_cons.mpr ⟨fl_45, List.forall_mem_cons.mpr ⟨fl_46, List.forall_mem_cons.mpr ⟨fl_47, List.forall_mem_cons.mpr ⟨fl_48, List.forall_mem_cons.mpr ⟨fl_49, List.forall_mem_cons.mpr ⟨fl_50, List.forall_mem_cons.mpr ⟨fl_51, List.forall_mem_cons.mpr ⟨fl_52, List.forall_mem_cons.mpr ⟨fl_53, List.forall_mem_cons.mpr ⟨fl_54, List.forall_mem_cons.mpr ⟨fl_55, List.forall_mem_cons.mpr ⟨fl_56, List.forall_mem_cons.mpr ⟨fl_57, List.forall_mem_cons.mpr ⟨fl_58, List.forall_mem_cons.mpr ⟨fl_59, List.forall_mem_cons.mpr ⟨fl_60, List.forall_mem_cons.mpr ⟨fl_61, List.forall_mem_cons.mpr ⟨fl_62, List.forall_mem_cons.mpr ⟨fl_63, List.forall_mem_cons.mpr ⟨fl_64, List.forall_mem_cons.mpr ⟨fl_65, List.forall_mem_cons.mpr ⟨fl_66, List.forall_mem_cons.mpr ⟨fl_67, List.forall_mem_cons.mpr ⟨fl_68, List.forall_mem_cons.mpr ⟨fl_69, List.forall_mem_cons.mpr ⟨fl_70, List.forall_mem_cons.mpr ⟨fl_71, List.forall_mem_cons.mpr ⟨fl_72, List.forall_mem_cons.mpr ⟨fl_73, List.forall_mem_cons.mpr ⟨fl_74, List.forall_mem_cons.mpr ⟨fl_75, List.forall_mem_cons.mpr ⟨fl_76, List.forall_mem_cons.mpr ⟨fl_77, List.forall_mem_cons.mpr ⟨fl_78, List.forall_mem_cons.mpr ⟨fl_79, List.forall_mem_cons.mpr ⟨fl_80, List.forall_mem_cons.mpr ⟨fl_81, List.forall_mem_cons.mpr ⟨fl_82, List.forall_mem_cons.mpr ⟨fl_83, List.forall_mem_cons.mpr ⟨fl_84, List.forall_mem_cons.mpr ⟨fl_85, List.forall_mem_cons.mpr ⟨fl_86, List.forall_mem_cons.mpr ⟨fl_87, List.forall_mem_cons.mpr ⟨fl_88, List.forall_mem_cons.mpr ⟨fl_89, List.forall_mem_cons.mpr ⟨fl_90, List.forall_mem_cons.mpr ⟨fl_91, List.forall_mem_cons.mpr ⟨fl_92, List.forall_mem_cons.mpr ⟨fl_93, List.forall_mem_cons.mpr ⟨fl_94, List.forall_mem_cons.mpr ⟨fl_95, List.forall_mem_cons.mpr ⟨fl_96, List.forall_mem_cons.mpr ⟨fl_97, List.forall_mem_cons.mpr ⟨fl_98, List.forall_mem_cons.mpr ⟨fl_99, List.forall_mem_cons.mpr ⟨fl_100, List.forall_mem_cons.mpr ⟨fl_101, List.forall_mem_cons.mpr ⟨fl_102, List.forall_mem_cons.mpr ⟨fl_103, List.forall_mem_cons.mpr ⟨fl_104, List.forall_mem_cons.mpr ⟨fl_105, List.forall_mem_cons.mpr ⟨fl_106, List.forall_mem_cons.mpr ⟨fl_107, List.forall_mem_cons.mpr ⟨fl_108, List.forall_mem_cons.mpr ⟨fl_109, List.forall_mem_cons.mpr ⟨fl_110, List.forall_mem_cons.mpr ⟨fl_111, List.forall_mem_cons.mpr ⟨fl_112, List.forall_mem_cons.mpr ⟨fl_113, List.forall_mem_cons.mpr ⟨fl_114, List.forall_mem_cons.mpr ⟨fl_115, List.forall_mem_cons.mpr ⟨fl_116, List.forall_mem_cons.mpr ⟨fl_117, List.forall_mem_cons.mpr ⟨fl_118, List.forall_mem_cons.mpr ⟨fl_119, List.forall_mem_cons.mpr ⟨fl_120, fun _ h => absurd h List.not_mem_nil⟩⟩⟩⟩⟩⟩⟩⟩⟩⟩⟩⟩⟩⟩⟩⟩⟩⟩⟩⟩⟩⟩⟩⟩⟩⟩⟩⟩⟩⟩⟩⟩⟩⟩⟩⟩⟩⟩⟩⟩⟩⟩⟩⟩⟩⟩⟩⟩⟩⟩⟩⟩⟩⟩⟩⟩⟩⟩⟩⟩⟩⟩⟩⟩⟩⟩⟩⟩⟩⟩⟩⟩⟩⟩⟩⟩⟩⟩⟩⟩⟩⟩⟩⟩⟩⟩⟩⟩⟩⟩⟩⟩⟩⟩⟩⟩⟩⟩⟩⟩⟩⟩⟩⟩⟩⟩⟩⟩⟩⟩⟩⟩⟩⟩⟩⟩⟩⟩⟩⟩⟩
def MOK (k : Nat) : Prop := Cond.code (mY k) (mB k) (mL k) (mR k) ∈ lw_tbl ∧ Cond.initialized (mY k).cls ∈ lw_tbl
set_option maxRecDepth 100000 in
theorem mw_1 : MOK 1 := ⟨mem_4 44 rfl, mem_1 0 rfl⟩
set_option maxRecDepth 100000 in
theorem mw_2 : MOK 2 := ⟨mem_3 57 rfl, mem_1 0 rfl⟩
set_option maxRecDepth 100000 in
theorem mw_3 : MOK 3 := ⟨mem_3 60 rfl, mem_1 0 rfl⟩
set_option maxRecDepth 100000 in
theorem mw_4 : MOK 4 := ⟨mem_5 41 rfl, mem_1 0 rfl⟩
set_option maxRecDepth 100000 in
theorem mw_5 : MOK 5 := ⟨mem_5 38 rfl, mem_1 0 rfl⟩
set_option maxRecDepth 100000 in
theorem mw_6 : MOK 6 := ⟨mem_4 41 rfl, mem_1 0 rfl⟩
set_option maxRecDepth 100000 in
theorem mw_7 : MOK 7 := ⟨mem_4 47 rfl, mem_1 0 rfl⟩
set_option maxRecDepth 100000 in
theorem mw_8 : MOK 8 := ⟨mem_4 50 rfl, mem_1 0 rfl⟩
set_option maxRecDepth 100000 in
theorem mw_9 : MOK 9 := ⟨mem_4 53 rfl, mem_1 0 rfl⟩
set_option maxRecDepth 100000 in
theorem mw_10 : MOK 10 := ⟨mem_5 35 rfl, mem_1 0 rfl⟩
set_option maxRecDepth 100000 in
theorem mw_11 : MOK 11 := ⟨mem_4 56 rfl, mem_1 0 rfl⟩
set_option maxRecDepth 100000 in
theorem mw_12 : MOK 12 := ⟨mem_5 57 rfl, mem_1 0 rfl⟩
set_option maxRecDepth 100000 in
theorem mw_13 : MOK 13 := ⟨mem_5 48 rfl, mem_1 0 rfl⟩
set_option maxRecDepth 100000 in
theorem mw_14 : MOK 14 := ⟨mem_5 51 rfl, mem_1 0 rfl⟩
set_option maxRecDepth 100000 in
theorem mw_15 : MOK 15 := ⟨mem_5 54 rfl, mem_1 0 rfl⟩
set_option maxRecDepth 100000 in
theorem mw_16 : MOK 16 := ⟨mem_5 60 rfl, mem_1 0 rfl⟩
set_option maxRecDepth 100000 in
theorem mw_17 : MOK 17 := ⟨mem_4 210 rfl, mem_1 5 rfl⟩
set_option maxRecDepth 100000 in
theorem mw_18 : MOK 18 := ⟨mem_2 49 rfl, mem_1 5 rfl⟩
set_option maxRecDepth 100000 in
theorem mw_19 : MOK 19 := ⟨mem_2 66 rfl, mem_1 5 rfl⟩
set_option maxRecDepth 100000 in
theorem mw_20 : MOK 20 := ⟨mem_2 75 rfl, mem_1 5 rfl⟩
set_option maxRecDepth 100000 in
theorem mw_21 : MOK 21 := ⟨mem_2 78 rfl, mem_1 5 rfl⟩
set_option maxRecDepth 100000 in
theorem mw_22 : MOK 22 := ⟨mem_2 83 rfl, mem_1 5 rfl⟩
set_option maxRecDepth 100000 in
theorem mw_23 : MOK 23 := ⟨mem_2 92 rfl, mem_1 5 rfl⟩
set_option maxRecDepth 100000 in
theorem mw_24 : MOK 24 := ⟨mem_2 87 rfl, mem_1 5 rfl⟩
set_option maxRecDepth 100000 in
theorem mw_25 : MOK 25 := ⟨mem_2 13 rfl, mem_1 5 rfl⟩
set_option maxRecDepth 100000 in
theorem mw_26 : MOK 26 := ⟨mem_2 109 rfl, mem_1 5 rfl⟩
set_option maxRecDepth 100000 in
theorem mw_27 : MOK 27 := ⟨mem_2 131 rfl, mem_1 5 rfl⟩
set_option maxRecDepth 100000 in
theorem mw_28 : MOK 28 := ⟨mem_2 113 rfl, mem_1 5 rfl⟩
set_option maxRecDepth 100000 in
theorem mw_29 : MOK 29 := ⟨mem_2 163 rfl, mem_1 5 rfl⟩
set_option maxRecDepth 100000 in
theorem mw_30 : MOK 30 := ⟨mem_1 76 rfl, mem_1 8 rfl⟩
set_option maxRecDepth 100000 in
theorem mw_31 : MOK 31 := ⟨mem_1 188 rfl, mem_1 8 rfl⟩
set_option maxRecDepth 100000 in
theorem mw_32 : MOK 32 := ⟨mem_2 212 rfl, mem_1 8 rfl⟩
set_option maxRecDepth 100000 in
theorem mw_33 : MOK 33 := ⟨mem_1 109 rfl, mem_1 11 rfl⟩
set_option maxRecDepth 100000 in
theorem mw_34 : MOK 34 := ⟨mem_1 191 rfl, mem_1 11 rfl⟩
set_option maxRecDepth 100000 in
theorem mw_35 : MOK 35 := ⟨mem_2 183 rfl, mem_1 11 rfl⟩
set_option maxRecDepth 100000 in
theorem mw_36 : MOK 36 := ⟨mem_4 153 rfl, mem_1 4 rfl⟩
set_option maxRecDepth 100000 in
theorem mw_37 : MOK 37 := ⟨mem_3 45 rfl, mem_1 4 rfl⟩
set_option maxRecDepth 100000 in
theorem mw_38 : MOK 38 := ⟨mem_2 117 rfl, mem_1 4 rfl⟩
set_option maxRecDepth 100000 in
theorem mw_39 : MOK 39 := ⟨mem_2 122 rfl, mem_1 4 rfl⟩
set_option maxRecDepth 100000 in
theorem mw_40 : MOK 40 := ⟨mem_1 87 rfl, mem_1 9 rfl⟩
set_option maxRecDepth 100000 in
theorem mw_41 : MOK 41 := ⟨mem_1 195 rfl, mem_1 9 rfl⟩
set_option maxRecDepth 100000 in
theorem mw_42 : MOK 42 := ⟨mem_3 1 rfl, mem_1 9 rfl⟩
set_option maxRecDepth 100000 in
theorem mw_43 : MOK 43 := ⟨mem_1 38 rfl, mem_1 7 rfl⟩
set_option maxRecDepth 100000 in
theorem mw_44 : MOK 44 := ⟨mem_1 199 rfl, mem_1 7 rfl⟩
set_option maxRecDepth 100000 in
theorem mw_45 : MOK 45 := ⟨mem_2 196 rfl, mem_1 7 rfl⟩
set_option maxRecDepth 100000 in
theorem mw_46 : MOK 46 := ⟨mem_1 41 rfl, mem_1 6 rfl⟩
set_option maxRecDepth 100000 in
theorem mw_47 : MOK 47 := ⟨mem_1 208 rfl, mem_1 6 rfl⟩
set_option maxRecDepth 100000 in
theorem mw_48 : MOK 48 := ⟨mem_2 204 rfl, mem_1 6 rfl⟩
set_option maxRecDepth 100000 in
theorem mw_49 : MOK 49 := ⟨mem_2 231 rfl, mem_1 6 rfl⟩
set_option maxRecDepth 100000 in
theorem mw_50 : MOK 50 := ⟨mem_3 22 rfl, mem_1 6 rfl⟩
set_option maxRecDepth 100000 in
theorem mw_51 : MOK 51 := ⟨mem_2 189 rfl, mem_1 6 rfl⟩
set_option maxRecDepth 100000 in
theorem mw_52 : MOK 52 := ⟨mem_1 98 rfl, mem_1 10 rfl⟩
set_option maxRecDepth 100000 in
theorem mw_53 : MOK 53 := ⟨mem_1 202 rfl, mem_1 10 rfl⟩
set_option maxRecDepth 100000 in
theorem mw_54 : MOK 54 := ⟨mem_3 10 rfl, mem_1 10 rfl⟩
set_option maxRecDepth 100000 in
theorem mw_55 : MOK 55 := ⟨mem_3 239 rfl, mem_1 3 rfl⟩
set_option maxRecDepth 100000 in
theorem mw_56 : MOK 56 := ⟨mem_3 108 rfl, mem_1 3 rfl⟩
set_option maxRecDepth 100000 in
theorem mw_57 : MOK 57 := ⟨mem_3 114 rfl, mem_1 3 rfl⟩
set_option maxRecDepth 100000 in
theorem mw_58 : MOK 58 := ⟨mem_3 121 rfl, mem_1 3 rfl⟩
set_option maxRecDepth 100000 in
theorem mw_59 : MOK 59 := ⟨mem_3 158 rfl, mem_1 3 rfl⟩
set_option maxRecDepth 100000 in
theorem mw_60 : MOK 60 := ⟨mem_3 162 rfl, mem_1 3 rfl⟩
set_option maxRecDepth 100000 in
theorem mw_61 : MOK 61 := ⟨mem_3 166 rfl, mem_1 3 rfl⟩
set_option maxRecDepth 100000 in
theorem mw_62 : MOK 62 := ⟨mem_3 151 rfl, mem_1 3 rfl⟩
set_option maxRecDepth 100000 in
theorem mw_63 : MOK 63 := ⟨mem_3 154 rfl, mem_1 3 rfl⟩
set_option maxRecDepth 100000 in
theorem mw_64 : MOK 64 := ⟨mem_3 171 rfl, mem_1 3 rfl⟩
set_option maxRecDepth 100000 in
theorem mw_65 : MOK 65 := ⟨mem_3 130 rfl, mem_1 3 rfl⟩
set_option maxRecDepth 100000 in
theorem mw_66 : MOK 66 := ⟨mem_3 143 rfl, mem_1 3 rfl⟩
set_option maxRecDepth 100000 in
theorem mw_67 : MOK 67 := ⟨mem_3 118 rfl, mem_1 3 rfl⟩
set_option maxRecDepth 100000 in
theorem mw_68 : MOK 68 := ⟨mem_3 231 rfl, mem_1 3 rfl⟩
set_option maxRecDepth 100000 in
theorem mw_69 : MOK 69 := ⟨mem_1 181 rfl, mem_1 3 rfl⟩
set_option maxRecDepth 100000 in
theorem mw_70 : MOK 70 := ⟨mem_1 178 rfl, mem_1 3 rfl⟩
set_option maxRecDepth 100000 in
theorem mw_71 : MOK 71 := ⟨mem_1 120 rfl, mem_1 12 rfl⟩
set_option maxRecDepth 100000 in
theorem mw_72 : MOK 72 := ⟨mem_1 206 rfl, mem_1 12 rfl⟩
set_option maxRecDepth 100000 in
theorem mw_73 : MOK 73 := ⟨mem_2 224 rfl, mem_1 12 rfl⟩
set_option maxRecDepth 100000 in
theorem mw_74 : MOK 74 := ⟨mem_4 65 rfl, mem_1 2 rfl⟩
set_option maxRecDepth 100000 in
theorem mw_75 : MOK 75 := ⟨mem_2 53 rfl, mem_1 2 rfl⟩
set_option maxRecDepth 100000 in
theorem mw_76 : MOK 76 := ⟨mem_1 138 rfl, mem_1 2 rfl⟩
set_option maxRecDepth 100000 in
theorem mw_77 : MOK 77 := ⟨mem_3 235 rfl, mem_1 2 rfl⟩
set_option maxRecDepth 100000 in
theorem mw_78 : MOK 78 := ⟨mem_2 34 rfl, mem_1 2 rfl⟩
set_option maxRecDepth 100000 in
theorem mw_79 : MOK 79 := ⟨mem_1 159 rfl, mem_1 2 rfl⟩
set_option maxRecDepth 100000 in
theorem mw_80 : MOK 80 := ⟨mem_1 155 rfl, mem_1 2 rfl⟩
set_option maxRecDepth 100000 in
theorem mw_81 : MOK 81 := ⟨mem_1 151 rfl, mem_1 2 rfl⟩
set_option maxRecDepth 100000 in
theorem mw_82 : MOK 82 := ⟨mem_1 235 rfl, mem_1 2 rfl⟩
set_option maxRecDepth 100000 in
theorem mw_83 : MOK 83 := ⟨mem_1 163 rfl, mem_1 2 rfl⟩
set_option maxRecDepth 100000 in
theorem mw_84 : MOK 84 := ⟨mem_1 168 rfl, mem_1 2 rfl⟩
set_option maxRecDepth 100000 in
theorem mw_85 : MOK 85 := ⟨mem_2 0 rfl, mem_1 2 rfl⟩
set_option maxRecDepth 100000 in
theorem mw_86 : MOK 86 := ⟨mem_2 26 rfl, mem_1 2 rfl⟩
set_option maxRecDepth 100000 in
theorem mw_87 : MOK 87 := ⟨mem_2 9 rfl, mem_1 2 rfl⟩
set_option maxRecDepth 100000 in
theorem mw_88 : MOK 88 := ⟨mem_2 5 rfl, mem_1 2 rfl⟩
set_option maxRecDepth 100000 in
theorem mw_89 : MOK 89 := ⟨mem_4 60 rfl, mem_1 1 rfl⟩
set_option maxRecDepth 100000 in
theorem mw_90 : MOK 90 := ⟨mem_1 24 rfl, mem_1 1 rfl⟩
set_option maxRecDepth 100000 in
theorem mw_91 : MOK 91 := ⟨mem_3 104 rfl, mem_1 1 rfl⟩
set_option maxRecDepth 100000 in
theorem mw_92 : MOK 92 := ⟨mem_1 28 rfl, mem_1 1 rfl⟩
set_option maxRecDepth 100000 in
theorem mw_93 : MOK 93 := ⟨mem_1 142 rfl, mem_1 1 rfl⟩
set_option maxRecDepth 100000 in
theorem mw_94 : MOK 94 := ⟨mem_1 212 rfl, mem_1 1 rfl⟩
set_option maxRecDepth 100000 in
theorem mw_95 : MOK 95 := ⟨mem_1 216 rfl, mem_1 1 rfl⟩
set_option maxRecDepth 100000 in
theorem mw_96 : MOK 96 := ⟨mem_1 223 rfl, mem_1 1 rfl⟩
set_option maxRecDepth 100000 in
theorem mw_97 : MOK 97 := ⟨mem_1 227 rfl, mem_1 1 rfl⟩
set_option maxRecDepth 100000 in
theorem mw_98 : MOK 98 := ⟨mem_1 231 rfl, mem_1 1 rfl⟩
set_option maxRecDepth 100000 in
theorem mw_99 : MOK 99 := ⟨mem_2 22 rfl, mem_1 1 rfl⟩
set_option maxRecDepth 100000 in
theorem mw_100 : MOK 100 := ⟨mem_2 38 rfl, mem_1 1 rfl⟩
set_option maxRecDepth 100000 in
theorem mw_101 : MOK 101 := ⟨mem_2 42 rfl, mem_1 1 rfl⟩
set_option maxRecDepth 100000 in
theorem mw_102 : MOK 102 := ⟨mem_2 62 rfl, mem_1 1 rfl⟩
set_option maxRecDepth 100000 in
theorem mw_103 : MOK 103 := ⟨mem_2 71 rfl, mem_1 1 rfl⟩
set_option maxRecDepth 100000 in
theorem mw_104 : MOK 104 := ⟨mem_2 96 rfl, mem_1 1 rfl⟩
set_option maxRecDepth 100000 in
theorem mw_105 : MOK 105 := ⟨mem_2 101 rfl, mem_1 1 rfl⟩
set_option maxRecDepth 100000 in
theorem mw_106 : MOK 106 := ⟨mem_2 105 rfl, mem_1 1 rfl⟩
set_option maxRecDepth 100000 in
theorem mw_107 : MOK 107 := ⟨mem_2 127 rfl, mem_1 1 rfl⟩
set_option maxRecDepth 100000 in
theorem mw_108 : MOK 108 := ⟨mem_2 135 rfl, mem_1 1 rfl⟩
set_option maxRecDepth 100000 in
theorem mw_109 : MOK 109 := ⟨mem_2 149 rfl, mem_1 1 rfl⟩
set_option maxRecDepth 100000 in
theorem mw_110 : MOK 110 := ⟨mem_2 155 rfl, mem_1 1 rfl⟩
set_option maxRecDepth 100000 in
theorem mw_111 : MOK 111 := ⟨mem_2 159 rfl, mem_1 1 rfl⟩
set_option maxRecDepth 100000 in
theorem mw_112 : MOK 112 := ⟨mem_2 167 rfl, mem_1 1 rfl⟩
set_option maxRecDepth 100000 in
theorem mw_113 : MOK 113 := ⟨mem_2 171 rfl, mem_1 1 rfl⟩
set_option maxRecDepth 100000 in
theorem mw_114 : MOK 114 := ⟨mem_2 175 rfl, mem_1 1 rfl⟩
set_option maxRecDepth 100000 in
theorem mw_115 : MOK 115 := ⟨mem_3 27 rfl, mem_1 1 rfl⟩
set_option maxRecDepth 100000 in
theorem mw_116 : MOK 116 := ⟨mem_3 31 rfl, mem_1 1 rfl⟩
set_option maxRecDepth 100000 in
theorem mw_117 : MOK 117 := ⟨mem_3 40 rfl, mem_1 1 rfl⟩
set_option maxRecDepth 100000 in
theorem mw_118 : MOK 118 := ⟨mem_3 50 rfl, mem_1 1 rfl⟩
set_option maxRecDepth 100000 in
theorem mw_119 : MOK 119 := ⟨mem_3 54 rfl, mem_1 1 rfl⟩
set_option maxRecDepth 100000 in
theorem mw_120 : MOK 120 := ⟨mem_1 146 rfl, mem_1 1 rfl⟩
set_option maxRecDepth 100000 in
theorem mw_121 : MOK 121 := ⟨mem_2 45 rfl, mem_1 1 rfl⟩
set_option maxRecDepth 100000 in
theorem mw_122 : MOK 122 := ⟨mem_2 138 rfl, mem_1 1 rfl⟩
set_option maxRecDepth 100000 in
theorem mw_123 : MOK 123 := ⟨mem_1 219 rfl, mem_1 1 rfl⟩
set_option maxRecDepth 100000 in
theorem mw_124 : MOK 124 := ⟨mem_3 34 rfl, mem_1 1 rfl⟩
set_option maxRecDepth 100000 in
theorem mw_125 : MOK 125 := ⟨mem_2 142 rfl, mem_1 1 rfl⟩
set_option maxRecDepth 100000 in
theorem mw_126 : MOK 126 := ⟨mem_2 145 rfl, mem_1 1 rfl⟩
set_option maxRecDepth 100000 in
theorem mw_127 : MOK 127 := ⟨mem_1 33 rfl, mem_1 1 rfl⟩
set_option maxRecDepth 100000 in
theorem mw_128 : MOK 128 := ⟨mem_3 134 rfl, mem_1 13 rfl⟩
set_option maxRecDepth 100000 in
theorem mw_129 : MOK 129 := ⟨mem_3 147 rfl, mem_1 13 rfl⟩
set_option maxRecDepth 100000 in
theorem mw_130 : MOK 130 := ⟨mem_3 64 rfl, mem_1 13 rfl⟩
set_option maxRecDepth 100000 in
theorem mw_131 : MOK 131 := ⟨mem_3 175 rfl, mem_1 13 rfl⟩
set_option maxRecDepth 100000 in
theorem mw_132 : MOK 132 := ⟨mem_3 179 rfl, mem_1 13 rfl⟩
set_option maxRecDepth 100000 in
theorem mw_133 : MOK 133 := ⟨mem_3 138 rfl, mem_1 13 rfl⟩
set_option maxRecDepth 100000 in
theorem mw_134 : MOK 134 := ⟨mem_3 68 rfl, mem_1 13 rfl⟩
set_option maxRecDepth 100000 in
theorem mw_135 : MOK 135 := ⟨mem_3 76 rfl, mem_1 13 rfl⟩
set_option maxRecDepth 100000 in
theorem mw_136 : MOK 136 := ⟨mem_3 73 rfl, mem_1 14 rfl⟩
set_option maxRecDepth 100000 in
theorem mw_137 : MOK 137 := ⟨mem_3 186 rfl, mem_1 14 rfl⟩
set_option maxRecDepth 100000 in
theorem mw_138 : MOK 138 := ⟨mem_3 183 rfl, mem_1 14 rfl⟩
set_option maxRecDepth 100000 in
theorem mw_139 : MOK 139 := ⟨mem_3 191 rfl, mem_1 14 rfl⟩
set_option maxRecDepth 100000 in
theorem mw_140 : MOK 140 := ⟨mem_3 81 rfl, mem_1 15 rfl⟩
set_option maxRecDepth 100000 in
theorem mw_141 : MOK 141 := ⟨mem_1 171 rfl, mem_1 19 rfl⟩
set_option maxRecDepth 100000 in
theorem mw_142 : MOK 142 := ⟨mem_2 29 rfl, mem_1 17 rfl⟩
set_option maxRecDepth 100000 in
theorem mw_143 : MOK 143 := ⟨mem_2 18 rfl, mem_1 17 rfl⟩
set_option maxRecDepth 100000 in
theorem mw_144 : MOK 144 := ⟨mem_3 218 rfl, mem_1 18 rfl⟩
set_option maxRecDepth 100000 in
theorem mw_145 : MOK 145 := ⟨mem_3 221 rfl, mem_1 18 rfl⟩
set_option maxRecDepth 100000 in
theorem mw_146 : MOK 146 := ⟨mem_3 225 rfl, mem_1 18 rfl⟩
