/-! the makers, walked on plain numbers -/
section XWK
variable {l : Launch} {C : xC} {M : xM} {pc nx : Nat} {ls : List (Option Value)} {st : List Value} {G G' G2 : xG} {I I' I2 : xI} {r : Option Value}
theorem XW.newK {idx c n a : Nat} (hd : xd M.2.1 pc (.new idx) 3 nx) (hN : xNw M.1.cls idx c n) (hg : gN G = a) (e1 : aO G c n = G2) (e2 : wN I a = I2) (hroom : gN G + 1 ≤ gN G' ∧ gS G + n ≤ gS G') (kk : XW l C M nx ls (.ref a :: st) G2 I2 r G' I') : XW l C M pc ls st G I r G' I' := by
  subst hg; subst e1; subst e2; exact XW.new hd hN hroom kk
theorem XW.newIK {n : Int32} {N a : Nat} (hd : xd M.2.1 pc (.newarray .int) 2 nx) (hn : ¬ n < 0) (hN : n.toNatClampNeg = N) (hbig : N ≤ 100000000) (hg : gN G = a) (e1 : aA G 100 N = G2) (e2 : wN I a = I2) (hroom : gN G + 1 ≤ gN G' ∧ gS G + N ≤ gS G') (kk : XW l C M nx ls (.ref a :: st) G2 I2 r G' I') : XW l C M pc ls (.int n :: st) G I r G' I' := by
  subst hg; subst e1; subst e2; exact XW.newI hd hn hN hbig hroom kk
theorem XW.newZK {n : Int32} {N a : Nat} (hd : xd M.2.1 pc (.newarray .boolean) 2 nx) (hn : ¬ n < 0) (hN : n.toNatClampNeg = N) (hbig : N ≤ 100000000) (hg : gN G = a) (e1 : aA G 101 N = G2) (e2 : wN I a = I2) (hroom : gN G + 1 ≤ gN G' ∧ gS G + N ≤ gS G') (kk : XW l C M nx ls (.ref a :: st) G2 I2 r G' I') : XW l C M pc ls (.int n :: st) G I r G' I' := by
  subst hg; subst e1; subst e2; exact XW.newZ hd hn hN hbig hroom kk
theorem XW.anewK {idx t : Nat} {nm : String} {n : Int32} {N a : Nat} (hd : xd M.2.1 pc (.anewarray idx) 3 nx) (ht : xAr t = some (.object nm)) (hp : 102 ≤ t) (ho : nm ∈ xOv) (hl : Cond.classLink M.1.cls idx nm ∈ xtbl) (hn : ¬ n < 0) (hN : n.toNatClampNeg = N) (hbig : N ≤ 100000000) (hg : gN G = a) (e1 : aA G t N = G2) (e2 : wN I a = I2) (hroom : gN G + 1 ≤ gN G' ∧ gS G + N ≤ gS G') (kk : XW l C M nx ls (.ref a :: st) G2 I2 r G' I') : XW l C M pc ls (.int n :: st) G I r G' I' := by
  subst hg; subst e1; subst e2; exact XW.anew hd ht hp ho hl hn hN hbig hroom kk
theorem XW.putIK {a idx c k : Nat} {x : Int32} (hd : xd M.2.1 pc (.putfield idx) 3 nx) (hF : xF M.1.cls idx c k) (hf : xP M c k) (hr : xrf c k = false) (hn : narrow (xTy c k) (.int x) = .int x ∧ fits (xTy c k) (.int x) = true) (ha : gO G a c) (e : wI I a k x = I2) (kk : XW l C M nx ls st G I2 r G' I') : XW l C M pc ls (.int x :: .ref a :: st) G I r G' I' := by
  subst e; exact XW.putI hd hF hf hr hn ha kk
theorem XW.putRK {a b idx c k : Nat} (hd : xd M.2.1 pc (.putfield idx) 3 nx) (hF : xF M.1.cls idx c k) (hf : xP M c k) (hr : xrf c k = true) (ha : gO G a c) (e : wR G a k b = G2) (kk : XW l C M nx ls st G2 I r G' I') : XW l C M pc ls (.ref b :: .ref a :: st) G I r G' I' := by
  subst e; exact XW.putR hd hF hf hr ha kk
theorem XW.iastoreK {a n k : Nat} {i x : Int32} (hd : xd M.2.1 pc .iastore 1 nx) (ha : gA G a 100 n) (hi : vp_in i n) (hk : i.toNatClampNeg = k) (e : wI I a k x = I2) (kk : XW l C M nx ls st G I2 r G' I') : XW l C M pc ls (.int x :: .int i :: .ref a :: st) G I r G' I' := by
  subst hk; subst e; exact XW.iastore hd ha hi kk
theorem XW.aastoreK {a t n b c k : Nat} {q : vw_C} {nm : String} {i : Int32} (hd : xd M.2.1 pc .aastore 1 nx) (ha : gA G a t n) (ht : xAr t = some (.object nm)) (hp : 102 ≤ t) (hi : vp_in i n) (hb : gO G b c) (hc : vwCl[c]? = some q) (hy : q.1 = nm ∨ (q.1, nm) ∈ xYes) (hk : i.toNatClampNeg = k) (e : wR G a k b = G2) (kk : XW l C M nx ls st G2 I r G' I') : XW l C M pc ls (.ref b :: .int i :: .ref a :: st) G I r G' I' := by
  subst hk; subst e; exact XW.aastore hd ha ht hp hi hb hc hy kk
end XWK
def K1 : xG := aO xG0 9 8
def J1 : xI := wN xI0 2
def K2 : xG := aO K1 6 4
def J2 : xI := wN J1 3
def K3 : xG := aA K2 102 4
def J3 : xI := wN J2 4
def K4 : xG := wR K3 3 0 4
def J4 : xI := wI J3 3 1 1
def J5 : xI := wI J4 3 2 8
def J6 : xI := wI J5 3 3 16
def K5 : xG := aO K4 2 2
def J7 : xI := wN J6 5
def J8 : xI := wI J7 5 1 1
def J9 : xI := wI J8 5 0 4
def K6 : xG := wR K5 4 0 5
def K7 : xG := wR K6 2 0 3
def K8 : xG := aA K7 103 4
def J10 : xI := wN J9 6
def K9 : xG := wR K8 2 1 6
def K10 : xG := aA K9 104 4
def J11 : xI := wN J10 7
def K11 : xG := wR K10 2 2 7
def K12 : xG := aO K11 5 19
def J12 : xI := wN J11 8
def K13 : xG := aA K12 105 4
def J13 : xI := wN J12 9
def K14 : xG := wR K13 8 1 9
def K15 : xG := aA K14 100 80
def J14 : xI := wN J13 10
def K16 : xG := wR K15 8 2 10
def K17 : xG := aA K16 100 80
def J15 : xI := wN J14 11
def K18 : xG := wR K17 8 3 11
def K19 : xG := aA K18 100 80
def J16 : xI := wN J15 12
def K20 : xG := wR K19 8 4 12
def K21 : xG := aA K20 100 80
def J17 : xI := wN J16 13
def K22 : xG := wR K21 8 5 13
def K23 : xG := aA K22 100 80
def J18 : xI := wN J17 14
def K24 : xG := wR K23 8 6 14
def K25 : xG := aA K24 100 4
def J19 : xI := wN J18 15
def K26 : xG := wR K25 8 7 15
def K27 : xG := aA K26 100 4
def J20 : xI := wN J19 16
def K28 : xG := wR K27 8 8 16
def K29 : xG := aA K28 100 4
def J21 : xI := wN J20 17
def K30 : xG := wR K29 8 9 17
def K31 : xG := wR K30 8 0 3
def K32 : xG := aO K31 3 3
def J22 : xI := wN J21 18
def K33 : xG := aA K32 100 12
def J23 : xI := wN J22 19
def K34 : xG := wR K33 18 0 19
def K35 : xG := wR K34 9 0 18
def K36 : xG := aO K35 3 3
def J24 : xI := wN J23 20
def K37 : xG := aA K36 100 12
def J25 : xI := wN J24 21
def K38 : xG := wR K37 20 0 21
def K39 : xG := wR K38 9 1 20
def K40 : xG := aO K39 3 3
def J26 : xI := wN J25 22
def K41 : xG := aA K40 100 12
def J27 : xI := wN J26 23
def K42 : xG := wR K41 22 0 23
def K43 : xG := wR K42 9 2 22
def K44 : xG := aO K43 3 3
def J28 : xI := wN J27 24
def K45 : xG := aA K44 100 12
def J29 : xI := wN J28 25
def K46 : xG := wR K45 24 0 25
def K47 : xG := wR K46 9 3 24
def K48 : xG := wR K47 2 3 8
def K49 : xG := aO K48 5 19
def J30 : xI := wN J29 26
def K50 : xG := aA K49 105 4
def J31 : xI := wN J30 27
def K51 : xG := wR K50 26 1 27
def K52 : xG := aA K51 100 80
def J32 : xI := wN J31 28
def K53 : xG := wR K52 26 2 28
def K54 : xG := aA K53 100 80
def J33 : xI := wN J32 29
def K55 : xG := wR K54 26 3 29
def K56 : xG := aA K55 100 80
def J34 : xI := wN J33 30
def K57 : xG := wR K56 26 4 30
def K58 : xG := aA K57 100 80
def J35 : xI := wN J34 31
def K59 : xG := wR K58 26 5 31
def K60 : xG := aA K59 100 80
def J36 : xI := wN J35 32
def K61 : xG := wR K60 26 6 32
def K62 : xG := aA K61 100 4
def J37 : xI := wN J36 33
def K63 : xG := wR K62 26 7 33
def K64 : xG := aA K63 100 4
def J38 : xI := wN J37 34
def K65 : xG := wR K64 26 8 34
def K66 : xG := aA K65 100 4
def J39 : xI := wN J38 35
def K67 : xG := wR K66 26 9 35
def K68 : xG := wR K67 26 0 3
def K69 : xG := aO K68 3 3
def J40 : xI := wN J39 36
def K70 : xG := aA K69 100 12
def J41 : xI := wN J40 37
def K71 : xG := wR K70 36 0 37
def K72 : xG := wR K71 27 0 36
def K73 : xG := aO K72 3 3
def J42 : xI := wN J41 38
def K74 : xG := aA K73 100 12
def J43 : xI := wN J42 39
def K75 : xG := wR K74 38 0 39
def K76 : xG := wR K75 27 1 38
def K77 : xG := aO K76 3 3
def J44 : xI := wN J43 40
def K78 : xG := aA K77 100 12
def J45 : xI := wN J44 41
def K79 : xG := wR K78 40 0 41
def K80 : xG := wR K79 27 2 40
def K81 : xG := aO K80 3 3
def J46 : xI := wN J45 42
def K82 : xG := aA K81 100 12
def J47 : xI := wN J46 43
def K83 : xG := wR K82 42 0 43
def K84 : xG := wR K83 27 3 42
def K85 : xG := wR K84 2 4 26
def K86 : xG := aO K85 0 5
def J48 : xI := wN J47 44
def K87 : xG := aA K86 100 80
def J49 : xI := wN J48 45
def K88 : xG := wR K87 44 1 45
def K89 : xG := aA K88 100 80
def J50 : xI := wN J49 46
def K90 : xG := wR K89 44 2 46
def K91 : xG := aA K90 100 4
def J51 : xI := wN J50 47
def K92 : xG := wR K91 44 3 47
def K93 : xG := aA K92 100 4
def J52 : xI := wN J51 48
def K94 : xG := wR K93 44 4 48
def K95 : xG := wR K94 44 0 3
def K96 : xG := wR K95 2 5 44
def J53 : xI := wI J52 2 7 (-1)
def K97 : xG := aO K96 4 4
def J54 : xI := wN J53 49
def K98 : xG := aA K97 100 80
def J55 : xI := wN J54 50
def K99 : xG := wR K98 49 0 50
def K100 : xG := aA K99 100 80
def J56 : xI := wN J55 51
def K101 : xG := wR K100 49 1 51
def K102 : xG := wR K101 6 0 49
def K103 : xG := aO K102 4 4
def J57 : xI := wN J56 52
def K104 : xG := aA K103 100 80
def J58 : xI := wN J57 53
def K105 : xG := wR K104 52 0 53
def K106 : xG := aA K105 100 80
def J59 : xI := wN J58 54
def K107 : xG := wR K106 52 1 54
def K108 : xG := wR K107 6 1 52
def K109 : xG := aO K108 4 4
def J60 : xI := wN J59 55
def K110 : xG := aA K109 100 80
def J61 : xI := wN J60 56
def K111 : xG := wR K110 55 0 56
def K112 : xG := aA K111 100 80
def J62 : xI := wN J61 57
def K113 : xG := wR K112 55 1 57
def K114 : xG := wR K113 6 2 55
def K115 : xG := aO K114 4 4
def J63 : xI := wN J62 58
def K116 : xG := aA K115 100 80
def J64 : xI := wN J63 59
def K117 : xG := wR K116 58 0 59
def K118 : xG := aA K117 100 80
def J65 : xI := wN J64 60
def K119 : xG := wR K118 58 1 60
def K120 : xG := wR K119 6 3 58
def K121 : xG := aO K120 7 4
def J66 : xI := wN J65 61
def K122 : xG := aA K121 100 160
def J67 : xI := wN J66 62
def K123 : xG := wR K122 61 1 62
def K124 : xG := wR K123 7 0 61
def K125 : xG := aO K124 7 4
def J68 : xI := wN J67 63
def K126 : xG := aA K125 100 160
def J69 : xI := wN J68 64
def K127 : xG := wR K126 63 1 64
def K128 : xG := wR K127 7 1 63
def K129 : xG := aO K128 7 4
def J70 : xI := wN J69 65
def K130 : xG := aA K129 100 160
def J71 : xI := wN J70 66
def K131 : xG := wR K130 65 1 66
def K132 : xG := wR K131 7 2 65
def K133 : xG := aO K132 7 4
def J72 : xI := wN J71 67
def K134 : xG := aA K133 100 160
def J73 : xI := wN J72 68
def K135 : xG := wR K134 67 1 68
def K136 : xG := wR K135 7 3 67
def K137 : xG := aO K136 10 45
def J74 : xI := wN J73 69
def J75 : xI := wI J74 69 0 8
def J76 : xI := wI J75 69 1 1
def K138 : xG := aA K137 100 4
def J77 : xI := wN J76 70
def K139 : xG := wR K138 69 2 70
def K140 : xG := aA K139 100 4
def J78 : xI := wN J77 71
def K141 : xG := wR K140 69 3 71
def K142 : xG := aA K141 100 4
def J79 : xI := wN J78 72
def K143 : xG := wR K142 69 4 72
def K144 : xG := aA K143 100 4
def J80 : xI := wN J79 73
def K145 : xG := wR K144 69 5 73
def K146 : xG := aA K145 100 4
def J81 : xI := wN J80 74
def K147 : xG := wR K146 69 6 74
def K148 : xG := aA K147 100 4
def J82 : xI := wN J81 75
def K149 : xG := wR K148 69 7 75
def K150 : xG := aA K149 100 4
def J83 : xI := wN J82 76
def K151 : xG := wR K150 69 8 76
def J84 : xI := wI J83 69 9 16
def K152 : xG := aA K151 100 4
def J85 : xI := wN J84 77
def K153 : xG := wR K152 69 10 77
def K154 : xG := aA K153 100 4
def J86 : xI := wN J85 78
def K155 : xG := wR K154 69 11 78
def K156 : xG := aA K155 100 640
def J87 : xI := wN J86 79
def K157 : xG := wR K156 69 12 79
def K158 : xG := aA K157 100 160
def J88 : xI := wN J87 80
def K159 : xG := wR K158 69 13 80
def K160 : xG := aA K159 100 4
def J89 : xI := wN J88 81
def K161 : xG := wR K160 69 14 81
def K162 : xG := aA K161 100 320
def J90 : xI := wN J89 82
def K163 : xG := wR K162 69 15 82
def K164 : xG := aA K163 100 320
def J91 : xI := wN J90 83
def K165 : xG := wR K164 69 16 83
def K166 : xG := aA K165 101 4
def J92 : xI := wN J91 84
def K167 : xG := wR K166 69 17 84
def K168 : xG := aA K167 100 320
def J93 : xI := wN J92 85
def K169 : xG := wR K168 69 23 85
def K170 : xG := aA K169 100 4
def J94 : xI := wN J93 86
def K171 : xG := wR K170 69 24 86
def K172 : xG := aA K171 100 4
def J95 : xI := wN J94 87
def K173 : xG := wR K172 69 25 87
def K174 : xG := aA K173 100 4
def J96 : xI := wN J95 88
def K175 : xG := wR K174 69 26 88
def K176 : xG := aA K175 101 4
def J97 : xI := wN J96 89
def K177 : xG := wR K176 69 27 89
def K178 : xG := aA K177 101 1600
def J98 : xI := wN J97 90
def K179 : xG := wR K178 69 28 90
def K180 : xG := aA K179 100 80
def J99 : xI := wN J98 91
def K181 : xG := wR K180 69 29 91
def K182 : xG := aA K181 100 80
def J100 : xI := wN J99 92
def K183 : xG := wR K182 69 30 92
def K184 : xG := aA K183 100 80
def J101 : xI := wN J100 93
def K185 : xG := wR K184 69 31 93
def K186 : xG := aA K185 100 5
def J102 : xI := wN J101 94
def K187 : xG := wR K186 69 32 94
def K188 : xG := aA K187 100 1600
def J103 : xI := wN J102 95
def K189 : xG := wR K188 69 33 95
def K190 : xG := aA K189 100 80
def J104 : xI := wN J103 96
def K191 : xG := wR K190 69 37 96
def K192 : xG := aA K191 100 80
def J105 : xI := wN J104 97
def K193 : xG := wR K192 69 38 97
def K194 : xG := aA K193 100 80
def J106 : xI := wN J105 98
def K195 : xG := wR K194 69 39 98
def K196 : xG := aA K195 100 80
def J107 : xI := wN J106 99
def K197 : xG := wR K196 69 40 99
def K198 : xG := aA K197 100 5
def J108 : xI := wN J107 100
def K199 : xG := wR K198 69 41 100
def K200 : xG := aA K199 100 28561
def J109 : xI := wN J108 101
def K201 : xG := wR K200 69 42 101
def K202 : xG := aA K201 100 28561
def J110 : xI := wN J109 102
def K203 : xG := wR K202 69 43 102
def J111 : xI := wI J110 69 44 (-1)
def J112 : xI := wI J111 71 0 4
def J113 : xI := wI J112 72 0 1
def J114 : xI := wI J113 77 0 (-1)
def J115 : xI := wI J114 77 1 (-1)
def J116 : xI := wI J115 77 2 (-1)
def J117 : xI := wI J116 77 3 (-1)
section Wks
variable {l : Launch} {C : xC}
theorem W3_X2_init : XW l C mX2_init 0 (xent mX2_init [.ref 5, .int 4]) [] K5 J7 none K5 J9 := by
  show XW l C mX2_init 0 [some (.ref 5), some (.int 4)] [] K5 J7 none K5 J9
  refine XW.aload_n eX2_init_0 rfl ?_
  refine XW.objInit eX2_init_1 oi2_3 (by decide) (Nat.le_of_ble_eq_true rfl) (Nat.le_of_ble_eq_true rfl) ?_
  refine XW.aload_n eX2_init_4 rfl ?_
  refine XW.iconst (v := 1) eX2_init_5 (by decide) ?_
  refine XW.putIK (I2 := J8) eX2_init_6 f2_9_2 (xP_of rfl (by decide)) rfl ⟨rfl, rfl⟩ ⟨by decide, by decide +kernel, by decide +kernel⟩ rfl ?_
  refine XW.aload_n eX2_init_9 rfl ?_
  refine XW.iload_n eX2_init_10 rfl ?_
  refine XW.putIK (I2 := J9) eX2_init_11 f2_15_2 (xP_of rfl (by decide)) rfl ⟨rfl, rfl⟩ ⟨by decide, by decide +kernel, by decide +kernel⟩ rfl ?_
  exact XW.vret eX2_init_14 rfl rfl rfl rfl
theorem W2_X6_init : XW l C mX6_init 0 (xent mX6_init [.ref 3]) [] K2 J2 none K6 J9 := by
  show XW l C mX6_init 0 [some (.ref 3)] [] K2 J2 none K6 J9
  refine XW.aload_n eX6_init_0 rfl ?_
  refine XW.objInit eX6_init_1 oi6_3 (by decide) (Nat.le_of_ble_eq_true rfl) (Nat.le_of_ble_eq_true rfl) ?_
  refine XW.aload_n eX6_init_4 rfl ?_
  refine XW.iconst (v := 4) eX6_init_5 (by decide) ?_
  refine XW.anewK (a := 4) (G2 := K3) (I2 := J3) (t := 102) (nm := "LetterStore$Line") (N := 4) eX6_init_6 rfl (by decide) (by decide) cl6_9 (by decide) (by decide) (by decide) (by decide +kernel) rfl rfl ⟨by decide +kernel, by decide +kernel⟩ ?_
  refine XW.putRK (G2 := K4) eX6_init_9 f6_11_6 (xP_of rfl (by decide)) rfl ⟨by decide, by decide +kernel, by decide +kernel⟩ rfl ?_
  refine XW.aload_n eX6_init_12 rfl ?_
  refine XW.iconst (v := 1) eX6_init_13 (by decide) ?_
  refine XW.putIK (I2 := J4) eX6_init_14 f6_17_6 (xP_of rfl (by decide)) rfl ⟨rfl, rfl⟩ ⟨by decide, by decide +kernel, by decide +kernel⟩ rfl ?_
  refine XW.aload_n eX6_init_17 rfl ?_
  refine XW.bipush (v := 8) eX6_init_18 (by decide) ?_
  refine XW.putIK (I2 := J5) eX6_init_20 f6_21_6 (xP_of rfl (by decide)) rfl ⟨rfl, rfl⟩ ⟨by decide, by decide +kernel, by decide +kernel⟩ rfl ?_
  refine XW.aload_n eX6_init_23 rfl ?_
  refine XW.bipush (v := 16) eX6_init_24 (by decide) ?_
  refine XW.putIK (I2 := J6) eX6_init_26 f6_24_6 (xP_of rfl (by decide)) rfl ⟨rfl, rfl⟩ ⟨by decide, by decide +kernel, by decide +kernel⟩ rfl ?_
  refine XW.aload_n eX6_init_29 rfl ?_
  refine XW.getR (b := 4) eX6_init_30 f6_11_6 rfl ⟨by decide, by decide +kernel, by decide +kernel⟩ (by decide +kernel) ?_
  refine XW.iconst (v := 0) eX6_init_33 (by decide) ?_
  refine XW.newK (a := 5) (G2 := K5) (I2 := J7) eX6_init_34 nw6_9 (by decide +kernel) rfl rfl ⟨by decide +kernel, by decide +kernel⟩ ?_
  refine XW.dup eX6_init_37 rfl ?_
  refine XW.iconst (v := 4) eX6_init_38 (by decide) ?_
  refine XW.callI (As := [.int 4]) (st := [.ref 5, .int 0, .ref 4]) eX6_init_39 okX2_init ci6_27 rfl (by decide) W3_X2_init (xnumG rfl rfl rfl rfl rfl (by decide +kernel) (by decide +kernel) (by decide +kernel) (by decide +kernel)) ?_
  refine XW.aastoreK (t := 102) (c := 2) (k := 0) (n := 4) (G2 := K6) eX6_init_42 ⟨by decide, by decide +kernel, by decide +kernel, by decide +kernel⟩ rfl (by decide) (vp_in_nI (n := 0) (by decide) (by decide)) ⟨by decide, by decide +kernel, by decide +kernel⟩ rfl (Or.inl rfl) (by decide) rfl ?_
  exact XW.vret eX6_init_43 rfl rfl rfl rfl
theorem W5_X3_init : XW l C mX3_init 0 (xent mX3_init [.ref 18]) [] K32 J22 none K34 J23 := by
  show XW l C mX3_init 0 [some (.ref 18)] [] K32 J22 none K34 J23
  refine XW.aload_n eX3_init_0 rfl ?_
  refine XW.objInit eX3_init_1 oi3_3 (by decide) (Nat.le_of_ble_eq_true rfl) (Nat.le_of_ble_eq_true rfl) ?_
  refine XW.aload_n eX3_init_4 rfl ?_
  refine XW.bipush (v := 12) eX3_init_5 (by decide) ?_
  refine XW.newIK (a := 19) (G2 := K33) (I2 := J23) (N := 12) eX3_init_7 (by decide) (by decide) (by decide) (by decide +kernel) rfl rfl ⟨by decide +kernel, by decide +kernel⟩ ?_
  refine XW.putRK (G2 := K34) eX3_init_9 f3_9_3 (xP_of rfl (by decide)) rfl ⟨by decide, by decide +kernel, by decide +kernel⟩ rfl ?_
  exact XW.vret eX3_init_12 rfl rfl rfl rfl
theorem W6_X3_init : XW l C mX3_init 0 (xent mX3_init [.ref 20]) [] K36 J24 none K38 J25 := by
  show XW l C mX3_init 0 [some (.ref 20)] [] K36 J24 none K38 J25
  refine XW.aload_n eX3_init_0 rfl ?_
  refine XW.objInit eX3_init_1 oi3_3 (by decide) (Nat.le_of_ble_eq_true rfl) (Nat.le_of_ble_eq_true rfl) ?_
  refine XW.aload_n eX3_init_4 rfl ?_
  refine XW.bipush (v := 12) eX3_init_5 (by decide) ?_
  refine XW.newIK (a := 21) (G2 := K37) (I2 := J25) (N := 12) eX3_init_7 (by decide) (by decide) (by decide) (by decide +kernel) rfl rfl ⟨by decide +kernel, by decide +kernel⟩ ?_
  refine XW.putRK (G2 := K38) eX3_init_9 f3_9_3 (xP_of rfl (by decide)) rfl ⟨by decide, by decide +kernel, by decide +kernel⟩ rfl ?_
  exact XW.vret eX3_init_12 rfl rfl rfl rfl
theorem W7_X3_init : XW l C mX3_init 0 (xent mX3_init [.ref 22]) [] K40 J26 none K42 J27 := by
  show XW l C mX3_init 0 [some (.ref 22)] [] K40 J26 none K42 J27
  refine XW.aload_n eX3_init_0 rfl ?_
  refine XW.objInit eX3_init_1 oi3_3 (by decide) (Nat.le_of_ble_eq_true rfl) (Nat.le_of_ble_eq_true rfl) ?_
  refine XW.aload_n eX3_init_4 rfl ?_
  refine XW.bipush (v := 12) eX3_init_5 (by decide) ?_
  refine XW.newIK (a := 23) (G2 := K41) (I2 := J27) (N := 12) eX3_init_7 (by decide) (by decide) (by decide) (by decide +kernel) rfl rfl ⟨by decide +kernel, by decide +kernel⟩ ?_
  refine XW.putRK (G2 := K42) eX3_init_9 f3_9_3 (xP_of rfl (by decide)) rfl ⟨by decide, by decide +kernel, by decide +kernel⟩ rfl ?_
  exact XW.vret eX3_init_12 rfl rfl rfl rfl
theorem W8_X3_init : XW l C mX3_init 0 (xent mX3_init [.ref 24]) [] K44 J28 none K46 J29 := by
  show XW l C mX3_init 0 [some (.ref 24)] [] K44 J28 none K46 J29
  refine XW.aload_n eX3_init_0 rfl ?_
  refine XW.objInit eX3_init_1 oi3_3 (by decide) (Nat.le_of_ble_eq_true rfl) (Nat.le_of_ble_eq_true rfl) ?_
  refine XW.aload_n eX3_init_4 rfl ?_
  refine XW.bipush (v := 12) eX3_init_5 (by decide) ?_
  refine XW.newIK (a := 25) (G2 := K45) (I2 := J29) (N := 12) eX3_init_7 (by decide) (by decide) (by decide) (by decide +kernel) rfl rfl ⟨by decide +kernel, by decide +kernel⟩ ?_
  refine XW.putRK (G2 := K46) eX3_init_9 f3_9_3 (xP_of rfl (by decide)) rfl ⟨by decide, by decide +kernel, by decide +kernel⟩ rfl ?_
  exact XW.vret eX3_init_12 rfl rfl rfl rfl
theorem W4_X5_init : XW l C mX5_init 0 (xent mX5_init [.ref 8, .ref 3]) [] K12 J12 none K47 J29 := by
  show XW l C mX5_init 0 [some (.ref 8), some (.ref 3), none] [] K12 J12 none K47 J29
  refine XW.aload_n eX5_init_0 rfl ?_
  refine XW.objInit eX5_init_1 oi5_3 (by decide) (Nat.le_of_ble_eq_true rfl) (Nat.le_of_ble_eq_true rfl) ?_
  refine XW.aload_n eX5_init_4 rfl ?_
  refine XW.iconst (v := 4) eX5_init_5 (by decide) ?_
  refine XW.anewK (a := 9) (G2 := K13) (I2 := J13) (t := 105) (nm := "LetterStore$Queue") (N := 4) eX5_init_6 rfl (by decide) (by decide) cl5_9 (by decide) (by decide) (by decide) (by decide +kernel) rfl rfl ⟨by decide +kernel, by decide +kernel⟩ ?_
  refine XW.putRK (G2 := K14) eX5_init_9 f5_11_5 (xP_of rfl (by decide)) rfl ⟨by decide, by decide +kernel, by decide +kernel⟩ rfl ?_
  refine XW.aload_n eX5_init_12 rfl ?_
  refine XW.bipush (v := 80) eX5_init_13 (by decide) ?_
  refine XW.newIK (a := 10) (G2 := K15) (I2 := J14) (N := 80) eX5_init_15 (by decide) (by decide) (by decide) (by decide +kernel) rfl rfl ⟨by decide +kernel, by decide +kernel⟩ ?_
  refine XW.putRK (G2 := K16) eX5_init_17 f5_17_5 (xP_of rfl (by decide)) rfl ⟨by decide, by decide +kernel, by decide +kernel⟩ rfl ?_
  refine XW.aload_n eX5_init_20 rfl ?_
  refine XW.bipush (v := 80) eX5_init_21 (by decide) ?_
  refine XW.newIK (a := 11) (G2 := K17) (I2 := J15) (N := 80) eX5_init_23 (by decide) (by decide) (by decide) (by decide +kernel) rfl rfl ⟨by decide +kernel, by decide +kernel⟩ ?_
  refine XW.putRK (G2 := K18) eX5_init_25 f5_21_5 (xP_of rfl (by decide)) rfl ⟨by decide, by decide +kernel, by decide +kernel⟩ rfl ?_
  refine XW.aload_n eX5_init_28 rfl ?_
  refine XW.bipush (v := 80) eX5_init_29 (by decide) ?_
  refine XW.newIK (a := 12) (G2 := K19) (I2 := J16) (N := 80) eX5_init_31 (by decide) (by decide) (by decide) (by decide +kernel) rfl rfl ⟨by decide +kernel, by decide +kernel⟩ ?_
  refine XW.putRK (G2 := K20) eX5_init_33 f5_24_5 (xP_of rfl (by decide)) rfl ⟨by decide, by decide +kernel, by decide +kernel⟩ rfl ?_
  refine XW.aload_n eX5_init_36 rfl ?_
  refine XW.bipush (v := 80) eX5_init_37 (by decide) ?_
  refine XW.newIK (a := 13) (G2 := K21) (I2 := J17) (N := 80) eX5_init_39 (by decide) (by decide) (by decide) (by decide +kernel) rfl rfl ⟨by decide +kernel, by decide +kernel⟩ ?_
  refine XW.putRK (G2 := K22) eX5_init_41 f5_27_5 (xP_of rfl (by decide)) rfl ⟨by decide, by decide +kernel, by decide +kernel⟩ rfl ?_
  refine XW.aload_n eX5_init_44 rfl ?_
  refine XW.bipush (v := 80) eX5_init_45 (by decide) ?_
  refine XW.newIK (a := 14) (G2 := K23) (I2 := J18) (N := 80) eX5_init_47 (by decide) (by decide) (by decide) (by decide +kernel) rfl rfl ⟨by decide +kernel, by decide +kernel⟩ ?_
  refine XW.putRK (G2 := K24) eX5_init_49 f5_30_5 (xP_of rfl (by decide)) rfl ⟨by decide, by decide +kernel, by decide +kernel⟩ rfl ?_
  refine XW.aload_n eX5_init_52 rfl ?_
  refine XW.iconst (v := 4) eX5_init_53 (by decide) ?_
  refine XW.newIK (a := 15) (G2 := K25) (I2 := J19) (N := 4) eX5_init_54 (by decide) (by decide) (by decide) (by decide +kernel) rfl rfl ⟨by decide +kernel, by decide +kernel⟩ ?_
  refine XW.putRK (G2 := K26) eX5_init_56 f5_33_5 (xP_of rfl (by decide)) rfl ⟨by decide, by decide +kernel, by decide +kernel⟩ rfl ?_
  refine XW.aload_n eX5_init_59 rfl ?_
  refine XW.iconst (v := 4) eX5_init_60 (by decide) ?_
  refine XW.newIK (a := 16) (G2 := K27) (I2 := J20) (N := 4) eX5_init_61 (by decide) (by decide) (by decide) (by decide +kernel) rfl rfl ⟨by decide +kernel, by decide +kernel⟩ ?_
  refine XW.putRK (G2 := K28) eX5_init_63 f5_36_5 (xP_of rfl (by decide)) rfl ⟨by decide, by decide +kernel, by decide +kernel⟩ rfl ?_
  refine XW.aload_n eX5_init_66 rfl ?_
  refine XW.iconst (v := 4) eX5_init_67 (by decide) ?_
  refine XW.newIK (a := 17) (G2 := K29) (I2 := J21) (N := 4) eX5_init_68 (by decide) (by decide) (by decide) (by decide +kernel) rfl rfl ⟨by decide +kernel, by decide +kernel⟩ ?_
  refine XW.putRK (G2 := K30) eX5_init_70 f5_39_5 (xP_of rfl (by decide)) rfl ⟨by decide, by decide +kernel, by decide +kernel⟩ rfl ?_
  refine XW.aload_n eX5_init_73 rfl ?_
  refine XW.aload_n eX5_init_74 rfl ?_
  refine XW.putRK (G2 := K31) eX5_init_75 f5_42_5 (xP_of rfl (by decide)) rfl ⟨by decide, by decide +kernel, by decide +kernel⟩ rfl ?_
  refine XW.iconst (v := 0) eX5_init_78 (by decide) ?_
  refine XW.istore_n (ls' := [some (.ref 8), some (.ref 3), some (.int 0)]) eX5_init_79 (Nat.le_of_ble_eq_true rfl) rfl ?_
  refine XW.iload_n eX5_init_80 rfl ?_
  refine XW.iconst (v := 4) eX5_init_81 (by decide) ?_
  refine XW.icmp_ge eX5_init_82 (fun h => absurd h (by decide)) (fun _ => ?_)
  refine XW.aload_n eX5_init_85 rfl ?_
  refine XW.getR (b := 9) eX5_init_86 f5_11_5 rfl ⟨by decide, by decide +kernel, by decide +kernel⟩ (by decide +kernel) ?_
  refine XW.iload_n eX5_init_89 rfl ?_
  refine XW.newK (a := 18) (G2 := K32) (I2 := J22) eX5_init_90 nw5_9 (by decide +kernel) rfl rfl ⟨by decide +kernel, by decide +kernel⟩ ?_
  refine XW.dup eX5_init_93 rfl ?_
  refine XW.callIN (As := []) (st := [.ref 18, .int 0, .ref 9]) eX5_init_94 okX3_init cn5_46 rfl (by decide) W5_X3_init (xnumG rfl rfl rfl rfl rfl (by decide +kernel) (by decide +kernel) (by decide +kernel) (by decide +kernel)) ?_
  refine XW.aastoreK (t := 105) (c := 3) (k := 0) (n := 4) (G2 := K35) eX5_init_97 ⟨by decide, by decide +kernel, by decide +kernel, by decide +kernel⟩ rfl (by decide) (vp_in_nI (n := 0) (by decide) (by decide)) ⟨by decide, by decide +kernel, by decide +kernel⟩ rfl (Or.inl rfl) (by decide) rfl ?_
  refine XW.iinc (y := 1) (ls' := [some (.ref 8), some (.ref 3), some (.int 1)]) eX5_init_98 rfl (by decide) rfl ?_
  refine XW.goto eX5_init_101 ?_
  refine XW.iload_n eX5_init_80 rfl ?_
  refine XW.iconst (v := 4) eX5_init_81 (by decide) ?_
  refine XW.icmp_ge eX5_init_82 (fun h => absurd h (by decide)) (fun _ => ?_)
  refine XW.aload_n eX5_init_85 rfl ?_
  refine XW.getR (b := 9) eX5_init_86 f5_11_5 rfl ⟨by decide, by decide +kernel, by decide +kernel⟩ (by decide +kernel) ?_
  refine XW.iload_n eX5_init_89 rfl ?_
  refine XW.newK (a := 20) (G2 := K36) (I2 := J24) eX5_init_90 nw5_9 (by decide +kernel) rfl rfl ⟨by decide +kernel, by decide +kernel⟩ ?_
  refine XW.dup eX5_init_93 rfl ?_
  refine XW.callIN (As := []) (st := [.ref 20, .int 1, .ref 9]) eX5_init_94 okX3_init cn5_46 rfl (by decide) W6_X3_init (xnumG rfl rfl rfl rfl rfl (by decide +kernel) (by decide +kernel) (by decide +kernel) (by decide +kernel)) ?_
  refine XW.aastoreK (t := 105) (c := 3) (k := 1) (n := 4) (G2 := K39) eX5_init_97 ⟨by decide, by decide +kernel, by decide +kernel, by decide +kernel⟩ rfl (by decide) (vp_in_nI (n := 1) (by decide) (by decide)) ⟨by decide, by decide +kernel, by decide +kernel⟩ rfl (Or.inl rfl) (by decide) rfl ?_
  refine XW.iinc (y := 2) (ls' := [some (.ref 8), some (.ref 3), some (.int 2)]) eX5_init_98 rfl (by decide) rfl ?_
  refine XW.goto eX5_init_101 ?_
  refine XW.iload_n eX5_init_80 rfl ?_
  refine XW.iconst (v := 4) eX5_init_81 (by decide) ?_
  refine XW.icmp_ge eX5_init_82 (fun h => absurd h (by decide)) (fun _ => ?_)
  refine XW.aload_n eX5_init_85 rfl ?_
  refine XW.getR (b := 9) eX5_init_86 f5_11_5 rfl ⟨by decide, by decide +kernel, by decide +kernel⟩ (by decide +kernel) ?_
  refine XW.iload_n eX5_init_89 rfl ?_
  refine XW.newK (a := 22) (G2 := K40) (I2 := J26) eX5_init_90 nw5_9 (by decide +kernel) rfl rfl ⟨by decide +kernel, by decide +kernel⟩ ?_
  refine XW.dup eX5_init_93 rfl ?_
  refine XW.callIN (As := []) (st := [.ref 22, .int 2, .ref 9]) eX5_init_94 okX3_init cn5_46 rfl (by decide) W7_X3_init (xnumG rfl rfl rfl rfl rfl (by decide +kernel) (by decide +kernel) (by decide +kernel) (by decide +kernel)) ?_
  refine XW.aastoreK (t := 105) (c := 3) (k := 2) (n := 4) (G2 := K43) eX5_init_97 ⟨by decide, by decide +kernel, by decide +kernel, by decide +kernel⟩ rfl (by decide) (vp_in_nI (n := 2) (by decide) (by decide)) ⟨by decide, by decide +kernel, by decide +kernel⟩ rfl (Or.inl rfl) (by decide) rfl ?_
  refine XW.iinc (y := 3) (ls' := [some (.ref 8), some (.ref 3), some (.int 3)]) eX5_init_98 rfl (by decide) rfl ?_
  refine XW.goto eX5_init_101 ?_
  refine XW.iload_n eX5_init_80 rfl ?_
  refine XW.iconst (v := 4) eX5_init_81 (by decide) ?_
  refine XW.icmp_ge eX5_init_82 (fun h => absurd h (by decide)) (fun _ => ?_)
  refine XW.aload_n eX5_init_85 rfl ?_
  refine XW.getR (b := 9) eX5_init_86 f5_11_5 rfl ⟨by decide, by decide +kernel, by decide +kernel⟩ (by decide +kernel) ?_
  refine XW.iload_n eX5_init_89 rfl ?_
  refine XW.newK (a := 24) (G2 := K44) (I2 := J28) eX5_init_90 nw5_9 (by decide +kernel) rfl rfl ⟨by decide +kernel, by decide +kernel⟩ ?_
  refine XW.dup eX5_init_93 rfl ?_
  refine XW.callIN (As := []) (st := [.ref 24, .int 3, .ref 9]) eX5_init_94 okX3_init cn5_46 rfl (by decide) W8_X3_init (xnumG rfl rfl rfl rfl rfl (by decide +kernel) (by decide +kernel) (by decide +kernel) (by decide +kernel)) ?_
  refine XW.aastoreK (t := 105) (c := 3) (k := 3) (n := 4) (G2 := K47) eX5_init_97 ⟨by decide, by decide +kernel, by decide +kernel, by decide +kernel⟩ rfl (by decide) (vp_in_nI (n := 3) (by decide) (by decide)) ⟨by decide, by decide +kernel, by decide +kernel⟩ rfl (Or.inl rfl) (by decide) rfl ?_
  refine XW.iinc (y := 4) (ls' := [some (.ref 8), some (.ref 3), some (.int 4)]) eX5_init_98 rfl (by decide) rfl ?_
  refine XW.goto eX5_init_101 ?_
  refine XW.iload_n eX5_init_80 rfl ?_
  refine XW.iconst (v := 4) eX5_init_81 (by decide) ?_
  refine XW.icmp_ge eX5_init_82 (fun _ => ?_) (fun h => absurd (by decide) h)
  exact XW.vret eX5_init_104 rfl rfl rfl rfl
theorem W10_X3_init : XW l C mX3_init 0 (xent mX3_init [.ref 36]) [] K69 J40 none K71 J41 := by
  show XW l C mX3_init 0 [some (.ref 36)] [] K69 J40 none K71 J41
  refine XW.aload_n eX3_init_0 rfl ?_
  refine XW.objInit eX3_init_1 oi3_3 (by decide) (Nat.le_of_ble_eq_true rfl) (Nat.le_of_ble_eq_true rfl) ?_
  refine XW.aload_n eX3_init_4 rfl ?_
  refine XW.bipush (v := 12) eX3_init_5 (by decide) ?_
  refine XW.newIK (a := 37) (G2 := K70) (I2 := J41) (N := 12) eX3_init_7 (by decide) (by decide) (by decide) (by decide +kernel) rfl rfl ⟨by decide +kernel, by decide +kernel⟩ ?_
  refine XW.putRK (G2 := K71) eX3_init_9 f3_9_3 (xP_of rfl (by decide)) rfl ⟨by decide, by decide +kernel, by decide +kernel⟩ rfl ?_
  exact XW.vret eX3_init_12 rfl rfl rfl rfl
theorem W11_X3_init : XW l C mX3_init 0 (xent mX3_init [.ref 38]) [] K73 J42 none K75 J43 := by
  show XW l C mX3_init 0 [some (.ref 38)] [] K73 J42 none K75 J43
  refine XW.aload_n eX3_init_0 rfl ?_
  refine XW.objInit eX3_init_1 oi3_3 (by decide) (Nat.le_of_ble_eq_true rfl) (Nat.le_of_ble_eq_true rfl) ?_
  refine XW.aload_n eX3_init_4 rfl ?_
  refine XW.bipush (v := 12) eX3_init_5 (by decide) ?_
  refine XW.newIK (a := 39) (G2 := K74) (I2 := J43) (N := 12) eX3_init_7 (by decide) (by decide) (by decide) (by decide +kernel) rfl rfl ⟨by decide +kernel, by decide +kernel⟩ ?_
  refine XW.putRK (G2 := K75) eX3_init_9 f3_9_3 (xP_of rfl (by decide)) rfl ⟨by decide, by decide +kernel, by decide +kernel⟩ rfl ?_
  exact XW.vret eX3_init_12 rfl rfl rfl rfl
theorem W12_X3_init : XW l C mX3_init 0 (xent mX3_init [.ref 40]) [] K77 J44 none K79 J45 := by
  show XW l C mX3_init 0 [some (.ref 40)] [] K77 J44 none K79 J45
  refine XW.aload_n eX3_init_0 rfl ?_
  refine XW.objInit eX3_init_1 oi3_3 (by decide) (Nat.le_of_ble_eq_true rfl) (Nat.le_of_ble_eq_true rfl) ?_
  refine XW.aload_n eX3_init_4 rfl ?_
  refine XW.bipush (v := 12) eX3_init_5 (by decide) ?_
  refine XW.newIK (a := 41) (G2 := K78) (I2 := J45) (N := 12) eX3_init_7 (by decide) (by decide) (by decide) (by decide +kernel) rfl rfl ⟨by decide +kernel, by decide +kernel⟩ ?_
  refine XW.putRK (G2 := K79) eX3_init_9 f3_9_3 (xP_of rfl (by decide)) rfl ⟨by decide, by decide +kernel, by decide +kernel⟩ rfl ?_
  exact XW.vret eX3_init_12 rfl rfl rfl rfl
theorem W13_X3_init : XW l C mX3_init 0 (xent mX3_init [.ref 42]) [] K81 J46 none K83 J47 := by
  show XW l C mX3_init 0 [some (.ref 42)] [] K81 J46 none K83 J47
  refine XW.aload_n eX3_init_0 rfl ?_
  refine XW.objInit eX3_init_1 oi3_3 (by decide) (Nat.le_of_ble_eq_true rfl) (Nat.le_of_ble_eq_true rfl) ?_
  refine XW.aload_n eX3_init_4 rfl ?_
  refine XW.bipush (v := 12) eX3_init_5 (by decide) ?_
  refine XW.newIK (a := 43) (G2 := K82) (I2 := J47) (N := 12) eX3_init_7 (by decide) (by decide) (by decide) (by decide +kernel) rfl rfl ⟨by decide +kernel, by decide +kernel⟩ ?_
  refine XW.putRK (G2 := K83) eX3_init_9 f3_9_3 (xP_of rfl (by decide)) rfl ⟨by decide, by decide +kernel, by decide +kernel⟩ rfl ?_
  exact XW.vret eX3_init_12 rfl rfl rfl rfl
theorem W9_X5_init : XW l C mX5_init 0 (xent mX5_init [.ref 26, .ref 3]) [] K49 J30 none K84 J47 := by
  show XW l C mX5_init 0 [some (.ref 26), some (.ref 3), none] [] K49 J30 none K84 J47
  refine XW.aload_n eX5_init_0 rfl ?_
  refine XW.objInit eX5_init_1 oi5_3 (by decide) (Nat.le_of_ble_eq_true rfl) (Nat.le_of_ble_eq_true rfl) ?_
  refine XW.aload_n eX5_init_4 rfl ?_
  refine XW.iconst (v := 4) eX5_init_5 (by decide) ?_
  refine XW.anewK (a := 27) (G2 := K50) (I2 := J31) (t := 105) (nm := "LetterStore$Queue") (N := 4) eX5_init_6 rfl (by decide) (by decide) cl5_9 (by decide) (by decide) (by decide) (by decide +kernel) rfl rfl ⟨by decide +kernel, by decide +kernel⟩ ?_
  refine XW.putRK (G2 := K51) eX5_init_9 f5_11_5 (xP_of rfl (by decide)) rfl ⟨by decide, by decide +kernel, by decide +kernel⟩ rfl ?_
  refine XW.aload_n eX5_init_12 rfl ?_
  refine XW.bipush (v := 80) eX5_init_13 (by decide) ?_
  refine XW.newIK (a := 28) (G2 := K52) (I2 := J32) (N := 80) eX5_init_15 (by decide) (by decide) (by decide) (by decide +kernel) rfl rfl ⟨by decide +kernel, by decide +kernel⟩ ?_
  refine XW.putRK (G2 := K53) eX5_init_17 f5_17_5 (xP_of rfl (by decide)) rfl ⟨by decide, by decide +kernel, by decide +kernel⟩ rfl ?_
  refine XW.aload_n eX5_init_20 rfl ?_
  refine XW.bipush (v := 80) eX5_init_21 (by decide) ?_
  refine XW.newIK (a := 29) (G2 := K54) (I2 := J33) (N := 80) eX5_init_23 (by decide) (by decide) (by decide) (by decide +kernel) rfl rfl ⟨by decide +kernel, by decide +kernel⟩ ?_
  refine XW.putRK (G2 := K55) eX5_init_25 f5_21_5 (xP_of rfl (by decide)) rfl ⟨by decide, by decide +kernel, by decide +kernel⟩ rfl ?_
  refine XW.aload_n eX5_init_28 rfl ?_
  refine XW.bipush (v := 80) eX5_init_29 (by decide) ?_
  refine XW.newIK (a := 30) (G2 := K56) (I2 := J34) (N := 80) eX5_init_31 (by decide) (by decide) (by decide) (by decide +kernel) rfl rfl ⟨by decide +kernel, by decide +kernel⟩ ?_
  refine XW.putRK (G2 := K57) eX5_init_33 f5_24_5 (xP_of rfl (by decide)) rfl ⟨by decide, by decide +kernel, by decide +kernel⟩ rfl ?_
  refine XW.aload_n eX5_init_36 rfl ?_
  refine XW.bipush (v := 80) eX5_init_37 (by decide) ?_
  refine XW.newIK (a := 31) (G2 := K58) (I2 := J35) (N := 80) eX5_init_39 (by decide) (by decide) (by decide) (by decide +kernel) rfl rfl ⟨by decide +kernel, by decide +kernel⟩ ?_
  refine XW.putRK (G2 := K59) eX5_init_41 f5_27_5 (xP_of rfl (by decide)) rfl ⟨by decide, by decide +kernel, by decide +kernel⟩ rfl ?_
  refine XW.aload_n eX5_init_44 rfl ?_
  refine XW.bipush (v := 80) eX5_init_45 (by decide) ?_
  refine XW.newIK (a := 32) (G2 := K60) (I2 := J36) (N := 80) eX5_init_47 (by decide) (by decide) (by decide) (by decide +kernel) rfl rfl ⟨by decide +kernel, by decide +kernel⟩ ?_
  refine XW.putRK (G2 := K61) eX5_init_49 f5_30_5 (xP_of rfl (by decide)) rfl ⟨by decide, by decide +kernel, by decide +kernel⟩ rfl ?_
  refine XW.aload_n eX5_init_52 rfl ?_
  refine XW.iconst (v := 4) eX5_init_53 (by decide) ?_
  refine XW.newIK (a := 33) (G2 := K62) (I2 := J37) (N := 4) eX5_init_54 (by decide) (by decide) (by decide) (by decide +kernel) rfl rfl ⟨by decide +kernel, by decide +kernel⟩ ?_
  refine XW.putRK (G2 := K63) eX5_init_56 f5_33_5 (xP_of rfl (by decide)) rfl ⟨by decide, by decide +kernel, by decide +kernel⟩ rfl ?_
  refine XW.aload_n eX5_init_59 rfl ?_
  refine XW.iconst (v := 4) eX5_init_60 (by decide) ?_
  refine XW.newIK (a := 34) (G2 := K64) (I2 := J38) (N := 4) eX5_init_61 (by decide) (by decide) (by decide) (by decide +kernel) rfl rfl ⟨by decide +kernel, by decide +kernel⟩ ?_
  refine XW.putRK (G2 := K65) eX5_init_63 f5_36_5 (xP_of rfl (by decide)) rfl ⟨by decide, by decide +kernel, by decide +kernel⟩ rfl ?_
  refine XW.aload_n eX5_init_66 rfl ?_
  refine XW.iconst (v := 4) eX5_init_67 (by decide) ?_
  refine XW.newIK (a := 35) (G2 := K66) (I2 := J39) (N := 4) eX5_init_68 (by decide) (by decide) (by decide) (by decide +kernel) rfl rfl ⟨by decide +kernel, by decide +kernel⟩ ?_
  refine XW.putRK (G2 := K67) eX5_init_70 f5_39_5 (xP_of rfl (by decide)) rfl ⟨by decide, by decide +kernel, by decide +kernel⟩ rfl ?_
  refine XW.aload_n eX5_init_73 rfl ?_
  refine XW.aload_n eX5_init_74 rfl ?_
  refine XW.putRK (G2 := K68) eX5_init_75 f5_42_5 (xP_of rfl (by decide)) rfl ⟨by decide, by decide +kernel, by decide +kernel⟩ rfl ?_
  refine XW.iconst (v := 0) eX5_init_78 (by decide) ?_
  refine XW.istore_n (ls' := [some (.ref 26), some (.ref 3), some (.int 0)]) eX5_init_79 (Nat.le_of_ble_eq_true rfl) rfl ?_
  refine XW.iload_n eX5_init_80 rfl ?_
  refine XW.iconst (v := 4) eX5_init_81 (by decide) ?_
  refine XW.icmp_ge eX5_init_82 (fun h => absurd h (by decide)) (fun _ => ?_)
  refine XW.aload_n eX5_init_85 rfl ?_
  refine XW.getR (b := 27) eX5_init_86 f5_11_5 rfl ⟨by decide, by decide +kernel, by decide +kernel⟩ (by decide +kernel) ?_
  refine XW.iload_n eX5_init_89 rfl ?_
  refine XW.newK (a := 36) (G2 := K69) (I2 := J40) eX5_init_90 nw5_9 (by decide +kernel) rfl rfl ⟨by decide +kernel, by decide +kernel⟩ ?_
  refine XW.dup eX5_init_93 rfl ?_
  refine XW.callIN (As := []) (st := [.ref 36, .int 0, .ref 27]) eX5_init_94 okX3_init cn5_46 rfl (by decide) W10_X3_init (xnumG rfl rfl rfl rfl rfl (by decide +kernel) (by decide +kernel) (by decide +kernel) (by decide +kernel)) ?_
  refine XW.aastoreK (t := 105) (c := 3) (k := 0) (n := 4) (G2 := K72) eX5_init_97 ⟨by decide, by decide +kernel, by decide +kernel, by decide +kernel⟩ rfl (by decide) (vp_in_nI (n := 0) (by decide) (by decide)) ⟨by decide, by decide +kernel, by decide +kernel⟩ rfl (Or.inl rfl) (by decide) rfl ?_
  refine XW.iinc (y := 1) (ls' := [some (.ref 26), some (.ref 3), some (.int 1)]) eX5_init_98 rfl (by decide) rfl ?_
  refine XW.goto eX5_init_101 ?_
  refine XW.iload_n eX5_init_80 rfl ?_
  refine XW.iconst (v := 4) eX5_init_81 (by decide) ?_
  refine XW.icmp_ge eX5_init_82 (fun h => absurd h (by decide)) (fun _ => ?_)
  refine XW.aload_n eX5_init_85 rfl ?_
  refine XW.getR (b := 27) eX5_init_86 f5_11_5 rfl ⟨by decide, by decide +kernel, by decide +kernel⟩ (by decide +kernel) ?_
  refine XW.iload_n eX5_init_89 rfl ?_
  refine XW.newK (a := 38) (G2 := K73) (I2 := J42) eX5_init_90 nw5_9 (by decide +kernel) rfl rfl ⟨by decide +kernel, by decide +kernel⟩ ?_
  refine XW.dup eX5_init_93 rfl ?_
  refine XW.callIN (As := []) (st := [.ref 38, .int 1, .ref 27]) eX5_init_94 okX3_init cn5_46 rfl (by decide) W11_X3_init (xnumG rfl rfl rfl rfl rfl (by decide +kernel) (by decide +kernel) (by decide +kernel) (by decide +kernel)) ?_
  refine XW.aastoreK (t := 105) (c := 3) (k := 1) (n := 4) (G2 := K76) eX5_init_97 ⟨by decide, by decide +kernel, by decide +kernel, by decide +kernel⟩ rfl (by decide) (vp_in_nI (n := 1) (by decide) (by decide)) ⟨by decide, by decide +kernel, by decide +kernel⟩ rfl (Or.inl rfl) (by decide) rfl ?_
  refine XW.iinc (y := 2) (ls' := [some (.ref 26), some (.ref 3), some (.int 2)]) eX5_init_98 rfl (by decide) rfl ?_
  refine XW.goto eX5_init_101 ?_
  refine XW.iload_n eX5_init_80 rfl ?_
  refine XW.iconst (v := 4) eX5_init_81 (by decide) ?_
  refine XW.icmp_ge eX5_init_82 (fun h => absurd h (by decide)) (fun _ => ?_)
  refine XW.aload_n eX5_init_85 rfl ?_
  refine XW.getR (b := 27) eX5_init_86 f5_11_5 rfl ⟨by decide, by decide +kernel, by decide +kernel⟩ (by decide +kernel) ?_
  refine XW.iload_n eX5_init_89 rfl ?_
  refine XW.newK (a := 40) (G2 := K77) (I2 := J44) eX5_init_90 nw5_9 (by decide +kernel) rfl rfl ⟨by decide +kernel, by decide +kernel⟩ ?_
  refine XW.dup eX5_init_93 rfl ?_
  refine XW.callIN (As := []) (st := [.ref 40, .int 2, .ref 27]) eX5_init_94 okX3_init cn5_46 rfl (by decide) W12_X3_init (xnumG rfl rfl rfl rfl rfl (by decide +kernel) (by decide +kernel) (by decide +kernel) (by decide +kernel)) ?_
  refine XW.aastoreK (t := 105) (c := 3) (k := 2) (n := 4) (G2 := K80) eX5_init_97 ⟨by decide, by decide +kernel, by decide +kernel, by decide +kernel⟩ rfl (by decide) (vp_in_nI (n := 2) (by decide) (by decide)) ⟨by decide, by decide +kernel, by decide +kernel⟩ rfl (Or.inl rfl) (by decide) rfl ?_
  refine XW.iinc (y := 3) (ls' := [some (.ref 26), some (.ref 3), some (.int 3)]) eX5_init_98 rfl (by decide) rfl ?_
  refine XW.goto eX5_init_101 ?_
  refine XW.iload_n eX5_init_80 rfl ?_
  refine XW.iconst (v := 4) eX5_init_81 (by decide) ?_
  refine XW.icmp_ge eX5_init_82 (fun h => absurd h (by decide)) (fun _ => ?_)
  refine XW.aload_n eX5_init_85 rfl ?_
  refine XW.getR (b := 27) eX5_init_86 f5_11_5 rfl ⟨by decide, by decide +kernel, by decide +kernel⟩ (by decide +kernel) ?_
  refine XW.iload_n eX5_init_89 rfl ?_
  refine XW.newK (a := 42) (G2 := K81) (I2 := J46) eX5_init_90 nw5_9 (by decide +kernel) rfl rfl ⟨by decide +kernel, by decide +kernel⟩ ?_
  refine XW.dup eX5_init_93 rfl ?_
  refine XW.callIN (As := []) (st := [.ref 42, .int 3, .ref 27]) eX5_init_94 okX3_init cn5_46 rfl (by decide) W13_X3_init (xnumG rfl rfl rfl rfl rfl (by decide +kernel) (by decide +kernel) (by decide +kernel) (by decide +kernel)) ?_
  refine XW.aastoreK (t := 105) (c := 3) (k := 3) (n := 4) (G2 := K84) eX5_init_97 ⟨by decide, by decide +kernel, by decide +kernel, by decide +kernel⟩ rfl (by decide) (vp_in_nI (n := 3) (by decide) (by decide)) ⟨by decide, by decide +kernel, by decide +kernel⟩ rfl (Or.inl rfl) (by decide) rfl ?_
  refine XW.iinc (y := 4) (ls' := [some (.ref 26), some (.ref 3), some (.int 4)]) eX5_init_98 rfl (by decide) rfl ?_
  refine XW.goto eX5_init_101 ?_
  refine XW.iload_n eX5_init_80 rfl ?_
  refine XW.iconst (v := 4) eX5_init_81 (by decide) ?_
  refine XW.icmp_ge eX5_init_82 (fun _ => ?_) (fun h => absurd (by decide) h)
  exact XW.vret eX5_init_104 rfl rfl rfl rfl
theorem W14_X0_init : XW l C mX0_init 0 (xent mX0_init [.ref 44, .ref 3]) [] K86 J48 none K95 J52 := by
  show XW l C mX0_init 0 [some (.ref 44), some (.ref 3)] [] K86 J48 none K95 J52
  refine XW.aload_n eX0_init_0 rfl ?_
  refine XW.objInit eX0_init_1 oi0_3 (by decide) (Nat.le_of_ble_eq_true rfl) (Nat.le_of_ble_eq_true rfl) ?_
  refine XW.aload_n eX0_init_4 rfl ?_
  refine XW.bipush (v := 80) eX0_init_5 (by decide) ?_
  refine XW.newIK (a := 45) (G2 := K87) (I2 := J49) (N := 80) eX0_init_7 (by decide) (by decide) (by decide) (by decide +kernel) rfl rfl ⟨by decide +kernel, by decide +kernel⟩ ?_
  refine XW.putRK (G2 := K88) eX0_init_9 f0_9_0 (xP_of rfl (by decide)) rfl ⟨by decide, by decide +kernel, by decide +kernel⟩ rfl ?_
  refine XW.aload_n eX0_init_12 rfl ?_
  refine XW.bipush (v := 80) eX0_init_13 (by decide) ?_
  refine XW.newIK (a := 46) (G2 := K89) (I2 := J50) (N := 80) eX0_init_15 (by decide) (by decide) (by decide) (by decide +kernel) rfl rfl ⟨by decide +kernel, by decide +kernel⟩ ?_
  refine XW.putRK (G2 := K90) eX0_init_17 f0_15_0 (xP_of rfl (by decide)) rfl ⟨by decide, by decide +kernel, by decide +kernel⟩ rfl ?_
  refine XW.aload_n eX0_init_20 rfl ?_
  refine XW.iconst (v := 4) eX0_init_21 (by decide) ?_
  refine XW.newIK (a := 47) (G2 := K91) (I2 := J51) (N := 4) eX0_init_22 (by decide) (by decide) (by decide) (by decide +kernel) rfl rfl ⟨by decide +kernel, by decide +kernel⟩ ?_
  refine XW.putRK (G2 := K92) eX0_init_24 f0_18_0 (xP_of rfl (by decide)) rfl ⟨by decide, by decide +kernel, by decide +kernel⟩ rfl ?_
  refine XW.aload_n eX0_init_27 rfl ?_
  refine XW.iconst (v := 4) eX0_init_28 (by decide) ?_
  refine XW.newIK (a := 48) (G2 := K93) (I2 := J52) (N := 4) eX0_init_29 (by decide) (by decide) (by decide) (by decide +kernel) rfl rfl ⟨by decide +kernel, by decide +kernel⟩ ?_
  refine XW.putRK (G2 := K94) eX0_init_31 f0_21_0 (xP_of rfl (by decide)) rfl ⟨by decide, by decide +kernel, by decide +kernel⟩ rfl ?_
  refine XW.aload_n eX0_init_34 rfl ?_
  refine XW.aload_n eX0_init_35 rfl ?_
  refine XW.putRK (G2 := K95) eX0_init_36 f0_24_0 (xP_of rfl (by decide)) rfl ⟨by decide, by decide +kernel, by decide +kernel⟩ rfl ?_
  exact XW.vret eX0_init_39 rfl rfl rfl rfl
theorem W15_X4_init : XW l C mX4_init 0 (xent mX4_init [.ref 49]) [] K97 J54 none K101 J56 := by
  show XW l C mX4_init 0 [some (.ref 49)] [] K97 J54 none K101 J56
  refine XW.aload_n eX4_init_0 rfl ?_
  refine XW.objInit eX4_init_1 oi4_3 (by decide) (Nat.le_of_ble_eq_true rfl) (Nat.le_of_ble_eq_true rfl) ?_
  refine XW.aload_n eX4_init_4 rfl ?_
  refine XW.bipush (v := 80) eX4_init_5 (by decide) ?_
  refine XW.newIK (a := 50) (G2 := K98) (I2 := J55) (N := 80) eX4_init_7 (by decide) (by decide) (by decide) (by decide +kernel) rfl rfl ⟨by decide +kernel, by decide +kernel⟩ ?_
  refine XW.putRK (G2 := K99) eX4_init_9 f4_9_4 (xP_of rfl (by decide)) rfl ⟨by decide, by decide +kernel, by decide +kernel⟩ rfl ?_
  refine XW.aload_n eX4_init_12 rfl ?_
  refine XW.bipush (v := 80) eX4_init_13 (by decide) ?_
  refine XW.newIK (a := 51) (G2 := K100) (I2 := J56) (N := 80) eX4_init_15 (by decide) (by decide) (by decide) (by decide +kernel) rfl rfl ⟨by decide +kernel, by decide +kernel⟩ ?_
  refine XW.putRK (G2 := K101) eX4_init_17 f4_15_4 (xP_of rfl (by decide)) rfl ⟨by decide, by decide +kernel, by decide +kernel⟩ rfl ?_
  exact XW.vret eX4_init_20 rfl rfl rfl rfl
theorem W16_X4_init : XW l C mX4_init 0 (xent mX4_init [.ref 52]) [] K103 J57 none K107 J59 := by
  show XW l C mX4_init 0 [some (.ref 52)] [] K103 J57 none K107 J59
  refine XW.aload_n eX4_init_0 rfl ?_
  refine XW.objInit eX4_init_1 oi4_3 (by decide) (Nat.le_of_ble_eq_true rfl) (Nat.le_of_ble_eq_true rfl) ?_
  refine XW.aload_n eX4_init_4 rfl ?_
  refine XW.bipush (v := 80) eX4_init_5 (by decide) ?_
  refine XW.newIK (a := 53) (G2 := K104) (I2 := J58) (N := 80) eX4_init_7 (by decide) (by decide) (by decide) (by decide +kernel) rfl rfl ⟨by decide +kernel, by decide +kernel⟩ ?_
  refine XW.putRK (G2 := K105) eX4_init_9 f4_9_4 (xP_of rfl (by decide)) rfl ⟨by decide, by decide +kernel, by decide +kernel⟩ rfl ?_
  refine XW.aload_n eX4_init_12 rfl ?_
  refine XW.bipush (v := 80) eX4_init_13 (by decide) ?_
  refine XW.newIK (a := 54) (G2 := K106) (I2 := J59) (N := 80) eX4_init_15 (by decide) (by decide) (by decide) (by decide +kernel) rfl rfl ⟨by decide +kernel, by decide +kernel⟩ ?_
  refine XW.putRK (G2 := K107) eX4_init_17 f4_15_4 (xP_of rfl (by decide)) rfl ⟨by decide, by decide +kernel, by decide +kernel⟩ rfl ?_
  exact XW.vret eX4_init_20 rfl rfl rfl rfl
theorem W17_X4_init : XW l C mX4_init 0 (xent mX4_init [.ref 55]) [] K109 J60 none K113 J62 := by
  show XW l C mX4_init 0 [some (.ref 55)] [] K109 J60 none K113 J62
  refine XW.aload_n eX4_init_0 rfl ?_
  refine XW.objInit eX4_init_1 oi4_3 (by decide) (Nat.le_of_ble_eq_true rfl) (Nat.le_of_ble_eq_true rfl) ?_
  refine XW.aload_n eX4_init_4 rfl ?_
  refine XW.bipush (v := 80) eX4_init_5 (by decide) ?_
  refine XW.newIK (a := 56) (G2 := K110) (I2 := J61) (N := 80) eX4_init_7 (by decide) (by decide) (by decide) (by decide +kernel) rfl rfl ⟨by decide +kernel, by decide +kernel⟩ ?_
  refine XW.putRK (G2 := K111) eX4_init_9 f4_9_4 (xP_of rfl (by decide)) rfl ⟨by decide, by decide +kernel, by decide +kernel⟩ rfl ?_
  refine XW.aload_n eX4_init_12 rfl ?_
  refine XW.bipush (v := 80) eX4_init_13 (by decide) ?_
  refine XW.newIK (a := 57) (G2 := K112) (I2 := J62) (N := 80) eX4_init_15 (by decide) (by decide) (by decide) (by decide +kernel) rfl rfl ⟨by decide +kernel, by decide +kernel⟩ ?_
  refine XW.putRK (G2 := K113) eX4_init_17 f4_15_4 (xP_of rfl (by decide)) rfl ⟨by decide, by decide +kernel, by decide +kernel⟩ rfl ?_
  exact XW.vret eX4_init_20 rfl rfl rfl rfl
theorem W18_X4_init : XW l C mX4_init 0 (xent mX4_init [.ref 58]) [] K115 J63 none K119 J65 := by
  show XW l C mX4_init 0 [some (.ref 58)] [] K115 J63 none K119 J65
  refine XW.aload_n eX4_init_0 rfl ?_
  refine XW.objInit eX4_init_1 oi4_3 (by decide) (Nat.le_of_ble_eq_true rfl) (Nat.le_of_ble_eq_true rfl) ?_
  refine XW.aload_n eX4_init_4 rfl ?_
  refine XW.bipush (v := 80) eX4_init_5 (by decide) ?_
  refine XW.newIK (a := 59) (G2 := K116) (I2 := J64) (N := 80) eX4_init_7 (by decide) (by decide) (by decide) (by decide +kernel) rfl rfl ⟨by decide +kernel, by decide +kernel⟩ ?_
  refine XW.putRK (G2 := K117) eX4_init_9 f4_9_4 (xP_of rfl (by decide)) rfl ⟨by decide, by decide +kernel, by decide +kernel⟩ rfl ?_
  refine XW.aload_n eX4_init_12 rfl ?_
  refine XW.bipush (v := 80) eX4_init_13 (by decide) ?_
  refine XW.newIK (a := 60) (G2 := K118) (I2 := J65) (N := 80) eX4_init_15 (by decide) (by decide) (by decide) (by decide +kernel) rfl rfl ⟨by decide +kernel, by decide +kernel⟩ ?_
  refine XW.putRK (G2 := K119) eX4_init_17 f4_15_4 (xP_of rfl (by decide)) rfl ⟨by decide, by decide +kernel, by decide +kernel⟩ rfl ?_
  exact XW.vret eX4_init_20 rfl rfl rfl rfl
theorem W19_X7_init : XW l C mX7_init 0 (xent mX7_init [.ref 61]) [] K121 J66 none K123 J67 := by
  show XW l C mX7_init 0 [some (.ref 61)] [] K121 J66 none K123 J67
  refine XW.aload_n eX7_init_0 rfl ?_
  refine XW.objInit eX7_init_1 oi7_3 (by decide) (Nat.le_of_ble_eq_true rfl) (Nat.le_of_ble_eq_true rfl) ?_
  refine XW.aload_n eX7_init_4 rfl ?_
  refine XW.sipush (v := 160) eX7_init_5 (by decide) ?_
  refine XW.newIK (a := 62) (G2 := K122) (I2 := J67) (N := 160) eX7_init_8 (by decide) (by decide) (by decide) (by decide +kernel) rfl rfl ⟨by decide +kernel, by decide +kernel⟩ ?_
  refine XW.putRK (G2 := K123) eX7_init_10 f7_9_7 (xP_of rfl (by decide)) rfl ⟨by decide, by decide +kernel, by decide +kernel⟩ rfl ?_
  exact XW.vret eX7_init_13 rfl rfl rfl rfl
theorem W20_X7_init : XW l C mX7_init 0 (xent mX7_init [.ref 63]) [] K125 J68 none K127 J69 := by
  show XW l C mX7_init 0 [some (.ref 63)] [] K125 J68 none K127 J69
  refine XW.aload_n eX7_init_0 rfl ?_
  refine XW.objInit eX7_init_1 oi7_3 (by decide) (Nat.le_of_ble_eq_true rfl) (Nat.le_of_ble_eq_true rfl) ?_
  refine XW.aload_n eX7_init_4 rfl ?_
  refine XW.sipush (v := 160) eX7_init_5 (by decide) ?_
  refine XW.newIK (a := 64) (G2 := K126) (I2 := J69) (N := 160) eX7_init_8 (by decide) (by decide) (by decide) (by decide +kernel) rfl rfl ⟨by decide +kernel, by decide +kernel⟩ ?_
  refine XW.putRK (G2 := K127) eX7_init_10 f7_9_7 (xP_of rfl (by decide)) rfl ⟨by decide, by decide +kernel, by decide +kernel⟩ rfl ?_
  exact XW.vret eX7_init_13 rfl rfl rfl rfl
theorem W21_X7_init : XW l C mX7_init 0 (xent mX7_init [.ref 65]) [] K129 J70 none K131 J71 := by
  show XW l C mX7_init 0 [some (.ref 65)] [] K129 J70 none K131 J71
  refine XW.aload_n eX7_init_0 rfl ?_
  refine XW.objInit eX7_init_1 oi7_3 (by decide) (Nat.le_of_ble_eq_true rfl) (Nat.le_of_ble_eq_true rfl) ?_
  refine XW.aload_n eX7_init_4 rfl ?_
  refine XW.sipush (v := 160) eX7_init_5 (by decide) ?_
  refine XW.newIK (a := 66) (G2 := K130) (I2 := J71) (N := 160) eX7_init_8 (by decide) (by decide) (by decide) (by decide +kernel) rfl rfl ⟨by decide +kernel, by decide +kernel⟩ ?_
  refine XW.putRK (G2 := K131) eX7_init_10 f7_9_7 (xP_of rfl (by decide)) rfl ⟨by decide, by decide +kernel, by decide +kernel⟩ rfl ?_
  exact XW.vret eX7_init_13 rfl rfl rfl rfl
theorem W22_X7_init : XW l C mX7_init 0 (xent mX7_init [.ref 67]) [] K133 J72 none K135 J73 := by
  show XW l C mX7_init 0 [some (.ref 67)] [] K133 J72 none K135 J73
  refine XW.aload_n eX7_init_0 rfl ?_
  refine XW.objInit eX7_init_1 oi7_3 (by decide) (Nat.le_of_ble_eq_true rfl) (Nat.le_of_ble_eq_true rfl) ?_
  refine XW.aload_n eX7_init_4 rfl ?_
  refine XW.sipush (v := 160) eX7_init_5 (by decide) ?_
  refine XW.newIK (a := 68) (G2 := K134) (I2 := J73) (N := 160) eX7_init_8 (by decide) (by decide) (by decide) (by decide +kernel) rfl rfl ⟨by decide +kernel, by decide +kernel⟩ ?_
  refine XW.putRK (G2 := K135) eX7_init_10 f7_9_7 (xP_of rfl (by decide)) rfl ⟨by decide, by decide +kernel, by decide +kernel⟩ rfl ?_
  exact XW.vret eX7_init_13 rfl rfl rfl rfl
theorem W1_X9_init : XW l C mX9_init 0 (xent mX9_init [.ref 2]) [] K1 J1 none K136 J73 := by
  show XW l C mX9_init 0 [some (.ref 2), none] [] K1 J1 none K136 J73
  refine XW.aload_n eX9_init_0 rfl ?_
  refine XW.objInit eX9_init_1 oi9_1 (by decide) (Nat.le_of_ble_eq_true rfl) (Nat.le_of_ble_eq_true rfl) ?_
  refine XW.aload_n eX9_init_4 rfl ?_
  refine XW.newK (a := 3) (G2 := K2) (I2 := J2) eX9_init_5 nw9_7 (by decide +kernel) rfl rfl ⟨by decide +kernel, by decide +kernel⟩ ?_
  refine XW.dup eX9_init_8 rfl ?_
  refine XW.callI (As := []) (st := [.ref 3, .ref 2]) eX9_init_9 okX6_init ci9_9 rfl (by decide) W2_X6_init (xnumG rfl rfl rfl rfl rfl (by decide +kernel) (by decide +kernel) (by decide +kernel) (by decide +kernel)) ?_
  refine XW.putRK (G2 := K7) eX9_init_12 f9_10_9 (xP_of rfl (by decide)) rfl ⟨by decide, by decide +kernel, by decide +kernel⟩ rfl ?_
  refine XW.aload_n eX9_init_15 rfl ?_
  refine XW.iconst (v := 4) eX9_init_16 (by decide) ?_
  refine XW.anewK (a := 6) (G2 := K8) (I2 := J10) (t := 103) (nm := "LetterStore$Row") (N := 4) eX9_init_17 rfl (by decide) (by decide) cl9_16 (by decide) (by decide) (by decide) (by decide +kernel) rfl rfl ⟨by decide +kernel, by decide +kernel⟩ ?_
  refine XW.putRK (G2 := K9) eX9_init_20 f9_18_9 (xP_of rfl (by decide)) rfl ⟨by decide, by decide +kernel, by decide +kernel⟩ rfl ?_
  refine XW.aload_n eX9_init_23 rfl ?_
  refine XW.iconst (v := 4) eX9_init_24 (by decide) ?_
  refine XW.anewK (a := 7) (G2 := K10) (I2 := J11) (t := 104) (nm := "LetterStore$Sheet") (N := 4) eX9_init_25 rfl (by decide) (by decide) cl9_22 (by decide) (by decide) (by decide) (by decide +kernel) rfl rfl ⟨by decide +kernel, by decide +kernel⟩ ?_
  refine XW.putRK (G2 := K11) eX9_init_28 f9_24_9 (xP_of rfl (by decide)) rfl ⟨by decide, by decide +kernel, by decide +kernel⟩ rfl ?_
  refine XW.aload_n eX9_init_31 rfl ?_
  refine XW.newK (a := 8) (G2 := K12) (I2 := J12) eX9_init_32 nw9_28 (by decide +kernel) rfl rfl ⟨by decide +kernel, by decide +kernel⟩ ?_
  refine XW.dup eX9_init_35 rfl ?_
  refine XW.aload_n eX9_init_36 rfl ?_
  refine XW.getR (b := 3) eX9_init_37 f9_10_9 rfl ⟨by decide, by decide +kernel, by decide +kernel⟩ (by decide +kernel) ?_
  refine XW.callI (As := [.ref 3]) (st := [.ref 8, .ref 2]) eX9_init_40 okX5_init ci9_30 rfl (by decide) W4_X5_init (xnumG rfl rfl rfl rfl rfl (by decide +kernel) (by decide +kernel) (by decide +kernel) (by decide +kernel)) ?_
  refine XW.putRK (G2 := K48) eX9_init_43 f9_33_9 (xP_of rfl (by decide)) rfl ⟨by decide, by decide +kernel, by decide +kernel⟩ rfl ?_
  refine XW.aload_n eX9_init_46 rfl ?_
  refine XW.newK (a := 26) (G2 := K49) (I2 := J30) eX9_init_47 nw9_28 (by decide +kernel) rfl rfl ⟨by decide +kernel, by decide +kernel⟩ ?_
  refine XW.dup eX9_init_50 rfl ?_
  refine XW.aload_n eX9_init_51 rfl ?_
  refine XW.getR (b := 3) eX9_init_52 f9_10_9 rfl ⟨by decide, by decide +kernel, by decide +kernel⟩ (by decide +kernel) ?_
  refine XW.callI (As := [.ref 3]) (st := [.ref 26, .ref 2]) eX9_init_55 okX5_init ci9_30 rfl (by decide) W9_X5_init (xnumG rfl rfl rfl rfl rfl (by decide +kernel) (by decide +kernel) (by decide +kernel) (by decide +kernel)) ?_
  refine XW.putRK (G2 := K85) eX9_init_58 f9_37_9 (xP_of rfl (by decide)) rfl ⟨by decide, by decide +kernel, by decide +kernel⟩ rfl ?_
  refine XW.aload_n eX9_init_61 rfl ?_
  refine XW.newK (a := 44) (G2 := K86) (I2 := J48) eX9_init_62 nw9_40 (by decide +kernel) rfl rfl ⟨by decide +kernel, by decide +kernel⟩ ?_
  refine XW.dup eX9_init_65 rfl ?_
  refine XW.aload_n eX9_init_66 rfl ?_
  refine XW.getR (b := 3) eX9_init_67 f9_10_9 rfl ⟨by decide, by decide +kernel, by decide +kernel⟩ (by decide +kernel) ?_
  refine XW.callI (As := [.ref 3]) (st := [.ref 44, .ref 2]) eX9_init_70 okX0_init ci9_42 rfl (by decide) W14_X0_init (xnumG rfl rfl rfl rfl rfl (by decide +kernel) (by decide +kernel) (by decide +kernel) (by decide +kernel)) ?_
  refine XW.putRK (G2 := K96) eX9_init_73 f9_43_9 (xP_of rfl (by decide)) rfl ⟨by decide, by decide +kernel, by decide +kernel⟩ rfl ?_
  refine XW.aload_n eX9_init_76 rfl ?_
  refine XW.iconst (v := (-1)) eX9_init_77 (by decide) ?_
  refine XW.putIK (I2 := J53) eX9_init_78 f9_47_9 (xP_of rfl (by decide)) rfl ⟨rfl, rfl⟩ ⟨by decide, by decide +kernel, by decide +kernel⟩ rfl ?_
  refine XW.iconst (v := 0) eX9_init_81 (by decide) ?_
  refine XW.istore_n (ls' := [some (.ref 2), some (.int 0)]) eX9_init_82 (Nat.le_of_ble_eq_true rfl) rfl ?_
  refine XW.iload_n eX9_init_83 rfl ?_
  refine XW.iconst (v := 4) eX9_init_84 (by decide) ?_
  refine XW.icmp_ge eX9_init_85 (fun h => absurd h (by decide)) (fun _ => ?_)
  refine XW.aload_n eX9_init_88 rfl ?_
  refine XW.getR (b := 6) eX9_init_89 f9_18_9 rfl ⟨by decide, by decide +kernel, by decide +kernel⟩ (by decide +kernel) ?_
  refine XW.iload_n eX9_init_92 rfl ?_
  refine XW.newK (a := 49) (G2 := K97) (I2 := J54) eX9_init_93 nw9_16 (by decide +kernel) rfl rfl ⟨by decide +kernel, by decide +kernel⟩ ?_
  refine XW.dup eX9_init_96 rfl ?_
  refine XW.callIN (As := []) (st := [.ref 49, .int 0, .ref 6]) eX9_init_97 okX4_init cn9_51 rfl (by decide) W15_X4_init (xnumG rfl rfl rfl rfl rfl (by decide +kernel) (by decide +kernel) (by decide +kernel) (by decide +kernel)) ?_
  refine XW.aastoreK (t := 103) (c := 4) (k := 0) (n := 4) (G2 := K102) eX9_init_100 ⟨by decide, by decide +kernel, by decide +kernel, by decide +kernel⟩ rfl (by decide) (vp_in_nI (n := 0) (by decide) (by decide)) ⟨by decide, by decide +kernel, by decide +kernel⟩ rfl (Or.inl rfl) (by decide) rfl ?_
  refine XW.iinc (y := 1) (ls' := [some (.ref 2), some (.int 1)]) eX9_init_101 rfl (by decide) rfl ?_
  refine XW.goto eX9_init_104 ?_
  refine XW.iload_n eX9_init_83 rfl ?_
  refine XW.iconst (v := 4) eX9_init_84 (by decide) ?_
  refine XW.icmp_ge eX9_init_85 (fun h => absurd h (by decide)) (fun _ => ?_)
  refine XW.aload_n eX9_init_88 rfl ?_
  refine XW.getR (b := 6) eX9_init_89 f9_18_9 rfl ⟨by decide, by decide +kernel, by decide +kernel⟩ (by decide +kernel) ?_
  refine XW.iload_n eX9_init_92 rfl ?_
  refine XW.newK (a := 52) (G2 := K103) (I2 := J57) eX9_init_93 nw9_16 (by decide +kernel) rfl rfl ⟨by decide +kernel, by decide +kernel⟩ ?_
  refine XW.dup eX9_init_96 rfl ?_
  refine XW.callIN (As := []) (st := [.ref 52, .int 1, .ref 6]) eX9_init_97 okX4_init cn9_51 rfl (by decide) W16_X4_init (xnumG rfl rfl rfl rfl rfl (by decide +kernel) (by decide +kernel) (by decide +kernel) (by decide +kernel)) ?_
  refine XW.aastoreK (t := 103) (c := 4) (k := 1) (n := 4) (G2 := K108) eX9_init_100 ⟨by decide, by decide +kernel, by decide +kernel, by decide +kernel⟩ rfl (by decide) (vp_in_nI (n := 1) (by decide) (by decide)) ⟨by decide, by decide +kernel, by decide +kernel⟩ rfl (Or.inl rfl) (by decide) rfl ?_
  refine XW.iinc (y := 2) (ls' := [some (.ref 2), some (.int 2)]) eX9_init_101 rfl (by decide) rfl ?_
  refine XW.goto eX9_init_104 ?_
  refine XW.iload_n eX9_init_83 rfl ?_
  refine XW.iconst (v := 4) eX9_init_84 (by decide) ?_
  refine XW.icmp_ge eX9_init_85 (fun h => absurd h (by decide)) (fun _ => ?_)
  refine XW.aload_n eX9_init_88 rfl ?_
  refine XW.getR (b := 6) eX9_init_89 f9_18_9 rfl ⟨by decide, by decide +kernel, by decide +kernel⟩ (by decide +kernel) ?_
  refine XW.iload_n eX9_init_92 rfl ?_
  refine XW.newK (a := 55) (G2 := K109) (I2 := J60) eX9_init_93 nw9_16 (by decide +kernel) rfl rfl ⟨by decide +kernel, by decide +kernel⟩ ?_
  refine XW.dup eX9_init_96 rfl ?_
  refine XW.callIN (As := []) (st := [.ref 55, .int 2, .ref 6]) eX9_init_97 okX4_init cn9_51 rfl (by decide) W17_X4_init (xnumG rfl rfl rfl rfl rfl (by decide +kernel) (by decide +kernel) (by decide +kernel) (by decide +kernel)) ?_
  refine XW.aastoreK (t := 103) (c := 4) (k := 2) (n := 4) (G2 := K114) eX9_init_100 ⟨by decide, by decide +kernel, by decide +kernel, by decide +kernel⟩ rfl (by decide) (vp_in_nI (n := 2) (by decide) (by decide)) ⟨by decide, by decide +kernel, by decide +kernel⟩ rfl (Or.inl rfl) (by decide) rfl ?_
  refine XW.iinc (y := 3) (ls' := [some (.ref 2), some (.int 3)]) eX9_init_101 rfl (by decide) rfl ?_
  refine XW.goto eX9_init_104 ?_
  refine XW.iload_n eX9_init_83 rfl ?_
  refine XW.iconst (v := 4) eX9_init_84 (by decide) ?_
  refine XW.icmp_ge eX9_init_85 (fun h => absurd h (by decide)) (fun _ => ?_)
  refine XW.aload_n eX9_init_88 rfl ?_
  refine XW.getR (b := 6) eX9_init_89 f9_18_9 rfl ⟨by decide, by decide +kernel, by decide +kernel⟩ (by decide +kernel) ?_
  refine XW.iload_n eX9_init_92 rfl ?_
  refine XW.newK (a := 58) (G2 := K115) (I2 := J63) eX9_init_93 nw9_16 (by decide +kernel) rfl rfl ⟨by decide +kernel, by decide +kernel⟩ ?_
  refine XW.dup eX9_init_96 rfl ?_
  refine XW.callIN (As := []) (st := [.ref 58, .int 3, .ref 6]) eX9_init_97 okX4_init cn9_51 rfl (by decide) W18_X4_init (xnumG rfl rfl rfl rfl rfl (by decide +kernel) (by decide +kernel) (by decide +kernel) (by decide +kernel)) ?_
  refine XW.aastoreK (t := 103) (c := 4) (k := 3) (n := 4) (G2 := K120) eX9_init_100 ⟨by decide, by decide +kernel, by decide +kernel, by decide +kernel⟩ rfl (by decide) (vp_in_nI (n := 3) (by decide) (by decide)) ⟨by decide, by decide +kernel, by decide +kernel⟩ rfl (Or.inl rfl) (by decide) rfl ?_
  refine XW.iinc (y := 4) (ls' := [some (.ref 2), some (.int 4)]) eX9_init_101 rfl (by decide) rfl ?_
  refine XW.goto eX9_init_104 ?_
  refine XW.iload_n eX9_init_83 rfl ?_
  refine XW.iconst (v := 4) eX9_init_84 (by decide) ?_
  refine XW.icmp_ge eX9_init_85 (fun _ => ?_) (fun h => absurd (by decide) h)
  refine XW.iconst (v := 0) eX9_init_107 (by decide) ?_
  refine XW.istore_n (ls' := [some (.ref 2), some (.int 0)]) eX9_init_108 (Nat.le_of_ble_eq_true rfl) rfl ?_
  refine XW.iload_n eX9_init_109 rfl ?_
  refine XW.iconst (v := 4) eX9_init_110 (by decide) ?_
  refine XW.icmp_ge eX9_init_111 (fun h => absurd h (by decide)) (fun _ => ?_)
  refine XW.aload_n eX9_init_114 rfl ?_
  refine XW.getR (b := 7) eX9_init_115 f9_24_9 rfl ⟨by decide, by decide +kernel, by decide +kernel⟩ (by decide +kernel) ?_
  refine XW.iload_n eX9_init_118 rfl ?_
  refine XW.newK (a := 61) (G2 := K121) (I2 := J66) eX9_init_119 nw9_22 (by decide +kernel) rfl rfl ⟨by decide +kernel, by decide +kernel⟩ ?_
  refine XW.dup eX9_init_122 rfl ?_
  refine XW.callIN (As := []) (st := [.ref 61, .int 0, .ref 7]) eX9_init_123 okX7_init cn9_52 rfl (by decide) W19_X7_init (xnumG rfl rfl rfl rfl rfl (by decide +kernel) (by decide +kernel) (by decide +kernel) (by decide +kernel)) ?_
  refine XW.aastoreK (t := 104) (c := 7) (k := 0) (n := 4) (G2 := K124) eX9_init_126 ⟨by decide, by decide +kernel, by decide +kernel, by decide +kernel⟩ rfl (by decide) (vp_in_nI (n := 0) (by decide) (by decide)) ⟨by decide, by decide +kernel, by decide +kernel⟩ rfl (Or.inl rfl) (by decide) rfl ?_
  refine XW.iinc (y := 1) (ls' := [some (.ref 2), some (.int 1)]) eX9_init_127 rfl (by decide) rfl ?_
  refine XW.goto eX9_init_130 ?_
  refine XW.iload_n eX9_init_109 rfl ?_
  refine XW.iconst (v := 4) eX9_init_110 (by decide) ?_
  refine XW.icmp_ge eX9_init_111 (fun h => absurd h (by decide)) (fun _ => ?_)
  refine XW.aload_n eX9_init_114 rfl ?_
  refine XW.getR (b := 7) eX9_init_115 f9_24_9 rfl ⟨by decide, by decide +kernel, by decide +kernel⟩ (by decide +kernel) ?_
  refine XW.iload_n eX9_init_118 rfl ?_
  refine XW.newK (a := 63) (G2 := K125) (I2 := J68) eX9_init_119 nw9_22 (by decide +kernel) rfl rfl ⟨by decide +kernel, by decide +kernel⟩ ?_
  refine XW.dup eX9_init_122 rfl ?_
  refine XW.callIN (As := []) (st := [.ref 63, .int 1, .ref 7]) eX9_init_123 okX7_init cn9_52 rfl (by decide) W20_X7_init (xnumG rfl rfl rfl rfl rfl (by decide +kernel) (by decide +kernel) (by decide +kernel) (by decide +kernel)) ?_
  refine XW.aastoreK (t := 104) (c := 7) (k := 1) (n := 4) (G2 := K128) eX9_init_126 ⟨by decide, by decide +kernel, by decide +kernel, by decide +kernel⟩ rfl (by decide) (vp_in_nI (n := 1) (by decide) (by decide)) ⟨by decide, by decide +kernel, by decide +kernel⟩ rfl (Or.inl rfl) (by decide) rfl ?_
  refine XW.iinc (y := 2) (ls' := [some (.ref 2), some (.int 2)]) eX9_init_127 rfl (by decide) rfl ?_
  refine XW.goto eX9_init_130 ?_
  refine XW.iload_n eX9_init_109 rfl ?_
  refine XW.iconst (v := 4) eX9_init_110 (by decide) ?_
  refine XW.icmp_ge eX9_init_111 (fun h => absurd h (by decide)) (fun _ => ?_)
  refine XW.aload_n eX9_init_114 rfl ?_
  refine XW.getR (b := 7) eX9_init_115 f9_24_9 rfl ⟨by decide, by decide +kernel, by decide +kernel⟩ (by decide +kernel) ?_
  refine XW.iload_n eX9_init_118 rfl ?_
  refine XW.newK (a := 65) (G2 := K129) (I2 := J70) eX9_init_119 nw9_22 (by decide +kernel) rfl rfl ⟨by decide +kernel, by decide +kernel⟩ ?_
  refine XW.dup eX9_init_122 rfl ?_
  refine XW.callIN (As := []) (st := [.ref 65, .int 2, .ref 7]) eX9_init_123 okX7_init cn9_52 rfl (by decide) W21_X7_init (xnumG rfl rfl rfl rfl rfl (by decide +kernel) (by decide +kernel) (by decide +kernel) (by decide +kernel)) ?_
  refine XW.aastoreK (t := 104) (c := 7) (k := 2) (n := 4) (G2 := K132) eX9_init_126 ⟨by decide, by decide +kernel, by decide +kernel, by decide +kernel⟩ rfl (by decide) (vp_in_nI (n := 2) (by decide) (by decide)) ⟨by decide, by decide +kernel, by decide +kernel⟩ rfl (Or.inl rfl) (by decide) rfl ?_
  refine XW.iinc (y := 3) (ls' := [some (.ref 2), some (.int 3)]) eX9_init_127 rfl (by decide) rfl ?_
  refine XW.goto eX9_init_130 ?_
  refine XW.iload_n eX9_init_109 rfl ?_
  refine XW.iconst (v := 4) eX9_init_110 (by decide) ?_
  refine XW.icmp_ge eX9_init_111 (fun h => absurd h (by decide)) (fun _ => ?_)
  refine XW.aload_n eX9_init_114 rfl ?_
  refine XW.getR (b := 7) eX9_init_115 f9_24_9 rfl ⟨by decide, by decide +kernel, by decide +kernel⟩ (by decide +kernel) ?_
  refine XW.iload_n eX9_init_118 rfl ?_
  refine XW.newK (a := 67) (G2 := K133) (I2 := J72) eX9_init_119 nw9_22 (by decide +kernel) rfl rfl ⟨by decide +kernel, by decide +kernel⟩ ?_
  refine XW.dup eX9_init_122 rfl ?_
  refine XW.callIN (As := []) (st := [.ref 67, .int 3, .ref 7]) eX9_init_123 okX7_init cn9_52 rfl (by decide) W22_X7_init (xnumG rfl rfl rfl rfl rfl (by decide +kernel) (by decide +kernel) (by decide +kernel) (by decide +kernel)) ?_
  refine XW.aastoreK (t := 104) (c := 7) (k := 3) (n := 4) (G2 := K136) eX9_init_126 ⟨by decide, by decide +kernel, by decide +kernel, by decide +kernel⟩ rfl (by decide) (vp_in_nI (n := 3) (by decide) (by decide)) ⟨by decide, by decide +kernel, by decide +kernel⟩ rfl (Or.inl rfl) (by decide) rfl ?_
  refine XW.iinc (y := 4) (ls' := [some (.ref 2), some (.int 4)]) eX9_init_127 rfl (by decide) rfl ?_
  refine XW.goto eX9_init_130 ?_
  refine XW.iload_n eX9_init_109 rfl ?_
  refine XW.iconst (v := 4) eX9_init_110 (by decide) ?_
  refine XW.icmp_ge eX9_init_111 (fun _ => ?_) (fun h => absurd (by decide) h)
  exact XW.vret eX9_init_133 rfl rfl rfl rfl
theorem W23_X10_init : XW l C mX10_init 0 (xent mX10_init [.ref 69]) [] K137 J74 none K203 J117 := by
  show XW l C mX10_init 0 [some (.ref 69), none] [] K137 J74 none K203 J117
  refine XW.aload_n eX10_init_0 rfl ?_
  refine XW.objInit eX10_init_1 oi10_1 (by decide) (Nat.le_of_ble_eq_true rfl) (Nat.le_of_ble_eq_true rfl) ?_
  refine XW.aload_n eX10_init_4 rfl ?_
  refine XW.bipush (v := 8) eX10_init_5 (by decide) ?_
  refine XW.putIK (I2 := J75) eX10_init_7 f10_7_10 (xP_of rfl (by decide)) rfl ⟨rfl, rfl⟩ ⟨by decide, by decide +kernel, by decide +kernel⟩ rfl ?_
  refine XW.aload_n eX10_init_10 rfl ?_
  refine XW.iconst (v := 1) eX10_init_11 (by decide) ?_
  refine XW.putIK (I2 := J76) eX10_init_12 f10_13_10 (xP_of rfl (by decide)) rfl ⟨rfl, rfl⟩ ⟨by decide, by decide +kernel, by decide +kernel⟩ rfl ?_
  refine XW.aload_n eX10_init_15 rfl ?_
  refine XW.iconst (v := 4) eX10_init_16 (by decide) ?_
  refine XW.newIK (a := 70) (G2 := K138) (I2 := J77) (N := 4) eX10_init_17 (by decide) (by decide) (by decide) (by decide +kernel) rfl rfl ⟨by decide +kernel, by decide +kernel⟩ ?_
  refine XW.putRK (G2 := K139) eX10_init_19 f10_16_10 (xP_of rfl (by decide)) rfl ⟨by decide, by decide +kernel, by decide +kernel⟩ rfl ?_
  refine XW.aload_n eX10_init_22 rfl ?_
  refine XW.iconst (v := 4) eX10_init_23 (by decide) ?_
  refine XW.newIK (a := 71) (G2 := K140) (I2 := J78) (N := 4) eX10_init_24 (by decide) (by decide) (by decide) (by decide +kernel) rfl rfl ⟨by decide +kernel, by decide +kernel⟩ ?_
  refine XW.putRK (G2 := K141) eX10_init_26 f10_20_10 (xP_of rfl (by decide)) rfl ⟨by decide, by decide +kernel, by decide +kernel⟩ rfl ?_
  refine XW.aload_n eX10_init_29 rfl ?_
  refine XW.iconst (v := 4) eX10_init_30 (by decide) ?_
  refine XW.newIK (a := 72) (G2 := K142) (I2 := J79) (N := 4) eX10_init_31 (by decide) (by decide) (by decide) (by decide +kernel) rfl rfl ⟨by decide +kernel, by decide +kernel⟩ ?_
  refine XW.putRK (G2 := K143) eX10_init_33 f10_23_10 (xP_of rfl (by decide)) rfl ⟨by decide, by decide +kernel, by decide +kernel⟩ rfl ?_
  refine XW.aload_n eX10_init_36 rfl ?_
  refine XW.iconst (v := 4) eX10_init_37 (by decide) ?_
  refine XW.newIK (a := 73) (G2 := K144) (I2 := J80) (N := 4) eX10_init_38 (by decide) (by decide) (by decide) (by decide +kernel) rfl rfl ⟨by decide +kernel, by decide +kernel⟩ ?_
  refine XW.putRK (G2 := K145) eX10_init_40 f10_26_10 (xP_of rfl (by decide)) rfl ⟨by decide, by decide +kernel, by decide +kernel⟩ rfl ?_
  refine XW.aload_n eX10_init_43 rfl ?_
  refine XW.iconst (v := 4) eX10_init_44 (by decide) ?_
  refine XW.newIK (a := 74) (G2 := K146) (I2 := J81) (N := 4) eX10_init_45 (by decide) (by decide) (by decide) (by decide +kernel) rfl rfl ⟨by decide +kernel, by decide +kernel⟩ ?_
  refine XW.putRK (G2 := K147) eX10_init_47 f10_29_10 (xP_of rfl (by decide)) rfl ⟨by decide, by decide +kernel, by decide +kernel⟩ rfl ?_
  refine XW.aload_n eX10_init_50 rfl ?_
  refine XW.iconst (v := 4) eX10_init_51 (by decide) ?_
  refine XW.newIK (a := 75) (G2 := K148) (I2 := J82) (N := 4) eX10_init_52 (by decide) (by decide) (by decide) (by decide +kernel) rfl rfl ⟨by decide +kernel, by decide +kernel⟩ ?_
  refine XW.putRK (G2 := K149) eX10_init_54 f10_32_10 (xP_of rfl (by decide)) rfl ⟨by decide, by decide +kernel, by decide +kernel⟩ rfl ?_
  refine XW.aload_n eX10_init_57 rfl ?_
  refine XW.iconst (v := 4) eX10_init_58 (by decide) ?_
  refine XW.newIK (a := 76) (G2 := K150) (I2 := J83) (N := 4) eX10_init_59 (by decide) (by decide) (by decide) (by decide +kernel) rfl rfl ⟨by decide +kernel, by decide +kernel⟩ ?_
  refine XW.putRK (G2 := K151) eX10_init_61 f10_35_10 (xP_of rfl (by decide)) rfl ⟨by decide, by decide +kernel, by decide +kernel⟩ rfl ?_
  refine XW.aload_n eX10_init_64 rfl ?_
  refine XW.bipush (v := 16) eX10_init_65 (by decide) ?_
  refine XW.putIK (I2 := J84) eX10_init_67 f10_38_10 (xP_of rfl (by decide)) rfl ⟨rfl, rfl⟩ ⟨by decide, by decide +kernel, by decide +kernel⟩ rfl ?_
  refine XW.aload_n eX10_init_70 rfl ?_
  refine XW.iconst (v := 4) eX10_init_71 (by decide) ?_
  refine XW.newIK (a := 77) (G2 := K152) (I2 := J85) (N := 4) eX10_init_72 (by decide) (by decide) (by decide) (by decide +kernel) rfl rfl ⟨by decide +kernel, by decide +kernel⟩ ?_
  refine XW.putRK (G2 := K153) eX10_init_74 f10_41_10 (xP_of rfl (by decide)) rfl ⟨by decide, by decide +kernel, by decide +kernel⟩ rfl ?_
  refine XW.aload_n eX10_init_77 rfl ?_
  refine XW.iconst (v := 4) eX10_init_78 (by decide) ?_
  refine XW.newIK (a := 78) (G2 := K154) (I2 := J86) (N := 4) eX10_init_79 (by decide) (by decide) (by decide) (by decide +kernel) rfl rfl ⟨by decide +kernel, by decide +kernel⟩ ?_
  refine XW.putRK (G2 := K155) eX10_init_81 f10_44_10 (xP_of rfl (by decide)) rfl ⟨by decide, by decide +kernel, by decide +kernel⟩ rfl ?_
  refine XW.aload_n eX10_init_84 rfl ?_
  refine XW.sipush (v := 640) eX10_init_85 (by decide) ?_
  refine XW.newIK (a := 79) (G2 := K156) (I2 := J87) (N := 640) eX10_init_88 (by decide) (by decide) (by decide) (by decide +kernel) rfl rfl ⟨by decide +kernel, by decide +kernel⟩ ?_
  refine XW.putRK (G2 := K157) eX10_init_90 f10_47_10 (xP_of rfl (by decide)) rfl ⟨by decide, by decide +kernel, by decide +kernel⟩ rfl ?_
  refine XW.aload_n eX10_init_93 rfl ?_
  refine XW.sipush (v := 160) eX10_init_94 (by decide) ?_
  refine XW.newIK (a := 80) (G2 := K158) (I2 := J88) (N := 160) eX10_init_97 (by decide) (by decide) (by decide) (by decide +kernel) rfl rfl ⟨by decide +kernel, by decide +kernel⟩ ?_
  refine XW.putRK (G2 := K159) eX10_init_99 f10_50_10 (xP_of rfl (by decide)) rfl ⟨by decide, by decide +kernel, by decide +kernel⟩ rfl ?_
  refine XW.aload_n eX10_init_102 rfl ?_
  refine XW.iconst (v := 4) eX10_init_103 (by decide) ?_
  refine XW.newIK (a := 81) (G2 := K160) (I2 := J89) (N := 4) eX10_init_104 (by decide) (by decide) (by decide) (by decide +kernel) rfl rfl ⟨by decide +kernel, by decide +kernel⟩ ?_
  refine XW.putRK (G2 := K161) eX10_init_106 f10_53_10 (xP_of rfl (by decide)) rfl ⟨by decide, by decide +kernel, by decide +kernel⟩ rfl ?_
  refine XW.aload_n eX10_init_109 rfl ?_
  refine XW.sipush (v := 320) eX10_init_110 (by decide) ?_
  refine XW.newIK (a := 82) (G2 := K162) (I2 := J90) (N := 320) eX10_init_113 (by decide) (by decide) (by decide) (by decide +kernel) rfl rfl ⟨by decide +kernel, by decide +kernel⟩ ?_
  refine XW.putRK (G2 := K163) eX10_init_115 f10_56_10 (xP_of rfl (by decide)) rfl ⟨by decide, by decide +kernel, by decide +kernel⟩ rfl ?_
  refine XW.aload_n eX10_init_118 rfl ?_
  refine XW.sipush (v := 320) eX10_init_119 (by decide) ?_
  refine XW.newIK (a := 83) (G2 := K164) (I2 := J91) (N := 320) eX10_init_122 (by decide) (by decide) (by decide) (by decide +kernel) rfl rfl ⟨by decide +kernel, by decide +kernel⟩ ?_
  refine XW.putRK (G2 := K165) eX10_init_124 f10_59_10 (xP_of rfl (by decide)) rfl ⟨by decide, by decide +kernel, by decide +kernel⟩ rfl ?_
  refine XW.aload_n eX10_init_127 rfl ?_
  refine XW.iconst (v := 4) eX10_init_128 (by decide) ?_
  refine XW.newZK (a := 84) (G2 := K166) (I2 := J92) (N := 4) eX10_init_129 (by decide) (by decide) (by decide) (by decide +kernel) rfl rfl ⟨by decide +kernel, by decide +kernel⟩ ?_
  refine XW.putRK (G2 := K167) eX10_init_131 f10_62_10 (xP_of rfl (by decide)) rfl ⟨by decide, by decide +kernel, by decide +kernel⟩ rfl ?_
  refine XW.aload_n eX10_init_134 rfl ?_
  refine XW.sipush (v := 320) eX10_init_135 (by decide) ?_
  refine XW.newIK (a := 85) (G2 := K168) (I2 := J93) (N := 320) eX10_init_138 (by decide) (by decide) (by decide) (by decide +kernel) rfl rfl ⟨by decide +kernel, by decide +kernel⟩ ?_
  refine XW.putRK (G2 := K169) eX10_init_140 f10_66_10 (xP_of rfl (by decide)) rfl ⟨by decide, by decide +kernel, by decide +kernel⟩ rfl ?_
  refine XW.aload_n eX10_init_143 rfl ?_
  refine XW.iconst (v := 4) eX10_init_144 (by decide) ?_
  refine XW.newIK (a := 86) (G2 := K170) (I2 := J94) (N := 4) eX10_init_145 (by decide) (by decide) (by decide) (by decide +kernel) rfl rfl ⟨by decide +kernel, by decide +kernel⟩ ?_
  refine XW.putRK (G2 := K171) eX10_init_147 f10_69_10 (xP_of rfl (by decide)) rfl ⟨by decide, by decide +kernel, by decide +kernel⟩ rfl ?_
  refine XW.aload_n eX10_init_150 rfl ?_
  refine XW.iconst (v := 4) eX10_init_151 (by decide) ?_
  refine XW.newIK (a := 87) (G2 := K172) (I2 := J95) (N := 4) eX10_init_152 (by decide) (by decide) (by decide) (by decide +kernel) rfl rfl ⟨by decide +kernel, by decide +kernel⟩ ?_
  refine XW.putRK (G2 := K173) eX10_init_154 f10_72_10 (xP_of rfl (by decide)) rfl ⟨by decide, by decide +kernel, by decide +kernel⟩ rfl ?_
  refine XW.aload_n eX10_init_157 rfl ?_
  refine XW.iconst (v := 4) eX10_init_158 (by decide) ?_
  refine XW.newIK (a := 88) (G2 := K174) (I2 := J96) (N := 4) eX10_init_159 (by decide) (by decide) (by decide) (by decide +kernel) rfl rfl ⟨by decide +kernel, by decide +kernel⟩ ?_
  refine XW.putRK (G2 := K175) eX10_init_161 f10_75_10 (xP_of rfl (by decide)) rfl ⟨by decide, by decide +kernel, by decide +kernel⟩ rfl ?_
  refine XW.aload_n eX10_init_164 rfl ?_
  refine XW.iconst (v := 4) eX10_init_165 (by decide) ?_
  refine XW.newZK (a := 89) (G2 := K176) (I2 := J97) (N := 4) eX10_init_166 (by decide) (by decide) (by decide) (by decide +kernel) rfl rfl ⟨by decide +kernel, by decide +kernel⟩ ?_
  refine XW.putRK (G2 := K177) eX10_init_168 f10_78_10 (xP_of rfl (by decide)) rfl ⟨by decide, by decide +kernel, by decide +kernel⟩ rfl ?_
  refine XW.aload_n eX10_init_171 rfl ?_
  refine XW.sipush (v := 1600) eX10_init_172 (by decide) ?_
  refine XW.newZK (a := 90) (G2 := K178) (I2 := J98) (N := 1600) eX10_init_175 (by decide) (by decide) (by decide) (by decide +kernel) rfl rfl ⟨by decide +kernel, by decide +kernel⟩ ?_
  refine XW.putRK (G2 := K179) eX10_init_177 f10_81_10 (xP_of rfl (by decide)) rfl ⟨by decide, by decide +kernel, by decide +kernel⟩ rfl ?_
  refine XW.aload_n eX10_init_180 rfl ?_
  refine XW.bipush (v := 80) eX10_init_181 (by decide) ?_
  refine XW.newIK (a := 91) (G2 := K180) (I2 := J99) (N := 80) eX10_init_183 (by decide) (by decide) (by decide) (by decide +kernel) rfl rfl ⟨by decide +kernel, by decide +kernel⟩ ?_
  refine XW.putRK (G2 := K181) eX10_init_185 f10_84_10 (xP_of rfl (by decide)) rfl ⟨by decide, by decide +kernel, by decide +kernel⟩ rfl ?_
  refine XW.aload_n eX10_init_188 rfl ?_
  refine XW.bipush (v := 80) eX10_init_189 (by decide) ?_
  refine XW.newIK (a := 92) (G2 := K182) (I2 := J100) (N := 80) eX10_init_191 (by decide) (by decide) (by decide) (by decide +kernel) rfl rfl ⟨by decide +kernel, by decide +kernel⟩ ?_
  refine XW.putRK (G2 := K183) eX10_init_193 f10_87_10 (xP_of rfl (by decide)) rfl ⟨by decide, by decide +kernel, by decide +kernel⟩ rfl ?_
  refine XW.aload_n eX10_init_196 rfl ?_
  refine XW.bipush (v := 80) eX10_init_197 (by decide) ?_
  refine XW.newIK (a := 93) (G2 := K184) (I2 := J101) (N := 80) eX10_init_199 (by decide) (by decide) (by decide) (by decide +kernel) rfl rfl ⟨by decide +kernel, by decide +kernel⟩ ?_
  refine XW.putRK (G2 := K185) eX10_init_201 f10_90_10 (xP_of rfl (by decide)) rfl ⟨by decide, by decide +kernel, by decide +kernel⟩ rfl ?_
  refine XW.aload_n eX10_init_204 rfl ?_
  refine XW.iconst (v := 5) eX10_init_205 (by decide) ?_
  refine XW.newIK (a := 94) (G2 := K186) (I2 := J102) (N := 5) eX10_init_206 (by decide) (by decide) (by decide) (by decide +kernel) rfl rfl ⟨by decide +kernel, by decide +kernel⟩ ?_
  refine XW.putRK (G2 := K187) eX10_init_208 f10_93_10 (xP_of rfl (by decide)) rfl ⟨by decide, by decide +kernel, by decide +kernel⟩ rfl ?_
  refine XW.aload_n eX10_init_211 rfl ?_
  refine XW.sipush (v := 1600) eX10_init_212 (by decide) ?_
  refine XW.newIK (a := 95) (G2 := K188) (I2 := J103) (N := 1600) eX10_init_215 (by decide) (by decide) (by decide) (by decide +kernel) rfl rfl ⟨by decide +kernel, by decide +kernel⟩ ?_
  refine XW.putRK (G2 := K189) eX10_init_217 f10_96_10 (xP_of rfl (by decide)) rfl ⟨by decide, by decide +kernel, by decide +kernel⟩ rfl ?_
  refine XW.aload_n eX10_init_220 rfl ?_
  refine XW.bipush (v := 80) eX10_init_221 (by decide) ?_
  refine XW.newIK (a := 96) (G2 := K190) (I2 := J104) (N := 80) eX10_init_223 (by decide) (by decide) (by decide) (by decide +kernel) rfl rfl ⟨by decide +kernel, by decide +kernel⟩ ?_
  refine XW.putRK (G2 := K191) eX10_init_225 f10_99_10 (xP_of rfl (by decide)) rfl ⟨by decide, by decide +kernel, by decide +kernel⟩ rfl ?_
  refine XW.aload_n eX10_init_228 rfl ?_
  refine XW.bipush (v := 80) eX10_init_229 (by decide) ?_
  refine XW.newIK (a := 97) (G2 := K192) (I2 := J105) (N := 80) eX10_init_231 (by decide) (by decide) (by decide) (by decide +kernel) rfl rfl ⟨by decide +kernel, by decide +kernel⟩ ?_
  refine XW.putRK (G2 := K193) eX10_init_233 f10_102_10 (xP_of rfl (by decide)) rfl ⟨by decide, by decide +kernel, by decide +kernel⟩ rfl ?_
  refine XW.aload_n eX10_init_236 rfl ?_
  refine XW.bipush (v := 80) eX10_init_237 (by decide) ?_
  refine XW.newIK (a := 98) (G2 := K194) (I2 := J106) (N := 80) eX10_init_239 (by decide) (by decide) (by decide) (by decide +kernel) rfl rfl ⟨by decide +kernel, by decide +kernel⟩ ?_
  refine XW.putRK (G2 := K195) eX10_init_241 f10_105_10 (xP_of rfl (by decide)) rfl ⟨by decide, by decide +kernel, by decide +kernel⟩ rfl ?_
  refine XW.aload_n eX10_init_244 rfl ?_
  refine XW.bipush (v := 80) eX10_init_245 (by decide) ?_
  refine XW.newIK (a := 99) (G2 := K196) (I2 := J107) (N := 80) eX10_init_247 (by decide) (by decide) (by decide) (by decide +kernel) rfl rfl ⟨by decide +kernel, by decide +kernel⟩ ?_
  refine XW.putRK (G2 := K197) eX10_init_249 f10_108_10 (xP_of rfl (by decide)) rfl ⟨by decide, by decide +kernel, by decide +kernel⟩ rfl ?_
  refine XW.aload_n eX10_init_252 rfl ?_
  refine XW.iconst (v := 5) eX10_init_253 (by decide) ?_
  refine XW.newIK (a := 100) (G2 := K198) (I2 := J108) (N := 5) eX10_init_254 (by decide) (by decide) (by decide) (by decide +kernel) rfl rfl ⟨by decide +kernel, by decide +kernel⟩ ?_
  refine XW.putRK (G2 := K199) eX10_init_256 f10_111_10 (xP_of rfl (by decide)) rfl ⟨by decide, by decide +kernel, by decide +kernel⟩ rfl ?_
  refine XW.aload_n eX10_init_259 rfl ?_
  refine XW.sipush (v := 28561) eX10_init_260 (by decide) ?_
  refine XW.newIK (a := 101) (G2 := K200) (I2 := J109) (N := 28561) eX10_init_263 (by decide) (by decide) (by decide) (by decide +kernel) rfl rfl ⟨by decide +kernel, by decide +kernel⟩ ?_
  refine XW.putRK (G2 := K201) eX10_init_265 f10_114_10 (xP_of rfl (by decide)) rfl ⟨by decide, by decide +kernel, by decide +kernel⟩ rfl ?_
  refine XW.aload_n eX10_init_268 rfl ?_
  refine XW.sipush (v := 28561) eX10_init_269 (by decide) ?_
  refine XW.newIK (a := 102) (G2 := K202) (I2 := J110) (N := 28561) eX10_init_272 (by decide) (by decide) (by decide) (by decide +kernel) rfl rfl ⟨by decide +kernel, by decide +kernel⟩ ?_
  refine XW.putRK (G2 := K203) eX10_init_274 f10_117_10 (xP_of rfl (by decide)) rfl ⟨by decide, by decide +kernel, by decide +kernel⟩ rfl ?_
  refine XW.aload_n eX10_init_277 rfl ?_
  refine XW.iconst (v := (-1)) eX10_init_278 (by decide) ?_
  refine XW.putIK (I2 := J111) eX10_init_279 f10_120_10 (xP_of rfl (by decide)) rfl ⟨rfl, rfl⟩ ⟨by decide, by decide +kernel, by decide +kernel⟩ rfl ?_
  refine XW.aload_n eX10_init_282 rfl ?_
  refine XW.getR (b := 71) eX10_init_283 f10_20_10 rfl ⟨by decide, by decide +kernel, by decide +kernel⟩ (by decide +kernel) ?_
  refine XW.iconst (v := 0) eX10_init_286 (by decide) ?_
  refine XW.iconst (v := 4) eX10_init_287 (by decide) ?_
  refine XW.iastoreK (k := 0) (n := 4) (I2 := J112) eX10_init_288 ⟨by decide, by decide +kernel, by decide +kernel, by decide +kernel⟩ (vp_in_nI (n := 0) (by decide) (by decide)) (by decide) rfl ?_
  refine XW.aload_n eX10_init_289 rfl ?_
  refine XW.getR (b := 72) eX10_init_290 f10_23_10 rfl ⟨by decide, by decide +kernel, by decide +kernel⟩ (by decide +kernel) ?_
  refine XW.iconst (v := 0) eX10_init_293 (by decide) ?_
  refine XW.iconst (v := 1) eX10_init_294 (by decide) ?_
  refine XW.iastoreK (k := 0) (n := 4) (I2 := J113) eX10_init_295 ⟨by decide, by decide +kernel, by decide +kernel, by decide +kernel⟩ (vp_in_nI (n := 0) (by decide) (by decide)) (by decide) rfl ?_
  refine XW.iconst (v := 0) eX10_init_296 (by decide) ?_
  refine XW.istore_n (ls' := [some (.ref 69), some (.int 0)]) eX10_init_297 (Nat.le_of_ble_eq_true rfl) rfl ?_
  refine XW.iload_n eX10_init_298 rfl ?_
  refine XW.iconst (v := 4) eX10_init_299 (by decide) ?_
  refine XW.icmp_ge eX10_init_300 (fun h => absurd h (by decide)) (fun _ => ?_)
  refine XW.aload_n eX10_init_303 rfl ?_
  refine XW.getR (b := 77) eX10_init_304 f10_41_10 rfl ⟨by decide, by decide +kernel, by decide +kernel⟩ (by decide +kernel) ?_
  refine XW.iload_n eX10_init_307 rfl ?_
  refine XW.iconst (v := (-1)) eX10_init_308 (by decide) ?_
  refine XW.iastoreK (k := 0) (n := 4) (I2 := J114) eX10_init_309 ⟨by decide, by decide +kernel, by decide +kernel, by decide +kernel⟩ (vp_in_nI (n := 0) (by decide) (by decide)) (by decide) rfl ?_
  refine XW.iinc (y := 1) (ls' := [some (.ref 69), some (.int 1)]) eX10_init_310 rfl (by decide) rfl ?_
  refine XW.goto eX10_init_313 ?_
  refine XW.iload_n eX10_init_298 rfl ?_
  refine XW.iconst (v := 4) eX10_init_299 (by decide) ?_
  refine XW.icmp_ge eX10_init_300 (fun h => absurd h (by decide)) (fun _ => ?_)
  refine XW.aload_n eX10_init_303 rfl ?_
  refine XW.getR (b := 77) eX10_init_304 f10_41_10 rfl ⟨by decide, by decide +kernel, by decide +kernel⟩ (by decide +kernel) ?_
  refine XW.iload_n eX10_init_307 rfl ?_
  refine XW.iconst (v := (-1)) eX10_init_308 (by decide) ?_
  refine XW.iastoreK (k := 1) (n := 4) (I2 := J115) eX10_init_309 ⟨by decide, by decide +kernel, by decide +kernel, by decide +kernel⟩ (vp_in_nI (n := 1) (by decide) (by decide)) (by decide) rfl ?_
  refine XW.iinc (y := 2) (ls' := [some (.ref 69), some (.int 2)]) eX10_init_310 rfl (by decide) rfl ?_
  refine XW.goto eX10_init_313 ?_
  refine XW.iload_n eX10_init_298 rfl ?_
  refine XW.iconst (v := 4) eX10_init_299 (by decide) ?_
  refine XW.icmp_ge eX10_init_300 (fun h => absurd h (by decide)) (fun _ => ?_)
  refine XW.aload_n eX10_init_303 rfl ?_
  refine XW.getR (b := 77) eX10_init_304 f10_41_10 rfl ⟨by decide, by decide +kernel, by decide +kernel⟩ (by decide +kernel) ?_
  refine XW.iload_n eX10_init_307 rfl ?_
  refine XW.iconst (v := (-1)) eX10_init_308 (by decide) ?_
  refine XW.iastoreK (k := 2) (n := 4) (I2 := J116) eX10_init_309 ⟨by decide, by decide +kernel, by decide +kernel, by decide +kernel⟩ (vp_in_nI (n := 2) (by decide) (by decide)) (by decide) rfl ?_
  refine XW.iinc (y := 3) (ls' := [some (.ref 69), some (.int 3)]) eX10_init_310 rfl (by decide) rfl ?_
  refine XW.goto eX10_init_313 ?_
  refine XW.iload_n eX10_init_298 rfl ?_
  refine XW.iconst (v := 4) eX10_init_299 (by decide) ?_
  refine XW.icmp_ge eX10_init_300 (fun h => absurd h (by decide)) (fun _ => ?_)
  refine XW.aload_n eX10_init_303 rfl ?_
  refine XW.getR (b := 77) eX10_init_304 f10_41_10 rfl ⟨by decide, by decide +kernel, by decide +kernel⟩ (by decide +kernel) ?_
  refine XW.iload_n eX10_init_307 rfl ?_
  refine XW.iconst (v := (-1)) eX10_init_308 (by decide) ?_
  refine XW.iastoreK (k := 3) (n := 4) (I2 := J117) eX10_init_309 ⟨by decide, by decide +kernel, by decide +kernel, by decide +kernel⟩ (vp_in_nI (n := 3) (by decide) (by decide)) (by decide) rfl ?_
  refine XW.iinc (y := 4) (ls' := [some (.ref 69), some (.int 4)]) eX10_init_310 rfl (by decide) rfl ?_
  refine XW.goto eX10_init_313 ?_
  refine XW.iload_n eX10_init_298 rfl ?_
  refine XW.iconst (v := 4) eX10_init_299 (by decide) ?_
  refine XW.icmp_ge eX10_init_300 (fun _ => ?_) (fun h => absurd (by decide) h)
  exact XW.vret eX10_init_316 rfl rfl rfl rfl
theorem W_law {r : Option Value} {G' : xG} {I' : xI} (hN : gN K203 ≤ gN G') (hS : gS K203 ≤ gS G') (kk : XW l C mL_law 18 [some (.ref 1), some (.ref 2), some (.ref 69), some (.int 0)] [] K203 J117 r G' I') : XW l C mL_law 0 (xent mL_law [.ref 1]) [] xG0 xI0 r G' I' := by
  show XW l C mL_law 0 [some (.ref 1), none, none, none] [] xG0 xI0 r G' I'
  refine XW.newK (a := 2) (G2 := K1) (I2 := J1) eL_law_0 nwL_7 (by decide +kernel) rfl rfl ⟨Nat.le_trans (by decide +kernel) hN, Nat.le_trans (by decide +kernel) hS⟩ ?_
  refine XW.dup eL_law_3 rfl ?_
  refine XW.callI (As := []) (st := [.ref 2]) eL_law_4 okX9_init ciL_9 rfl (by decide) W1_X9_init (xnumG rfl rfl rfl rfl rfl (by decide +kernel) (by decide +kernel) (Nat.le_trans (by decide +kernel) hN) (Nat.le_trans (by decide +kernel) hS)) ?_
  refine XW.astore_n (ls' := [some (.ref 1), some (.ref 2), none, none]) eL_law_7 (Nat.le_of_ble_eq_true rfl) rfl ?_
  refine XW.newK (a := 69) (G2 := K137) (I2 := J74) eL_law_8 nwL_10 (by decide +kernel) rfl rfl ⟨Nat.le_trans (by decide +kernel) hN, Nat.le_trans (by decide +kernel) hS⟩ ?_
  refine XW.dup eL_law_11 rfl ?_
  refine XW.callI (As := []) (st := [.ref 69]) eL_law_12 okX10_init ciL_12 rfl (by decide) W23_X10_init (xnumG rfl rfl rfl rfl rfl (by decide +kernel) (by decide +kernel) (Nat.le_trans (by decide +kernel) hN) (Nat.le_trans (by decide +kernel) hS)) ?_
  refine XW.astore_n (ls' := [some (.ref 1), some (.ref 2), some (.ref 69), none]) eL_law_15 (Nat.le_of_ble_eq_true rfl) rfl ?_
  refine XW.iconst (v := 0) eL_law_16 (by decide) ?_
  refine XW.istore_n (ls' := [some (.ref 1), some (.ref 2), some (.ref 69), some (.int 0)]) eL_law_17 (Nat.le_of_ble_eq_true rfl) rfl ?_
  exact kk
end Wks
