/-! what stands after the makers -/
def bd (G : xG) : Prop := ∀ a k, 64 ≤ k → gR G a k = 0
theorem bd0 : bd xG0 := fun _ _ _ => rfl
theorem bd_aO {G : xG} {c n : Nat} (h : bd G) : bd (aO G c n) := fun a k hk => by
  by_cases e : a = gN G
  · subst e; rw [aO_R]
  · rw [aO_Rn _ _ _ e]; exact h a k hk
theorem bd_aA {G : xG} {c n : Nat} (h : bd G) : bd (aA G c n) := fun a k hk => by
  by_cases e : a = gN G
  · subst e; rw [aA_R]
  · rw [aA_Rn _ _ _ e]; exact h a k hk
theorem bd_wR {G : xG} {x j b : Nat} (h : bd G) (hj : j < 64) : bd (wR G x j b) := fun a k hk => by
  by_cases e : a = x
  · subst e; rw [wR_k _ _ (by omega)]; exact h a k hk
  · rw [wR_ne _ _ _ e]; exact h a k hk
theorem bd1 : bd K1 := bd_aO bd0
theorem bd2 : bd K2 := bd_aO bd1
theorem bd3 : bd K3 := bd_aA bd2
theorem bd4 : bd K4 := bd_wR bd3 (by decide)
theorem bd5 : bd K5 := bd_aO bd4
theorem bd6 : bd K6 := bd_wR bd5 (by decide)
theorem bd7 : bd K7 := bd_wR bd6 (by decide)
theorem bd8 : bd K8 := bd_aA bd7
theorem bd9 : bd K9 := bd_wR bd8 (by decide)
theorem bd10 : bd K10 := bd_aA bd9
theorem bd11 : bd K11 := bd_wR bd10 (by decide)
theorem bd12 : bd K12 := bd_aO bd11
theorem bd13 : bd K13 := bd_aA bd12
theorem bd14 : bd K14 := bd_wR bd13 (by decide)
theorem bd15 : bd K15 := bd_aA bd14
theorem bd16 : bd K16 := bd_wR bd15 (by decide)
theorem bd17 : bd K17 := bd_aA bd16
theorem bd18 : bd K18 := bd_wR bd17 (by decide)
theorem bd19 : bd K19 := bd_aA bd18
theorem bd20 : bd K20 := bd_wR bd19 (by decide)
theorem bd21 : bd K21 := bd_aA bd20
theorem bd22 : bd K22 := bd_wR bd21 (by decide)
theorem bd23 : bd K23 := bd_aA bd22
theorem bd24 : bd K24 := bd_wR bd23 (by decide)
theorem bd25 : bd K25 := bd_aA bd24
theorem bd26 : bd K26 := bd_wR bd25 (by decide)
theorem bd27 : bd K27 := bd_aA bd26
theorem bd28 : bd K28 := bd_wR bd27 (by decide)
theorem bd29 : bd K29 := bd_aA bd28
theorem bd30 : bd K30 := bd_wR bd29 (by decide)
theorem bd31 : bd K31 := bd_wR bd30 (by decide)
theorem bd32 : bd K32 := bd_aO bd31
theorem bd33 : bd K33 := bd_aA bd32
theorem bd34 : bd K34 := bd_wR bd33 (by decide)
theorem bd35 : bd K35 := bd_wR bd34 (by decide)
theorem bd36 : bd K36 := bd_aO bd35
theorem bd37 : bd K37 := bd_aA bd36
theorem bd38 : bd K38 := bd_wR bd37 (by decide)
theorem bd39 : bd K39 := bd_wR bd38 (by decide)
theorem bd40 : bd K40 := bd_aO bd39
theorem bd41 : bd K41 := bd_aA bd40
theorem bd42 : bd K42 := bd_wR bd41 (by decide)
theorem bd43 : bd K43 := bd_wR bd42 (by decide)
theorem bd44 : bd K44 := bd_aO bd43
theorem bd45 : bd K45 := bd_aA bd44
theorem bd46 : bd K46 := bd_wR bd45 (by decide)
theorem bd47 : bd K47 := bd_wR bd46 (by decide)
theorem bd48 : bd K48 := bd_wR bd47 (by decide)
theorem bd49 : bd K49 := bd_aO bd48
theorem bd50 : bd K50 := bd_aA bd49
theorem bd51 : bd K51 := bd_wR bd50 (by decide)
theorem bd52 : bd K52 := bd_aA bd51
theorem bd53 : bd K53 := bd_wR bd52 (by decide)
theorem bd54 : bd K54 := bd_aA bd53
theorem bd55 : bd K55 := bd_wR bd54 (by decide)
theorem bd56 : bd K56 := bd_aA bd55
theorem bd57 : bd K57 := bd_wR bd56 (by decide)
theorem bd58 : bd K58 := bd_aA bd57
theorem bd59 : bd K59 := bd_wR bd58 (by decide)
theorem bd60 : bd K60 := bd_aA bd59
theorem bd61 : bd K61 := bd_wR bd60 (by decide)
theorem bd62 : bd K62 := bd_aA bd61
theorem bd63 : bd K63 := bd_wR bd62 (by decide)
theorem bd64 : bd K64 := bd_aA bd63
theorem bd65 : bd K65 := bd_wR bd64 (by decide)
theorem bd66 : bd K66 := bd_aA bd65
theorem bd67 : bd K67 := bd_wR bd66 (by decide)
theorem bd68 : bd K68 := bd_wR bd67 (by decide)
theorem bd69 : bd K69 := bd_aO bd68
theorem bd70 : bd K70 := bd_aA bd69
theorem bd71 : bd K71 := bd_wR bd70 (by decide)
theorem bd72 : bd K72 := bd_wR bd71 (by decide)
theorem bd73 : bd K73 := bd_aO bd72
theorem bd74 : bd K74 := bd_aA bd73
theorem bd75 : bd K75 := bd_wR bd74 (by decide)
theorem bd76 : bd K76 := bd_wR bd75 (by decide)
theorem bd77 : bd K77 := bd_aO bd76
theorem bd78 : bd K78 := bd_aA bd77
theorem bd79 : bd K79 := bd_wR bd78 (by decide)
theorem bd80 : bd K80 := bd_wR bd79 (by decide)
theorem bd81 : bd K81 := bd_aO bd80
theorem bd82 : bd K82 := bd_aA bd81
theorem bd83 : bd K83 := bd_wR bd82 (by decide)
theorem bd84 : bd K84 := bd_wR bd83 (by decide)
theorem bd85 : bd K85 := bd_wR bd84 (by decide)
theorem bd86 : bd K86 := bd_aO bd85
theorem bd87 : bd K87 := bd_aA bd86
theorem bd88 : bd K88 := bd_wR bd87 (by decide)
theorem bd89 : bd K89 := bd_aA bd88
theorem bd90 : bd K90 := bd_wR bd89 (by decide)
theorem bd91 : bd K91 := bd_aA bd90
theorem bd92 : bd K92 := bd_wR bd91 (by decide)
theorem bd93 : bd K93 := bd_aA bd92
theorem bd94 : bd K94 := bd_wR bd93 (by decide)
theorem bd95 : bd K95 := bd_wR bd94 (by decide)
theorem bd96 : bd K96 := bd_wR bd95 (by decide)
theorem bd97 : bd K97 := bd_aO bd96
theorem bd98 : bd K98 := bd_aA bd97
theorem bd99 : bd K99 := bd_wR bd98 (by decide)
theorem bd100 : bd K100 := bd_aA bd99
theorem bd101 : bd K101 := bd_wR bd100 (by decide)
theorem bd102 : bd K102 := bd_wR bd101 (by decide)
theorem bd103 : bd K103 := bd_aO bd102
theorem bd104 : bd K104 := bd_aA bd103
theorem bd105 : bd K105 := bd_wR bd104 (by decide)
theorem bd106 : bd K106 := bd_aA bd105
theorem bd107 : bd K107 := bd_wR bd106 (by decide)
theorem bd108 : bd K108 := bd_wR bd107 (by decide)
theorem bd109 : bd K109 := bd_aO bd108
theorem bd110 : bd K110 := bd_aA bd109
theorem bd111 : bd K111 := bd_wR bd110 (by decide)
theorem bd112 : bd K112 := bd_aA bd111
theorem bd113 : bd K113 := bd_wR bd112 (by decide)
theorem bd114 : bd K114 := bd_wR bd113 (by decide)
theorem bd115 : bd K115 := bd_aO bd114
theorem bd116 : bd K116 := bd_aA bd115
theorem bd117 : bd K117 := bd_wR bd116 (by decide)
theorem bd118 : bd K118 := bd_aA bd117
theorem bd119 : bd K119 := bd_wR bd118 (by decide)
theorem bd120 : bd K120 := bd_wR bd119 (by decide)
theorem bd121 : bd K121 := bd_aO bd120
theorem bd122 : bd K122 := bd_aA bd121
theorem bd123 : bd K123 := bd_wR bd122 (by decide)
theorem bd124 : bd K124 := bd_wR bd123 (by decide)
theorem bd125 : bd K125 := bd_aO bd124
theorem bd126 : bd K126 := bd_aA bd125
theorem bd127 : bd K127 := bd_wR bd126 (by decide)
theorem bd128 : bd K128 := bd_wR bd127 (by decide)
theorem bd129 : bd K129 := bd_aO bd128
theorem bd130 : bd K130 := bd_aA bd129
theorem bd131 : bd K131 := bd_wR bd130 (by decide)
theorem bd132 : bd K132 := bd_wR bd131 (by decide)
theorem bd133 : bd K133 := bd_aO bd132
theorem bd134 : bd K134 := bd_aA bd133
theorem bd135 : bd K135 := bd_wR bd134 (by decide)
theorem bd136 : bd K136 := bd_wR bd135 (by decide)
theorem bd137 : bd K137 := bd_aO bd136
theorem bd138 : bd K138 := bd_aA bd137
theorem bd139 : bd K139 := bd_wR bd138 (by decide)
theorem bd140 : bd K140 := bd_aA bd139
theorem bd141 : bd K141 := bd_wR bd140 (by decide)
theorem bd142 : bd K142 := bd_aA bd141
theorem bd143 : bd K143 := bd_wR bd142 (by decide)
theorem bd144 : bd K144 := bd_aA bd143
theorem bd145 : bd K145 := bd_wR bd144 (by decide)
theorem bd146 : bd K146 := bd_aA bd145
theorem bd147 : bd K147 := bd_wR bd146 (by decide)
theorem bd148 : bd K148 := bd_aA bd147
theorem bd149 : bd K149 := bd_wR bd148 (by decide)
theorem bd150 : bd K150 := bd_aA bd149
theorem bd151 : bd K151 := bd_wR bd150 (by decide)
theorem bd152 : bd K152 := bd_aA bd151
theorem bd153 : bd K153 := bd_wR bd152 (by decide)
theorem bd154 : bd K154 := bd_aA bd153
theorem bd155 : bd K155 := bd_wR bd154 (by decide)
theorem bd156 : bd K156 := bd_aA bd155
theorem bd157 : bd K157 := bd_wR bd156 (by decide)
theorem bd158 : bd K158 := bd_aA bd157
theorem bd159 : bd K159 := bd_wR bd158 (by decide)
theorem bd160 : bd K160 := bd_aA bd159
theorem bd161 : bd K161 := bd_wR bd160 (by decide)
theorem bd162 : bd K162 := bd_aA bd161
theorem bd163 : bd K163 := bd_wR bd162 (by decide)
theorem bd164 : bd K164 := bd_aA bd163
theorem bd165 : bd K165 := bd_wR bd164 (by decide)
theorem bd166 : bd K166 := bd_aA bd165
theorem bd167 : bd K167 := bd_wR bd166 (by decide)
theorem bd168 : bd K168 := bd_aA bd167
theorem bd169 : bd K169 := bd_wR bd168 (by decide)
theorem bd170 : bd K170 := bd_aA bd169
theorem bd171 : bd K171 := bd_wR bd170 (by decide)
theorem bd172 : bd K172 := bd_aA bd171
theorem bd173 : bd K173 := bd_wR bd172 (by decide)
theorem bd174 : bd K174 := bd_aA bd173
theorem bd175 : bd K175 := bd_wR bd174 (by decide)
theorem bd176 : bd K176 := bd_aA bd175
theorem bd177 : bd K177 := bd_wR bd176 (by decide)
theorem bd178 : bd K178 := bd_aA bd177
theorem bd179 : bd K179 := bd_wR bd178 (by decide)
theorem bd180 : bd K180 := bd_aA bd179
theorem bd181 : bd K181 := bd_wR bd180 (by decide)
theorem bd182 : bd K182 := bd_aA bd181
theorem bd183 : bd K183 := bd_wR bd182 (by decide)
theorem bd184 : bd K184 := bd_aA bd183
theorem bd185 : bd K185 := bd_wR bd184 (by decide)
theorem bd186 : bd K186 := bd_aA bd185
theorem bd187 : bd K187 := bd_wR bd186 (by decide)
theorem bd188 : bd K188 := bd_aA bd187
theorem bd189 : bd K189 := bd_wR bd188 (by decide)
theorem bd190 : bd K190 := bd_aA bd189
theorem bd191 : bd K191 := bd_wR bd190 (by decide)
theorem bd192 : bd K192 := bd_aA bd191
theorem bd193 : bd K193 := bd_wR bd192 (by decide)
theorem bd194 : bd K194 := bd_aA bd193
theorem bd195 : bd K195 := bd_wR bd194 (by decide)
theorem bd196 : bd K196 := bd_aA bd195
theorem bd197 : bd K197 := bd_wR bd196 (by decide)
theorem bd198 : bd K198 := bd_aA bd197
theorem bd199 : bd K199 := bd_wR bd198 (by decide)
theorem bd200 : bd K200 := bd_aA bd199
theorem bd201 : bd K201 := bd_wR bd200 (by decide)
theorem bd202 : bd K202 := bd_aA bd201
theorem bd203 : bd K203 := bd_wR bd202 (by decide)
theorem getD_bd : ∀ (L : List (List Nat)), (∀ x ∈ L, x.length ≤ 64) → ∀ a k, 64 ≤ k → (L.getD a []).getD k 0 = 0 := by
  intro L h a k hk
  have : ∀ x : List Nat, x.length ≤ 64 → x.getD k 0 = 0 := fun x hx => by
    rw [List.getD_eq_getElem?_getD, List.getElem?_eq_none (by omega)]; rfl
  apply this
  by_cases q : a < L.length
  · rw [List.getD_eq_getElem?_getD, List.getElem?_eq_getElem q]
    exact h _ (List.getElem_mem q)
  · rw [List.getD_eq_getElem?_getD, List.getElem?_eq_none (by omega)]
    exact Nat.zero_le _
theorem shR_bd (a k : Nat) (hk : 64 ≤ k) : shR a k = 0 := by
  unfold shR
  exact getD_bd _ (by decide) a k hk
set_option maxRecDepth 100000 in
theorem SH_made : SH K203 := by
  have h1 : ∀ a, a < 103 → gT K203 a = shT a ∧ gL K203 a = shL a := by decide +kernel
  have h2 : ∀ a, a < 103 → a ≠ 4 → ∀ k, k < 64 → gR K203 a k = shR a k := by decide +kernel
  refine ⟨by decide +kernel, fun a ha => ⟨(h1 a ha).1, (h1 a ha).2, fun z1 k => ?_⟩⟩
  by_cases q : k < 64
  · exact h2 a ha z1 k q
  · rw [bd203 a k (by omega), shR_bd a k (by omega)]
def D0 : aE := fun x i => if x = 0 then (if i = 0 then 1 else if i = 1 then 8 else if i = 2 then 16 else 0) else if x = 2 ∧ i = 0 then 4 else if x = 3 ∧ i = 0 then 1 else 0
set_option maxRecDepth 100000 in
theorem REL_made : REL K203 J117 := by
  have r1 : ∀ r, r < 4 → J117 81 r = 0 ∧ J117 (49 + 3 * r) 2 = 0 ∧ J117 84 r = 0 ∧ J117 (49 + 3 * r) 3 = 0 := by decide +kernel
  have r2 : ∀ s, s < 4 → J117 78 s = 0 ∧ J117 77 s = (-1) ∧ J117 (61 + 2 * s) 2 = 0 := by decide +kernel
  have r3 : ∀ u, u < 44 → 18 ≤ u → J117 u 1 = 0 ∧ J117 u 2 = 0 := by decide +kernel
  have l0 : ∀ j, j < D0 0 0 → j = 0 := fun j hj => by have : j < 1 := hj; omega
  have g5 : gR K203 4 0 = 5 := by decide +kernel
  refine ⟨SH_made, D0, ⟨by decide, by decide +kernel, by decide +kernel, fun j hj => ?_, fun j hj => ?_, fun j hj => ?_, fun i j hi hj _ => by rw [l0 i hi, l0 j hj], by decide⟩, fun r hr => ?_, fun s hs => ⟨0, by decide, (r2 s hs).1, Or.inl ⟨(r2 s hs).2.2, (r2 s hs).2.1⟩⟩, ⟨0, by decide, by decide +kernel, Or.inl (by decide +kernel)⟩, by decide +kernel, fun j hj => ⟨⟨0, by decide, (r3 (18 + 2 * j) (by omega) (by omega)).1, (r3 (18 + 2 * j) (by omega) (by omega)).2, by decide, fun t ht => absurd ht (by simp)⟩, ⟨0, by decide, (r3 (36 + 2 * j) (by omega) (by omega)).1, (r3 (36 + 2 * j) (by omega) (by omega)).2, by decide, fun t ht => absurd ht (by simp)⟩⟩⟩
  · rw [l0 j hj]; decide
  · rw [l0 j hj]; decide +kernel
  · rw [l0 j hj, g5]
    refine ⟨Or.inl ⟨by decide, by decide +kernel, by decide +kernel⟩, Or.inl rfl, by decide +kernel, by decide +kernel, by decide +kernel, by decide +kernel, fun q => absurd rfl q, fun q => absurd q (by decide)⟩
  · refine ⟨by decide +revert, (r1 r hr).1, (r1 r hr).2.1, fun k hk => absurd hk (Nat.not_lt_zero k), fun i k _ hk => absurd hk (Nat.not_lt_zero k), Nat.zero_le _, (r1 r hr).2.2.1, (r1 r hr).2.2.2⟩
theorem made_N : gN K203 = 103 := by decide +kernel
theorem made_S : gS K203 = 65258 := by decide +kernel
