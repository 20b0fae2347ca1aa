/-! all methods: their code is what decode gives (wip/tool/heads.py) -/
theorem pm_chk0 : ∀ q ∈ pm_mt.getD 0 [], pm_cm q = true := by
  intro q hq
  have hq : q ∈ ([(0, (pm_ent 0).getD (0, 0, 0, 0, [])), (1, (pm_ent 1).getD (0, 0, 0, 0, [])), (2, (pm_ent 2).getD (0, 0, 0, 0, [])), (3, (pm_ent 3).getD (0, 0, 0, 0, [])), (4, (pm_ent 4).getD (0, 0, 0, 0, [])), (5, (pm_ent 5).getD (0, 0, 0, 0, [])), (6, (pm_ent 6).getD (0, 0, 0, 0, [])), (7, (pm_ent 7).getD (0, 0, 0, 0, [])), (8, (pm_ent 8).getD (0, 0, 0, 0, [])), (9, (pm_ent 9).getD (0, 0, 0, 0, [])), (10, (pm_ent 10).getD (0, 0, 0, 0, [])), (11, (pm_ent 11).getD (0, 0, 0, 0, [])), (12, (pm_ent 12).getD (0, 0, 0, 0, [])), (13, (pm_ent 13).getD (0, 0, 0, 0, [])), (14, (pm_ent 14).getD (0, 0, 0, 0, [])), (15, (pm_ent 15).getD (0, 0, 0, 0, []))] : List (Nat × pm_M)) := hq
  simp only [List.mem_cons, List.not_mem_nil, or_false] at hq
  rcases hq with rfl | rfl | rfl | rfl | rfl | rfl | rfl | rfl | rfl | rfl | rfl | rfl | rfl | rfl | rfl | rfl
  · exact pm_d0
  · exact pm_d1
  · exact pm_d2
  · exact pm_d3
  · exact pm_d4
  · exact pm_d5
  · exact pm_d6
  · exact pm_d7
  · exact pm_d8
  · exact pm_d9
  · exact pm_d10
  · exact pm_d11
  · exact pm_d12
  · exact pm_d13
  · exact pm_d14
  · exact pm_d15
theorem pm_chk1 : ∀ q ∈ pm_mt.getD 1 [], pm_cm q = true := by
  intro q hq
  have hq : q ∈ ([(16, (pm_ent 16).getD (0, 0, 0, 0, [])), (17, (pm_ent 17).getD (0, 0, 0, 0, [])), (18, (pm_ent 18).getD (0, 0, 0, 0, [])), (19, (pm_ent 19).getD (0, 0, 0, 0, [])), (20, (pm_ent 20).getD (0, 0, 0, 0, [])), (21, (pm_ent 21).getD (0, 0, 0, 0, [])), (22, (pm_ent 22).getD (0, 0, 0, 0, [])), (23, (pm_ent 23).getD (0, 0, 0, 0, [])), (24, (pm_ent 24).getD (0, 0, 0, 0, [])), (25, (pm_ent 25).getD (0, 0, 0, 0, [])), (26, (pm_ent 26).getD (0, 0, 0, 0, [])), (27, (pm_ent 27).getD (0, 0, 0, 0, [])), (28, (pm_ent 28).getD (0, 0, 0, 0, [])), (29, (pm_ent 29).getD (0, 0, 0, 0, [])), (30, (pm_ent 30).getD (0, 0, 0, 0, [])), (31, (pm_ent 31).getD (0, 0, 0, 0, []))] : List (Nat × pm_M)) := hq
  simp only [List.mem_cons, List.not_mem_nil, or_false] at hq
  rcases hq with rfl | rfl | rfl | rfl | rfl | rfl | rfl | rfl | rfl | rfl | rfl | rfl | rfl | rfl | rfl | rfl
  · exact pm_d16
  · exact pm_d17
  · exact pm_d18
  · exact pm_d19
  · exact pm_d20
  · exact pm_d21
  · exact pm_d22
  · exact pm_d23
  · exact pm_d24
  · exact pm_d25
  · exact pm_d26
  · exact pm_d27
  · exact pm_d28
  · exact pm_d29
  · exact pm_d30
  · exact pm_d31
theorem pm_chk2 : ∀ q ∈ pm_mt.getD 2 [], pm_cm q = true := by
  intro q hq
  have hq : q ∈ ([(32, (pm_ent 32).getD (0, 0, 0, 0, [])), (33, (pm_ent 33).getD (0, 0, 0, 0, [])), (34, (pm_ent 34).getD (0, 0, 0, 0, [])), (35, (pm_ent 35).getD (0, 0, 0, 0, [])), (36, (pm_ent 36).getD (0, 0, 0, 0, [])), (37, (pm_ent 37).getD (0, 0, 0, 0, [])), (38, (pm_ent 38).getD (0, 0, 0, 0, [])), (39, (pm_ent 39).getD (0, 0, 0, 0, [])), (40, (pm_ent 40).getD (0, 0, 0, 0, [])), (41, (pm_ent 41).getD (0, 0, 0, 0, [])), (42, (pm_ent 42).getD (0, 0, 0, 0, [])), (43, (pm_ent 43).getD (0, 0, 0, 0, [])), (44, (pm_ent 44).getD (0, 0, 0, 0, [])), (45, (pm_ent 45).getD (0, 0, 0, 0, [])), (46, (pm_ent 46).getD (0, 0, 0, 0, [])), (47, (pm_ent 47).getD (0, 0, 0, 0, []))] : List (Nat × pm_M)) := hq
  simp only [List.mem_cons, List.not_mem_nil, or_false] at hq
  rcases hq with rfl | rfl | rfl | rfl | rfl | rfl | rfl | rfl | rfl | rfl | rfl | rfl | rfl | rfl | rfl | rfl
  · exact pm_d32
  · exact pm_d33
  · exact pm_d34
  · exact pm_d35
  · exact pm_d36
  · exact pm_d37
  · exact pm_d38
  · exact pm_d39
  · exact pm_d40
  · exact pm_d41
  · exact pm_d42
  · exact pm_d43
  · exact pm_d44
  · exact pm_d45
  · exact pm_d46
  · exact pm_d47
theorem pm_chk3 : ∀ q ∈ pm_mt.getD 3 [], pm_cm q = true := by
  intro q hq
  have hq : q ∈ ([(48, (pm_ent 48).getD (0, 0, 0, 0, [])), (49, (pm_ent 49).getD (0, 0, 0, 0, [])), (50, (pm_ent 50).getD (0, 0, 0, 0, [])), (51, (pm_ent 51).getD (0, 0, 0, 0, [])), (52, (pm_ent 52).getD (0, 0, 0, 0, [])), (53, (pm_ent 53).getD (0, 0, 0, 0, [])), (54, (pm_ent 54).getD (0, 0, 0, 0, [])), (55, (pm_ent 55).getD (0, 0, 0, 0, [])), (56, (pm_ent 56).getD (0, 0, 0, 0, [])), (57, (pm_ent 57).getD (0, 0, 0, 0, [])), (58, (pm_ent 58).getD (0, 0, 0, 0, [])), (59, (pm_ent 59).getD (0, 0, 0, 0, [])), (60, (pm_ent 60).getD (0, 0, 0, 0, [])), (61, (pm_ent 61).getD (0, 0, 0, 0, [])), (62, (pm_ent 62).getD (0, 0, 0, 0, [])), (63, (pm_ent 63).getD (0, 0, 0, 0, []))] : List (Nat × pm_M)) := hq
  simp only [List.mem_cons, List.not_mem_nil, or_false] at hq
  rcases hq with rfl | rfl | rfl | rfl | rfl | rfl | rfl | rfl | rfl | rfl | rfl | rfl | rfl | rfl | rfl | rfl
  · exact pm_d48
  · exact pm_d49
  · exact pm_d50
  · exact pm_d51
  · exact pm_d52
  · exact pm_d53
  · exact pm_d54
  · exact pm_d55
  · exact pm_d56
  · exact pm_d57
  · exact pm_d58
  · exact pm_d59
  · exact pm_d60
  · exact pm_d61
  · exact pm_d62
  · exact pm_d63
theorem pm_chk4 : ∀ q ∈ pm_mt.getD 4 [], pm_cm q = true := by
  intro q hq
  have hq : q ∈ ([(64, (pm_ent 64).getD (0, 0, 0, 0, [])), (65, (pm_ent 65).getD (0, 0, 0, 0, [])), (66, (pm_ent 66).getD (0, 0, 0, 0, [])), (67, (pm_ent 67).getD (0, 0, 0, 0, [])), (68, (pm_ent 68).getD (0, 0, 0, 0, [])), (69, (pm_ent 69).getD (0, 0, 0, 0, [])), (70, (pm_ent 70).getD (0, 0, 0, 0, [])), (71, (pm_ent 71).getD (0, 0, 0, 0, [])), (72, (pm_ent 72).getD (0, 0, 0, 0, [])), (73, (pm_ent 73).getD (0, 0, 0, 0, [])), (74, (pm_ent 74).getD (0, 0, 0, 0, [])), (75, (pm_ent 75).getD (0, 0, 0, 0, [])), (76, (pm_ent 76).getD (0, 0, 0, 0, [])), (77, (pm_ent 77).getD (0, 0, 0, 0, [])), (78, (pm_ent 78).getD (0, 0, 0, 0, [])), (79, (pm_ent 79).getD (0, 0, 0, 0, []))] : List (Nat × pm_M)) := hq
  simp only [List.mem_cons, List.not_mem_nil, or_false] at hq
  rcases hq with rfl | rfl | rfl | rfl | rfl | rfl | rfl | rfl | rfl | rfl | rfl | rfl | rfl | rfl | rfl | rfl
  · exact pm_d64
  · exact pm_d65
  · exact pm_d66
  · exact pm_d67
  · exact pm_d68
  · exact pm_d69
  · exact pm_d70
  · exact pm_d71
  · exact pm_d72
  · exact pm_d73
  · exact pm_d74
  · exact pm_d75
  · exact pm_d76
  · exact pm_d77
  · exact pm_d78
  · exact pm_d79
theorem pm_chk5 : ∀ q ∈ pm_mt.getD 5 [], pm_cm q = true := by
  intro q hq
  have hq : q ∈ ([(80, (pm_ent 80).getD (0, 0, 0, 0, [])), (81, (pm_ent 81).getD (0, 0, 0, 0, [])), (82, (pm_ent 82).getD (0, 0, 0, 0, [])), (83, (pm_ent 83).getD (0, 0, 0, 0, [])), (84, (pm_ent 84).getD (0, 0, 0, 0, [])), (85, (pm_ent 85).getD (0, 0, 0, 0, [])), (86, (pm_ent 86).getD (0, 0, 0, 0, [])), (87, (pm_ent 87).getD (0, 0, 0, 0, [])), (88, (pm_ent 88).getD (0, 0, 0, 0, [])), (89, (pm_ent 89).getD (0, 0, 0, 0, [])), (90, (pm_ent 90).getD (0, 0, 0, 0, [])), (91, (pm_ent 91).getD (0, 0, 0, 0, [])), (92, (pm_ent 92).getD (0, 0, 0, 0, [])), (93, (pm_ent 93).getD (0, 0, 0, 0, [])), (94, (pm_ent 94).getD (0, 0, 0, 0, [])), (95, (pm_ent 95).getD (0, 0, 0, 0, []))] : List (Nat × pm_M)) := hq
  simp only [List.mem_cons, List.not_mem_nil, or_false] at hq
  rcases hq with rfl | rfl | rfl | rfl | rfl | rfl | rfl | rfl | rfl | rfl | rfl | rfl | rfl | rfl | rfl | rfl
  · exact pm_d80
  · exact pm_d81
  · exact pm_d82
  · exact pm_d83
  · exact pm_d84
  · exact pm_d85
  · exact pm_d86
  · exact pm_d87
  · exact pm_d88
  · exact pm_d89
  · exact pm_d90
  · exact pm_d91
  · exact pm_d92
  · exact pm_d93
  · exact pm_d94
  · exact pm_d95
theorem pm_chk6 : ∀ q ∈ pm_mt.getD 6 [], pm_cm q = true := by
  intro q hq
  have hq : q ∈ ([(96, (pm_ent 96).getD (0, 0, 0, 0, [])), (97, (pm_ent 97).getD (0, 0, 0, 0, [])), (98, (pm_ent 98).getD (0, 0, 0, 0, [])), (99, (pm_ent 99).getD (0, 0, 0, 0, [])), (100, (pm_ent 100).getD (0, 0, 0, 0, [])), (101, (pm_ent 101).getD (0, 0, 0, 0, [])), (102, (pm_ent 102).getD (0, 0, 0, 0, [])), (103, (pm_ent 103).getD (0, 0, 0, 0, [])), (104, (pm_ent 104).getD (0, 0, 0, 0, [])), (105, (pm_ent 105).getD (0, 0, 0, 0, [])), (106, (pm_ent 106).getD (0, 0, 0, 0, [])), (107, (pm_ent 107).getD (0, 0, 0, 0, [])), (108, (pm_ent 108).getD (0, 0, 0, 0, [])), (109, (pm_ent 109).getD (0, 0, 0, 0, [])), (110, (pm_ent 110).getD (0, 0, 0, 0, [])), (111, (pm_ent 111).getD (0, 0, 0, 0, []))] : List (Nat × pm_M)) := hq
  simp only [List.mem_cons, List.not_mem_nil, or_false] at hq
  rcases hq with rfl | rfl | rfl | rfl | rfl | rfl | rfl | rfl | rfl | rfl | rfl | rfl | rfl | rfl | rfl | rfl
  · exact pm_d96
  · exact pm_d97
  · exact pm_d98
  · exact pm_d99
  · exact pm_d100
  · exact pm_d101
  · exact pm_d102
  · exact pm_d103
  · exact pm_d104
  · exact pm_d105
  · exact pm_d106
  · exact pm_d107
  · exact pm_d108
  · exact pm_d109
  · exact pm_d110
  · exact pm_d111
theorem pm_chk7 : ∀ q ∈ pm_mt.getD 7 [], pm_cm q = true := by
  intro q hq
  have hq : q ∈ ([(112, (pm_ent 112).getD (0, 0, 0, 0, [])), (113, (pm_ent 113).getD (0, 0, 0, 0, [])), (114, (pm_ent 114).getD (0, 0, 0, 0, [])), (115, (pm_ent 115).getD (0, 0, 0, 0, [])), (116, (pm_ent 116).getD (0, 0, 0, 0, [])), (117, (pm_ent 117).getD (0, 0, 0, 0, [])), (118, (pm_ent 118).getD (0, 0, 0, 0, [])), (119, (pm_ent 119).getD (0, 0, 0, 0, [])), (120, (pm_ent 120).getD (0, 0, 0, 0, [])), (121, (pm_ent 121).getD (0, 0, 0, 0, [])), (122, (pm_ent 122).getD (0, 0, 0, 0, [])), (123, (pm_ent 123).getD (0, 0, 0, 0, [])), (124, (pm_ent 124).getD (0, 0, 0, 0, [])), (125, (pm_ent 125).getD (0, 0, 0, 0, [])), (126, (pm_ent 126).getD (0, 0, 0, 0, [])), (127, (pm_ent 127).getD (0, 0, 0, 0, []))] : List (Nat × pm_M)) := hq
  simp only [List.mem_cons, List.not_mem_nil, or_false] at hq
  rcases hq with rfl | rfl | rfl | rfl | rfl | rfl | rfl | rfl | rfl | rfl | rfl | rfl | rfl | rfl | rfl | rfl
  · exact pm_d112
  · exact pm_d113
  · exact pm_d114
  · exact pm_d115
  · exact pm_d116
  · exact pm_d117
  · exact pm_d118
  · exact pm_d119
  · exact pm_d120
  · exact pm_d121
  · exact pm_d122
  · exact pm_d123
  · exact pm_d124
  · exact pm_d125
  · exact pm_d126
  · exact pm_d127
theorem pm_chk8 : ∀ q ∈ pm_mt.getD 8 [], pm_cm q = true := by
  intro q hq
  have hq : q ∈ ([(128, (pm_ent 128).getD (0, 0, 0, 0, [])), (129, (pm_ent 129).getD (0, 0, 0, 0, [])), (130, (pm_ent 130).getD (0, 0, 0, 0, [])), (131, (pm_ent 131).getD (0, 0, 0, 0, [])), (132, (pm_ent 132).getD (0, 0, 0, 0, [])), (133, (pm_ent 133).getD (0, 0, 0, 0, [])), (134, (pm_ent 134).getD (0, 0, 0, 0, [])), (135, (pm_ent 135).getD (0, 0, 0, 0, [])), (136, (pm_ent 136).getD (0, 0, 0, 0, [])), (137, (pm_ent 137).getD (0, 0, 0, 0, [])), (138, (pm_ent 138).getD (0, 0, 0, 0, [])), (139, (pm_ent 139).getD (0, 0, 0, 0, [])), (140, (pm_ent 140).getD (0, 0, 0, 0, [])), (141, (pm_ent 141).getD (0, 0, 0, 0, [])), (142, (pm_ent 142).getD (0, 0, 0, 0, [])), (143, (pm_ent 143).getD (0, 0, 0, 0, []))] : List (Nat × pm_M)) := hq
  simp only [List.mem_cons, List.not_mem_nil, or_false] at hq
  rcases hq with rfl | rfl | rfl | rfl | rfl | rfl | rfl | rfl | rfl | rfl | rfl | rfl | rfl | rfl | rfl | rfl
  · exact pm_d128
  · exact pm_d129
  · exact pm_d130
  · exact pm_d131
  · exact pm_d132
  · exact pm_d133
  · exact pm_d134
  · exact pm_d135
  · exact pm_d136
  · exact pm_d137
  · exact pm_d138
  · exact pm_d139
  · exact pm_d140
  · exact pm_d141
  · exact pm_d142
  · exact pm_d143
theorem pm_chk9 : ∀ q ∈ pm_mt.getD 9 [], pm_cm q = true := by
  intro q hq
  have hq : q ∈ ([(144, (pm_ent 144).getD (0, 0, 0, 0, [])), (145, (pm_ent 145).getD (0, 0, 0, 0, [])), (146, (pm_ent 146).getD (0, 0, 0, 0, [])), (147, (pm_ent 147).getD (0, 0, 0, 0, [])), (148, (pm_ent 148).getD (0, 0, 0, 0, [])), (149, (pm_ent 149).getD (0, 0, 0, 0, [])), (150, (pm_ent 150).getD (0, 0, 0, 0, [])), (151, (pm_ent 151).getD (0, 0, 0, 0, [])), (152, (pm_ent 152).getD (0, 0, 0, 0, [])), (153, (pm_ent 153).getD (0, 0, 0, 0, [])), (154, (pm_ent 154).getD (0, 0, 0, 0, [])), (155, (pm_ent 155).getD (0, 0, 0, 0, [])), (156, (pm_ent 156).getD (0, 0, 0, 0, [])), (157, (pm_ent 157).getD (0, 0, 0, 0, [])), (158, (pm_ent 158).getD (0, 0, 0, 0, [])), (159, (pm_ent 159).getD (0, 0, 0, 0, []))] : List (Nat × pm_M)) := hq
  simp only [List.mem_cons, List.not_mem_nil, or_false] at hq
  rcases hq with rfl | rfl | rfl | rfl | rfl | rfl | rfl | rfl | rfl | rfl | rfl | rfl | rfl | rfl | rfl | rfl
  · exact pm_d144
  · exact pm_d145
  · exact pm_d146
  · exact pm_d147
  · exact pm_d148
  · exact pm_d149
  · exact pm_d150
  · exact pm_d151
  · exact pm_d152
  · exact pm_d153
  · exact pm_d154
  · exact pm_d155
  · exact pm_d156
  · exact pm_d157
  · exact pm_d158
  · exact pm_d159
theorem pm_chk10 : ∀ q ∈ pm_mt.getD 10 [], pm_cm q = true := by
  intro q hq
  have hq : q ∈ ([(160, (pm_ent 160).getD (0, 0, 0, 0, [])), (161, (pm_ent 161).getD (0, 0, 0, 0, [])), (162, (pm_ent 162).getD (0, 0, 0, 0, [])), (163, (pm_ent 163).getD (0, 0, 0, 0, [])), (164, (pm_ent 164).getD (0, 0, 0, 0, [])), (165, (pm_ent 165).getD (0, 0, 0, 0, [])), (166, (pm_ent 166).getD (0, 0, 0, 0, [])), (167, (pm_ent 167).getD (0, 0, 0, 0, [])), (168, (pm_ent 168).getD (0, 0, 0, 0, [])), (169, (pm_ent 169).getD (0, 0, 0, 0, [])), (170, (pm_ent 170).getD (0, 0, 0, 0, [])), (171, (pm_ent 171).getD (0, 0, 0, 0, [])), (172, (pm_ent 172).getD (0, 0, 0, 0, [])), (173, (pm_ent 173).getD (0, 0, 0, 0, [])), (174, (pm_ent 174).getD (0, 0, 0, 0, [])), (175, (pm_ent 175).getD (0, 0, 0, 0, []))] : List (Nat × pm_M)) := hq
  simp only [List.mem_cons, List.not_mem_nil, or_false] at hq
  rcases hq with rfl | rfl | rfl | rfl | rfl | rfl | rfl | rfl | rfl | rfl | rfl | rfl | rfl | rfl | rfl | rfl
  · exact pm_d160
  · exact pm_d161
  · exact pm_d162
  · exact pm_d163
  · exact pm_d164
  · exact pm_d165
  · exact pm_d166
  · exact pm_d167
  · exact pm_d168
  · exact pm_d169
  · exact pm_d170
  · exact pm_d171
  · exact pm_d172
  · exact pm_d173
  · exact pm_d174
  · exact pm_d175
theorem pm_chk11 : ∀ q ∈ pm_mt.getD 11 [], pm_cm q = true := by
  intro q hq
  have hq : q ∈ ([(176, (pm_ent 176).getD (0, 0, 0, 0, [])), (177, (pm_ent 177).getD (0, 0, 0, 0, [])), (178, (pm_ent 178).getD (0, 0, 0, 0, [])), (179, (pm_ent 179).getD (0, 0, 0, 0, [])), (180, (pm_ent 180).getD (0, 0, 0, 0, [])), (181, (pm_ent 181).getD (0, 0, 0, 0, [])), (182, (pm_ent 182).getD (0, 0, 0, 0, [])), (183, (pm_ent 183).getD (0, 0, 0, 0, [])), (184, (pm_ent 184).getD (0, 0, 0, 0, [])), (185, (pm_ent 185).getD (0, 0, 0, 0, [])), (186, (pm_ent 186).getD (0, 0, 0, 0, [])), (187, (pm_ent 187).getD (0, 0, 0, 0, [])), (188, (pm_ent 188).getD (0, 0, 0, 0, [])), (189, (pm_ent 189).getD (0, 0, 0, 0, [])), (190, (pm_ent 190).getD (0, 0, 0, 0, [])), (191, (pm_ent 191).getD (0, 0, 0, 0, []))] : List (Nat × pm_M)) := hq
  simp only [List.mem_cons, List.not_mem_nil, or_false] at hq
  rcases hq with rfl | rfl | rfl | rfl | rfl | rfl | rfl | rfl | rfl | rfl | rfl | rfl | rfl | rfl | rfl | rfl
  · exact pm_d176
  · exact pm_d177
  · exact pm_d178
  · exact pm_d179
  · exact pm_d180
  · exact pm_d181
  · exact pm_d182
  · exact pm_d183
  · exact pm_d184
  · exact pm_d185
  · exact pm_d186
  · exact pm_d187
  · exact pm_d188
  · exact pm_d189
  · exact pm_d190
  · exact pm_d191
theorem pm_chk12 : ∀ q ∈ pm_mt.getD 12 [], pm_cm q = true := by
  intro q hq
  have hq : q ∈ ([(192, (pm_ent 192).getD (0, 0, 0, 0, [])), (193, (pm_ent 193).getD (0, 0, 0, 0, [])), (194, (pm_ent 194).getD (0, 0, 0, 0, [])), (195, (pm_ent 195).getD (0, 0, 0, 0, [])), (196, (pm_ent 196).getD (0, 0, 0, 0, [])), (197, (pm_ent 197).getD (0, 0, 0, 0, [])), (198, (pm_ent 198).getD (0, 0, 0, 0, [])), (199, (pm_ent 199).getD (0, 0, 0, 0, [])), (200, (pm_ent 200).getD (0, 0, 0, 0, [])), (201, (pm_ent 201).getD (0, 0, 0, 0, [])), (202, (pm_ent 202).getD (0, 0, 0, 0, [])), (203, (pm_ent 203).getD (0, 0, 0, 0, [])), (204, (pm_ent 204).getD (0, 0, 0, 0, [])), (205, (pm_ent 205).getD (0, 0, 0, 0, [])), (206, (pm_ent 206).getD (0, 0, 0, 0, [])), (207, (pm_ent 207).getD (0, 0, 0, 0, []))] : List (Nat × pm_M)) := hq
  simp only [List.mem_cons, List.not_mem_nil, or_false] at hq
  rcases hq with rfl | rfl | rfl | rfl | rfl | rfl | rfl | rfl | rfl | rfl | rfl | rfl | rfl | rfl | rfl | rfl
  · exact pm_d192
  · exact pm_d193
  · exact pm_d194
  · exact pm_d195
  · exact pm_d196
  · exact pm_d197
  · exact pm_d198
  · exact pm_d199
  · exact pm_d200
  · exact pm_d201
  · exact pm_d202
  · exact pm_d203
  · exact pm_d204
  · exact pm_d205
  · exact pm_d206
  · exact pm_d207
theorem pm_chk13 : ∀ q ∈ pm_mt.getD 13 [], pm_cm q = true := by
  intro q hq
  have hq : q ∈ ([(208, (pm_ent 208).getD (0, 0, 0, 0, [])), (209, (pm_ent 209).getD (0, 0, 0, 0, [])), (210, (pm_ent 210).getD (0, 0, 0, 0, [])), (211, (pm_ent 211).getD (0, 0, 0, 0, [])), (212, (pm_ent 212).getD (0, 0, 0, 0, [])), (213, (pm_ent 213).getD (0, 0, 0, 0, [])), (214, (pm_ent 214).getD (0, 0, 0, 0, [])), (215, (pm_ent 215).getD (0, 0, 0, 0, [])), (216, (pm_ent 216).getD (0, 0, 0, 0, [])), (217, (pm_ent 217).getD (0, 0, 0, 0, [])), (218, (pm_ent 218).getD (0, 0, 0, 0, [])), (219, (pm_ent 219).getD (0, 0, 0, 0, [])), (220, (pm_ent 220).getD (0, 0, 0, 0, [])), (221, (pm_ent 221).getD (0, 0, 0, 0, [])), (222, (pm_ent 222).getD (0, 0, 0, 0, [])), (223, (pm_ent 223).getD (0, 0, 0, 0, []))] : List (Nat × pm_M)) := hq
  simp only [List.mem_cons, List.not_mem_nil, or_false] at hq
  rcases hq with rfl | rfl | rfl | rfl | rfl | rfl | rfl | rfl | rfl | rfl | rfl | rfl | rfl | rfl | rfl | rfl
  · exact pm_d208
  · exact pm_d209
  · exact pm_d210
  · exact pm_d211
  · exact pm_d212
  · exact pm_d213
  · exact pm_d214
  · exact pm_d215
  · exact pm_d216
  · exact pm_d217
  · exact pm_d218
  · exact pm_d219
  · exact pm_d220
  · exact pm_d221
  · exact pm_d222
  · exact pm_d223
theorem pm_chk14 : ∀ q ∈ pm_mt.getD 14 [], pm_cm q = true := by
  intro q hq
  have hq : q ∈ ([(224, (pm_ent 224).getD (0, 0, 0, 0, [])), (225, (pm_ent 225).getD (0, 0, 0, 0, [])), (226, (pm_ent 226).getD (0, 0, 0, 0, [])), (227, (pm_ent 227).getD (0, 0, 0, 0, [])), (228, (pm_ent 228).getD (0, 0, 0, 0, [])), (229, (pm_ent 229).getD (0, 0, 0, 0, [])), (230, (pm_ent 230).getD (0, 0, 0, 0, [])), (231, (pm_ent 231).getD (0, 0, 0, 0, [])), (232, (pm_ent 232).getD (0, 0, 0, 0, [])), (233, (pm_ent 233).getD (0, 0, 0, 0, [])), (234, (pm_ent 234).getD (0, 0, 0, 0, [])), (235, (pm_ent 235).getD (0, 0, 0, 0, [])), (236, (pm_ent 236).getD (0, 0, 0, 0, [])), (237, (pm_ent 237).getD (0, 0, 0, 0, [])), (238, (pm_ent 238).getD (0, 0, 0, 0, [])), (239, (pm_ent 239).getD (0, 0, 0, 0, []))] : List (Nat × pm_M)) := hq
  simp only [List.mem_cons, List.not_mem_nil, or_false] at hq
  rcases hq with rfl | rfl | rfl | rfl | rfl | rfl | rfl | rfl | rfl | rfl | rfl | rfl | rfl | rfl | rfl | rfl
  · exact pm_d224
  · exact pm_d225
  · exact pm_d226
  · exact pm_d227
  · exact pm_d228
  · exact pm_d229
  · exact pm_d230
  · exact pm_d231
  · exact pm_d232
  · exact pm_d233
  · exact pm_d234
  · exact pm_d235
  · exact pm_d236
  · exact pm_d237
  · exact pm_d238
  · exact pm_d239
theorem pm_chk15 : ∀ q ∈ pm_mt.getD 15 [], pm_cm q = true := by
  intro q hq
  have hq : q ∈ ([(240, (pm_ent 240).getD (0, 0, 0, 0, [])), (241, (pm_ent 241).getD (0, 0, 0, 0, [])), (242, (pm_ent 242).getD (0, 0, 0, 0, [])), (243, (pm_ent 243).getD (0, 0, 0, 0, [])), (244, (pm_ent 244).getD (0, 0, 0, 0, [])), (245, (pm_ent 245).getD (0, 0, 0, 0, [])), (246, (pm_ent 246).getD (0, 0, 0, 0, [])), (247, (pm_ent 247).getD (0, 0, 0, 0, [])), (248, (pm_ent 248).getD (0, 0, 0, 0, [])), (249, (pm_ent 249).getD (0, 0, 0, 0, [])), (250, (pm_ent 250).getD (0, 0, 0, 0, [])), (251, (pm_ent 251).getD (0, 0, 0, 0, [])), (252, (pm_ent 252).getD (0, 0, 0, 0, [])), (253, (pm_ent 253).getD (0, 0, 0, 0, [])), (254, (pm_ent 254).getD (0, 0, 0, 0, [])), (255, (pm_ent 255).getD (0, 0, 0, 0, []))] : List (Nat × pm_M)) := hq
  simp only [List.mem_cons, List.not_mem_nil, or_false] at hq
  rcases hq with rfl | rfl | rfl | rfl | rfl | rfl | rfl | rfl | rfl | rfl | rfl | rfl | rfl | rfl | rfl | rfl
  · exact pm_d240
  · exact pm_d241
  · exact pm_d242
  · exact pm_d243
  · exact pm_d244
  · exact pm_d245
  · exact pm_d246
  · exact pm_d247
  · exact pm_d248
  · exact pm_d249
  · exact pm_d250
  · exact pm_d251
  · exact pm_d252
  · exact pm_d253
  · exact pm_d254
  · exact pm_d255
theorem pm_chk16 : ∀ q ∈ pm_mt.getD 16 [], pm_cm q = true := by
  intro q hq
  have hq : q ∈ ([(256, (pm_ent 256).getD (0, 0, 0, 0, [])), (257, (pm_ent 257).getD (0, 0, 0, 0, [])), (258, (pm_ent 258).getD (0, 0, 0, 0, [])), (259, (pm_ent 259).getD (0, 0, 0, 0, [])), (260, (pm_ent 260).getD (0, 0, 0, 0, [])), (261, (pm_ent 261).getD (0, 0, 0, 0, [])), (262, (pm_ent 262).getD (0, 0, 0, 0, [])), (263, (pm_ent 263).getD (0, 0, 0, 0, [])), (264, (pm_ent 264).getD (0, 0, 0, 0, [])), (265, (pm_ent 265).getD (0, 0, 0, 0, [])), (266, (pm_ent 266).getD (0, 0, 0, 0, [])), (267, (pm_ent 267).getD (0, 0, 0, 0, [])), (268, (pm_ent 268).getD (0, 0, 0, 0, [])), (269, (pm_ent 269).getD (0, 0, 0, 0, [])), (270, (pm_ent 270).getD (0, 0, 0, 0, [])), (271, (pm_ent 271).getD (0, 0, 0, 0, []))] : List (Nat × pm_M)) := hq
  simp only [List.mem_cons, List.not_mem_nil, or_false] at hq
  rcases hq with rfl | rfl | rfl | rfl | rfl | rfl | rfl | rfl | rfl | rfl | rfl | rfl | rfl | rfl | rfl | rfl
  · exact pm_d256
  · exact pm_d257
  · exact pm_d258
  · exact pm_d259
  · exact pm_d260
  · exact pm_d261
  · exact pm_d262
  · exact pm_d263
  · exact pm_d264
  · exact pm_d265
  · exact pm_d266
  · exact pm_d267
  · exact pm_d268
  · exact pm_d269
  · exact pm_d270
  · exact pm_d271
theorem pm_chk17 : ∀ q ∈ pm_mt.getD 17 [], pm_cm q = true := by
  intro q hq
  have hq : q ∈ ([(272, (pm_ent 272).getD (0, 0, 0, 0, [])), (273, (pm_ent 273).getD (0, 0, 0, 0, [])), (274, (pm_ent 274).getD (0, 0, 0, 0, [])), (275, (pm_ent 275).getD (0, 0, 0, 0, [])), (276, (pm_ent 276).getD (0, 0, 0, 0, [])), (277, (pm_ent 277).getD (0, 0, 0, 0, [])), (278, (pm_ent 278).getD (0, 0, 0, 0, [])), (279, (pm_ent 279).getD (0, 0, 0, 0, [])), (280, (pm_ent 280).getD (0, 0, 0, 0, [])), (281, (pm_ent 281).getD (0, 0, 0, 0, [])), (282, (pm_ent 282).getD (0, 0, 0, 0, [])), (283, (pm_ent 283).getD (0, 0, 0, 0, [])), (284, (pm_ent 284).getD (0, 0, 0, 0, [])), (285, (pm_ent 285).getD (0, 0, 0, 0, [])), (286, (pm_ent 286).getD (0, 0, 0, 0, [])), (287, (pm_ent 287).getD (0, 0, 0, 0, []))] : List (Nat × pm_M)) := hq
  simp only [List.mem_cons, List.not_mem_nil, or_false] at hq
  rcases hq with rfl | rfl | rfl | rfl | rfl | rfl | rfl | rfl | rfl | rfl | rfl | rfl | rfl | rfl | rfl | rfl
  · exact pm_d272
  · exact pm_d273
  · exact pm_d274
  · exact pm_d275
  · exact pm_d276
  · exact pm_d277
  · exact pm_d278
  · exact pm_d279
  · exact pm_d280
  · exact pm_d281
  · exact pm_d282
  · exact pm_d283
  · exact pm_d284
  · exact pm_d285
  · exact pm_d286
  · exact pm_d287
theorem pm_chk18 : ∀ q ∈ pm_mt.getD 18 [], pm_cm q = true := by
  intro q hq
  have hq : q ∈ ([(288, (pm_ent 288).getD (0, 0, 0, 0, [])), (289, (pm_ent 289).getD (0, 0, 0, 0, [])), (290, (pm_ent 290).getD (0, 0, 0, 0, [])), (291, (pm_ent 291).getD (0, 0, 0, 0, [])), (292, (pm_ent 292).getD (0, 0, 0, 0, [])), (293, (pm_ent 293).getD (0, 0, 0, 0, [])), (294, (pm_ent 294).getD (0, 0, 0, 0, [])), (295, (pm_ent 295).getD (0, 0, 0, 0, [])), (296, (pm_ent 296).getD (0, 0, 0, 0, [])), (297, (pm_ent 297).getD (0, 0, 0, 0, [])), (298, (pm_ent 298).getD (0, 0, 0, 0, [])), (299, (pm_ent 299).getD (0, 0, 0, 0, [])), (300, (pm_ent 300).getD (0, 0, 0, 0, [])), (301, (pm_ent 301).getD (0, 0, 0, 0, [])), (302, (pm_ent 302).getD (0, 0, 0, 0, [])), (303, (pm_ent 303).getD (0, 0, 0, 0, []))] : List (Nat × pm_M)) := hq
  simp only [List.mem_cons, List.not_mem_nil, or_false] at hq
  rcases hq with rfl | rfl | rfl | rfl | rfl | rfl | rfl | rfl | rfl | rfl | rfl | rfl | rfl | rfl | rfl | rfl
  · exact pm_d288
  · exact pm_d289
  · exact pm_d290
  · exact pm_d291
  · exact pm_d292
  · exact pm_d293
  · exact pm_d294
  · exact pm_d295
  · exact pm_d296
  · exact pm_d297
  · exact pm_d298
  · exact pm_d299
  · exact pm_d300
  · exact pm_d301
  · exact pm_d302
  · exact pm_d303
theorem pm_chk19 : ∀ q ∈ pm_mt.getD 19 [], pm_cm q = true := by
  intro q hq
  have hq : q ∈ ([(304, (pm_ent 304).getD (0, 0, 0, 0, [])), (305, (pm_ent 305).getD (0, 0, 0, 0, [])), (306, (pm_ent 306).getD (0, 0, 0, 0, [])), (307, (pm_ent 307).getD (0, 0, 0, 0, [])), (308, (pm_ent 308).getD (0, 0, 0, 0, [])), (309, (pm_ent 309).getD (0, 0, 0, 0, [])), (310, (pm_ent 310).getD (0, 0, 0, 0, [])), (311, (pm_ent 311).getD (0, 0, 0, 0, [])), (312, (pm_ent 312).getD (0, 0, 0, 0, [])), (313, (pm_ent 313).getD (0, 0, 0, 0, [])), (314, (pm_ent 314).getD (0, 0, 0, 0, [])), (315, (pm_ent 315).getD (0, 0, 0, 0, [])), (316, (pm_ent 316).getD (0, 0, 0, 0, [])), (317, (pm_ent 317).getD (0, 0, 0, 0, [])), (318, (pm_ent 318).getD (0, 0, 0, 0, [])), (319, (pm_ent 319).getD (0, 0, 0, 0, []))] : List (Nat × pm_M)) := hq
  simp only [List.mem_cons, List.not_mem_nil, or_false] at hq
  rcases hq with rfl | rfl | rfl | rfl | rfl | rfl | rfl | rfl | rfl | rfl | rfl | rfl | rfl | rfl | rfl | rfl
  · exact pm_d304
  · exact pm_d305
  · exact pm_d306
  · exact pm_d307
  · exact pm_d308
  · exact pm_d309
  · exact pm_d310
  · exact pm_d311
  · exact pm_d312
  · exact pm_d313
  · exact pm_d314
  · exact pm_d315
  · exact pm_d316
  · exact pm_d317
  · exact pm_d318
  · exact pm_d319
theorem pm_chk20 : ∀ q ∈ pm_mt.getD 20 [], pm_cm q = true := by
  intro q hq
  have hq : q ∈ ([(320, (pm_ent 320).getD (0, 0, 0, 0, [])), (321, (pm_ent 321).getD (0, 0, 0, 0, [])), (322, (pm_ent 322).getD (0, 0, 0, 0, [])), (323, (pm_ent 323).getD (0, 0, 0, 0, [])), (324, (pm_ent 324).getD (0, 0, 0, 0, [])), (325, (pm_ent 325).getD (0, 0, 0, 0, [])), (326, (pm_ent 326).getD (0, 0, 0, 0, [])), (327, (pm_ent 327).getD (0, 0, 0, 0, [])), (328, (pm_ent 328).getD (0, 0, 0, 0, [])), (329, (pm_ent 329).getD (0, 0, 0, 0, [])), (330, (pm_ent 330).getD (0, 0, 0, 0, [])), (331, (pm_ent 331).getD (0, 0, 0, 0, [])), (332, (pm_ent 332).getD (0, 0, 0, 0, [])), (333, (pm_ent 333).getD (0, 0, 0, 0, [])), (334, (pm_ent 334).getD (0, 0, 0, 0, [])), (335, (pm_ent 335).getD (0, 0, 0, 0, []))] : List (Nat × pm_M)) := hq
  simp only [List.mem_cons, List.not_mem_nil, or_false] at hq
  rcases hq with rfl | rfl | rfl | rfl | rfl | rfl | rfl | rfl | rfl | rfl | rfl | rfl | rfl | rfl | rfl | rfl
  · exact pm_d320
  · exact pm_d321
  · exact pm_d322
  · exact pm_d323
  · exact pm_d324
  · exact pm_d325
  · exact pm_d326
  · exact pm_d327
  · exact pm_d328
  · exact pm_d329
  · exact pm_d330
  · exact pm_d331
  · exact pm_d332
  · exact pm_d333
  · exact pm_d334
  · exact pm_d335
theorem pm_chk21 : ∀ q ∈ pm_mt.getD 21 [], pm_cm q = true := by
  intro q hq
  have hq : q ∈ ([(336, (pm_ent 336).getD (0, 0, 0, 0, [])), (337, (pm_ent 337).getD (0, 0, 0, 0, [])), (338, (pm_ent 338).getD (0, 0, 0, 0, [])), (339, (pm_ent 339).getD (0, 0, 0, 0, [])), (340, (pm_ent 340).getD (0, 0, 0, 0, []))] : List (Nat × pm_M)) := hq
  simp only [List.mem_cons, List.not_mem_nil, or_false] at hq
  rcases hq with rfl | rfl | rfl | rfl | rfl
  · exact pm_d336
  · exact pm_d337
  · exact pm_d338
  · exact pm_d339
  · exact pm_d340
theorem pm_cmA {m : Nat} {e : pm_M} (h : pm_ent m = some e) : pm_cm (m, e) = true := by
  have h : pm_get pm_mt m = some e := h
  unfold pm_get at h
  cases hc : pm_nth pm_mt (m / 16) with
  | none => rw [hc] at h; cases h
  | some c =>
    rw [hc] at h
    have hm : (m, e) ∈ c := pm_fnd_mem h
    rw [pm_nth_eq] at hc
    have hd : pm_mt.getD (m / 16) [] = c := by rw [List.getD_eq_getElem?_getD, hc]; rfl
    rw [← hd] at hm
    have hlt : m / 16 < 22 := (List.getElem?_eq_some_iff.mp hc).1
    match hz : m / 16 with
    | 0 => rw [hz] at hm; exact pm_chk0 _ hm
    | 1 => rw [hz] at hm; exact pm_chk1 _ hm
    | 2 => rw [hz] at hm; exact pm_chk2 _ hm
    | 3 => rw [hz] at hm; exact pm_chk3 _ hm
    | 4 => rw [hz] at hm; exact pm_chk4 _ hm
    | 5 => rw [hz] at hm; exact pm_chk5 _ hm
    | 6 => rw [hz] at hm; exact pm_chk6 _ hm
    | 7 => rw [hz] at hm; exact pm_chk7 _ hm
    | 8 => rw [hz] at hm; exact pm_chk8 _ hm
    | 9 => rw [hz] at hm; exact pm_chk9 _ hm
    | 10 => rw [hz] at hm; exact pm_chk10 _ hm
    | 11 => rw [hz] at hm; exact pm_chk11 _ hm
    | 12 => rw [hz] at hm; exact pm_chk12 _ hm
    | 13 => rw [hz] at hm; exact pm_chk13 _ hm
    | 14 => rw [hz] at hm; exact pm_chk14 _ hm
    | 15 => rw [hz] at hm; exact pm_chk15 _ hm
    | 16 => rw [hz] at hm; exact pm_chk16 _ hm
    | 17 => rw [hz] at hm; exact pm_chk17 _ hm
    | 18 => rw [hz] at hm; exact pm_chk18 _ hm
    | 19 => rw [hz] at hm; exact pm_chk19 _ hm
    | 20 => rw [hz] at hm; exact pm_chk20 _ hm
    | 21 => rw [hz] at hm; exact pm_chk21 _ hm
    | j + 22 => exact absurd hlt (by omega)
/-- an instruction of a method: decode gives it, its length, what may stand where -/
theorem pm_code {m pc len : Nat} {e : pm_M} {y : pm_Hd} {i : Instr} (he : pm_ent m = some e) (hy : pm_get pm_hds m = some y) (h : pm_get e.2.2.2.2 pc = some (i, len)) : decode (pm_byt y.2.1) pc = .ok (i, len) ∧ (Nat.beq (pm_ln i) 0 || Nat.beq (pm_ln i) len) = true ∧ pm_oki m e y pc i = true := by
  have h1 := pm_cmA he
  unfold pm_cm at h1
  dsimp only at h1
  rw [hy] at h1
  dsimp only at h1
  rw [pm_all_eq, List.all_eq_true] at h1
  obtain ⟨c, hc, hm⟩ := pm_get_mem h
  have h2 := h1 c hc
  rw [pm_all_eq, List.all_eq_true] at h2
  have h3 := h2 _ hm
  unfold pm_crow at h3
  dsimp only at h3
  cases q1 : decide (decode (pm_byt y.2.1) pc = .ok (i, len)) with
  | false => rw [q1] at h3; cases h3
  | true =>
    rw [q1, cond_true] at h3
    cases q2 : (Nat.beq (pm_ln i) 0 || Nat.beq (pm_ln i) len) with
    | false => rw [q2] at h3; cases h3
    | true =>
      rw [q2, cond_true] at h3
      exact ⟨of_decide_eq_true q1, rfl, h3⟩
