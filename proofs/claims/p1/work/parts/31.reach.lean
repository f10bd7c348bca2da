def e_I (tu bi li : Int32) : Nat → Nat → Int32 := fun k j => cond (Nat.beq k 3) (cond (Nat.beq j 6) tu (cond (Nat.beq j 7) bi (cond (Nat.beq j 8) li 0))) 0
def e_mv (I : Nat → Nat → Int32) (s : Int64) : List Int64 := [w_after0 I s, w_after1 I s, w_after2 I s, w_after4 I s, w_after6 I s, w_after7 I s, w_after8 I s, w_after10 I s]
def e_bk (s : Int64) : Nat := s.toBitVec.toNat * 2654435761 / 65536 % 64
def e_in (B : List (List Int64)) (s : Int64) : Bool := (B.getD (e_bk s) []).contains s
def e_cl (I : Nat → Nat → Int32) (B : List (List Int64)) (R : List Int64) : Bool := R.all (fun s => (e_mv I s).all (fun x => x == -1 || e_in B x) && w_flaw3 I s == 0 && w_flaw5 I s == 0 && w_flaw9 I s == 0)
def e_nd (B : List (List Int64)) : Nat := (B.map List.length).sum
def e_B00 : List (List Int64) := [[0], [11832635752973, 11974420005389, 29704212775437, 11836964274701], [], [], [2482491097613, 12885033474, 154669285890, 18709095776770, 17213555202], [], [], [], [], [], [], [], [], [], [], [], [9702331974403, 9775396750083, 27573908996867, 9637941019395], [2478196129805, 14066018749699, 2589865476877, 14173443263747, 31937595772163, 2628570514189, 21011198313229, 14035987533059, 2491114783501], [7262789897485, 7301494934797, 25409244826893, 7164039204109], [77309412099], [4990752001283], [], [9633612497411, 9775396749827, 27505189519875, 9637941019139], [2589865476621, 2628570513933, 21011198312973, 2491114783245], [], [8589935107, 9702331974402, 14031659011330, 9775396750082, 27573908996866, 14173443263746, 31903236033794, 9637941019394, 14035987533058], [], [], [77309412098, 4956392262914], [], [], [9633612497410, 9775396749826, 27505189519874, 9637941019138], [2486786196237, 2628570448653, 20908119032589, 2491114717965], [7159710616845, 7301494869261, 25306165546253, 7164039138573], [8589935106], [], [], [], [38654705667, 115964314371, 154669351683, 18812175057667, 17213620995, 2486786195981, 2628570448397, 20908119032333, 2491114717709], [5063766641923, 5102471679235, 23210221571331, 4965015948547], [], [], [], [], [115964314115, 154669351427, 18812175057411, 17213620739], [], [4294967298], [115964314370, 5063766641922, 154669351682, 18812175057666, 5102471679234, 23210221571330, 17213620994, 4965015948546], [], [], [], [], [], [12885033731, 154669286147, 18709095777027, 115964314114, 17213555459, 154669351426, 18812175057410, 17213620738], [4960687361283, 5102471613699, 23107142290691, 4965015883011], [], [], [], [], [11901355229965, 11974420005645, 29772932252429, 12885033475, 11836964274957, 154669285891, 18709095776771, 17213555203], [16230682266893, 16372466519309, 34102259289357, 16235010788621], [], [2551210574605, 12885033730, 4960687361282, 154669286146, 18709095777026, 5102471613698, 23107142290690, 17213555458, 4965015883010], [7155415518477]]
set_option maxRecDepth 1000000 in
theorem e_c00_0_0 : ((e_B00.drop 0).take 16).all (fun R => e_cl (e_I 0 0 0) e_B00 R) = true := by decide +kernel
set_option maxRecDepth 1000000 in
theorem e_c00_0_1 : ((e_B00.drop 16).take 16).all (fun R => e_cl (e_I 0 0 0) e_B00 R) = true := by decide +kernel
set_option maxRecDepth 1000000 in
theorem e_c00_0_2 : ((e_B00.drop 32).take 16).all (fun R => e_cl (e_I 0 0 0) e_B00 R) = true := by decide +kernel
set_option maxRecDepth 1000000 in
theorem e_c00_0_3 : ((e_B00.drop 48).take 16).all (fun R => e_cl (e_I 0 0 0) e_B00 R) = true := by decide +kernel
set_option maxRecDepth 1000000 in
theorem e_c00_1_0 : ((e_B00.drop 0).take 16).all (fun R => e_cl (e_I 0 1 0) e_B00 R) = true := by decide +kernel
set_option maxRecDepth 1000000 in
theorem e_c00_1_1 : ((e_B00.drop 16).take 16).all (fun R => e_cl (e_I 0 1 0) e_B00 R) = true := by decide +kernel
set_option maxRecDepth 1000000 in
theorem e_c00_1_2 : ((e_B00.drop 32).take 16).all (fun R => e_cl (e_I 0 1 0) e_B00 R) = true := by decide +kernel
set_option maxRecDepth 1000000 in
theorem e_c00_1_3 : ((e_B00.drop 48).take 16).all (fun R => e_cl (e_I 0 1 0) e_B00 R) = true := by decide +kernel
theorem e_n00 : e_nd e_B00 = 121 := by decide +kernel
theorem e_z00 : e_in e_B00 0 = true := by decide +kernel
def e_B10 : List (List Int64) := [[0], [], [], [11901355229964], [2482491097613, 154669285890, 12885033474, 17213555202, 18709095776770], [23107142290434], [], [7155415518476], [], [], [11832635752972, 11974420005388, 11836964274700], [16230682266636, 16372466519052, 16235010788364], [], [], [], [], [], [2478196129805], [29772932186892], [], [4990752001283], [], [], [14066018749443, 2589865476621], [], [9702331974402, 29704212709900], [7262789897484, 34102259223564], [], [77309412098, 4956392262914], [], [], [9633612497410, 9775396749826, 9637941019138], [14031659011074, 14173443263490, 21011198312972, 14035987532802], [25409244826636], [8589935106], [], [], [], [38654705667, 31937595706371, 2628570448397, 2486786195981, 2491114717709], [], [27573908931330], [7301494869260, 7159710616844, 7164039138572], [], [], [], [], [4294967298, 27505189454338], [5063766641922, 31903235968002, 20908119032332], [25306165545996], [], [], [], [], [115964314114, 18812175057410], [23210221571074], [], [], [], [], [], [], [], [2551210574605, 5102471613698, 4960687361282, 4965015883010], []]
set_option maxRecDepth 1000000 in
theorem e_c10_0_0 : ((e_B10.drop 0).take 16).all (fun R => e_cl (e_I 1 0 0) e_B10 R) = true := by decide +kernel
set_option maxRecDepth 1000000 in
theorem e_c10_0_1 : ((e_B10.drop 16).take 16).all (fun R => e_cl (e_I 1 0 0) e_B10 R) = true := by decide +kernel
set_option maxRecDepth 1000000 in
theorem e_c10_0_2 : ((e_B10.drop 32).take 16).all (fun R => e_cl (e_I 1 0 0) e_B10 R) = true := by decide +kernel
set_option maxRecDepth 1000000 in
theorem e_c10_0_3 : ((e_B10.drop 48).take 16).all (fun R => e_cl (e_I 1 0 0) e_B10 R) = true := by decide +kernel
set_option maxRecDepth 1000000 in
theorem e_c10_1_0 : ((e_B10.drop 0).take 16).all (fun R => e_cl (e_I 1 1 0) e_B10 R) = true := by decide +kernel
set_option maxRecDepth 1000000 in
theorem e_c10_1_1 : ((e_B10.drop 16).take 16).all (fun R => e_cl (e_I 1 1 0) e_B10 R) = true := by decide +kernel
set_option maxRecDepth 1000000 in
theorem e_c10_1_2 : ((e_B10.drop 32).take 16).all (fun R => e_cl (e_I 1 1 0) e_B10 R) = true := by decide +kernel
set_option maxRecDepth 1000000 in
theorem e_c10_1_3 : ((e_B10.drop 48).take 16).all (fun R => e_cl (e_I 1 1 0) e_B10 R) = true := by decide +kernel
theorem e_n10 : e_nd e_B10 = 57 := by decide +kernel
theorem e_z10 : e_in e_B10 0 = true := by decide +kernel
