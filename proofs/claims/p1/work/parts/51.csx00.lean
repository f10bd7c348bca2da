/-! a closed set of the class's states: turn 0, limit 0 -/
def cb00 : List (List Nat) := [[0, 2628570513933], [], [], [17213620994], [17213620995], [16372466519309, 20908119032333], [], [2491114717965], [21011198312973], [38654705667, 154669351426], [154669351427], [4965015883010], [4965015883011], [2628570448397], [], [11836964274701], [7159710616845, 17213555458], [17213555459], [], [7262789897485], [], [], [154669285890], [14173443263746, 154669285891, 18709095776770], [14173443263747, 18709095776771], [], [14066018749699, 18812175057410], [18812175057411], [11974420005645], [], [2486786196237], [], [4990752001283], [2589865476877, 9637941019138], [4960687361282, 9637941019139], [2482491097613, 4960687361283], [25306165546253], [5063766641922, 31937595772163], [5063766641923, 11832635752973], [25409244826893, 12885033730], [12885033731, 7301494934797], [2491114783245], [115964314370], [115964314371], [8589935106], [8589935107], [9775396750082, 16235010788621], [9775396750083], [], [29704212775437], [17213620738], [17213620739], [], [7301494869261], [2628570514189, 23107142290690, 2491114717709], [23107142290691], [9633612497410], [9633612497411, 23210221571330], [23210221571331, 5102471679234], [5102471679235, 20908119032589], [], [2478196129805], [21011198313229], [154669351682, 17213555202], [154669351683, 14035987533058, 17213555203], [14035987533059], [2551210574605], [2628570448653, 27505189519874], [27505189519875], [11901355229965, 16230682266893, 11836964274957], [4294967298], [5102471613698], [5102471613699], [], [], [7155415518477, 77309412098, 11974420005389], [77309412099, 154669286146], [154669286147, 2486786195981, 18709095777026], [18709095777027], [], [2589865476621, 29772932252429, 34102259289357, 18812175057666], [18812175057667, 7164039204109], [], [], [], [], [12885033474], [9702331974402, 14031659011330, 12885033475, 9637941019394], [9702331974403, 9637941019395], [115964314114], [115964314115], [], [], [4956392262914, 9775396749826], [9775396749827, 7164039138573], [2491114783501], [], [], [27573908996866, 31903236033794], [27573908996867, 4965015948546], [4965015948547]]
set_option maxRecDepth 1000000 in
theorem ck00_0 : ((cb00.drop 0).take 4).all (fun l => l.all (fun c => oks 0 0 cb00 (Int64.ofNat c))) = true := by decide +kernel
set_option maxRecDepth 1000000 in
theorem ck00_4 : ((cb00.drop 4).take 4).all (fun l => l.all (fun c => oks 0 0 cb00 (Int64.ofNat c))) = true := by decide +kernel
set_option maxRecDepth 1000000 in
theorem ck00_8 : ((cb00.drop 8).take 4).all (fun l => l.all (fun c => oks 0 0 cb00 (Int64.ofNat c))) = true := by decide +kernel
set_option maxRecDepth 1000000 in
theorem ck00_12 : ((cb00.drop 12).take 4).all (fun l => l.all (fun c => oks 0 0 cb00 (Int64.ofNat c))) = true := by decide +kernel
set_option maxRecDepth 1000000 in
theorem ck00_16 : ((cb00.drop 16).take 4).all (fun l => l.all (fun c => oks 0 0 cb00 (Int64.ofNat c))) = true := by decide +kernel
set_option maxRecDepth 1000000 in
theorem ck00_20 : ((cb00.drop 20).take 4).all (fun l => l.all (fun c => oks 0 0 cb00 (Int64.ofNat c))) = true := by decide +kernel
set_option maxRecDepth 1000000 in
theorem ck00_24 : ((cb00.drop 24).take 4).all (fun l => l.all (fun c => oks 0 0 cb00 (Int64.ofNat c))) = true := by decide +kernel
set_option maxRecDepth 1000000 in
theorem ck00_28 : ((cb00.drop 28).take 4).all (fun l => l.all (fun c => oks 0 0 cb00 (Int64.ofNat c))) = true := by decide +kernel
set_option maxRecDepth 1000000 in
theorem ck00_32 : ((cb00.drop 32).take 4).all (fun l => l.all (fun c => oks 0 0 cb00 (Int64.ofNat c))) = true := by decide +kernel
set_option maxRecDepth 1000000 in
theorem ck00_36 : ((cb00.drop 36).take 4).all (fun l => l.all (fun c => oks 0 0 cb00 (Int64.ofNat c))) = true := by decide +kernel
set_option maxRecDepth 1000000 in
theorem ck00_40 : ((cb00.drop 40).take 4).all (fun l => l.all (fun c => oks 0 0 cb00 (Int64.ofNat c))) = true := by decide +kernel
set_option maxRecDepth 1000000 in
theorem ck00_44 : ((cb00.drop 44).take 4).all (fun l => l.all (fun c => oks 0 0 cb00 (Int64.ofNat c))) = true := by decide +kernel
set_option maxRecDepth 1000000 in
theorem ck00_48 : ((cb00.drop 48).take 4).all (fun l => l.all (fun c => oks 0 0 cb00 (Int64.ofNat c))) = true := by decide +kernel
set_option maxRecDepth 1000000 in
theorem ck00_52 : ((cb00.drop 52).take 4).all (fun l => l.all (fun c => oks 0 0 cb00 (Int64.ofNat c))) = true := by decide +kernel
set_option maxRecDepth 1000000 in
theorem ck00_56 : ((cb00.drop 56).take 4).all (fun l => l.all (fun c => oks 0 0 cb00 (Int64.ofNat c))) = true := by decide +kernel
set_option maxRecDepth 1000000 in
theorem ck00_60 : ((cb00.drop 60).take 4).all (fun l => l.all (fun c => oks 0 0 cb00 (Int64.ofNat c))) = true := by decide +kernel
set_option maxRecDepth 1000000 in
theorem ck00_64 : ((cb00.drop 64).take 4).all (fun l => l.all (fun c => oks 0 0 cb00 (Int64.ofNat c))) = true := by decide +kernel
set_option maxRecDepth 1000000 in
theorem ck00_68 : ((cb00.drop 68).take 4).all (fun l => l.all (fun c => oks 0 0 cb00 (Int64.ofNat c))) = true := by decide +kernel
set_option maxRecDepth 1000000 in
theorem ck00_72 : ((cb00.drop 72).take 4).all (fun l => l.all (fun c => oks 0 0 cb00 (Int64.ofNat c))) = true := by decide +kernel
set_option maxRecDepth 1000000 in
theorem ck00_76 : ((cb00.drop 76).take 4).all (fun l => l.all (fun c => oks 0 0 cb00 (Int64.ofNat c))) = true := by decide +kernel
set_option maxRecDepth 1000000 in
theorem ck00_80 : ((cb00.drop 80).take 4).all (fun l => l.all (fun c => oks 0 0 cb00 (Int64.ofNat c))) = true := by decide +kernel
set_option maxRecDepth 1000000 in
theorem ck00_84 : ((cb00.drop 84).take 4).all (fun l => l.all (fun c => oks 0 0 cb00 (Int64.ofNat c))) = true := by decide +kernel
set_option maxRecDepth 1000000 in
theorem ck00_88 : ((cb00.drop 88).take 4).all (fun l => l.all (fun c => oks 0 0 cb00 (Int64.ofNat c))) = true := by decide +kernel
set_option maxRecDepth 1000000 in
theorem ck00_92 : ((cb00.drop 92).take 4).all (fun l => l.all (fun c => oks 0 0 cb00 (Int64.ofNat c))) = true := by decide +kernel
set_option maxRecDepth 1000000 in
theorem ck00_96 : ((cb00.drop 96).take 4).all (fun l => l.all (fun c => oks 0 0 cb00 (Int64.ofNat c))) = true := by decide +kernel
set_option maxRecDepth 1000000 in
theorem ck00_100 : ((cb00.drop 100).take 4).all (fun l => l.all (fun c => oks 0 0 cb00 (Int64.ofNat c))) = true := by decide +kernel
theorem ck00 : ∀ c, c ∈ cb00.flatten → oks 0 0 cb00 (Int64.ofNat c) = true := by
  intro c hc
  obtain ⟨l, hl, hcl⟩ := List.mem_flatten.mp hc
  have hs : cb00 = (cb00.drop 0).take 4 ++ (cb00.drop 4).take 4 ++ (cb00.drop 8).take 4 ++ (cb00.drop 12).take 4 ++ (cb00.drop 16).take 4 ++ (cb00.drop 20).take 4 ++ (cb00.drop 24).take 4 ++ (cb00.drop 28).take 4 ++ (cb00.drop 32).take 4 ++ (cb00.drop 36).take 4 ++ (cb00.drop 40).take 4 ++ (cb00.drop 44).take 4 ++ (cb00.drop 48).take 4 ++ (cb00.drop 52).take 4 ++ (cb00.drop 56).take 4 ++ (cb00.drop 60).take 4 ++ (cb00.drop 64).take 4 ++ (cb00.drop 68).take 4 ++ (cb00.drop 72).take 4 ++ (cb00.drop 76).take 4 ++ (cb00.drop 80).take 4 ++ (cb00.drop 84).take 4 ++ (cb00.drop 88).take 4 ++ (cb00.drop 92).take 4 ++ (cb00.drop 96).take 4 ++ (cb00.drop 100).take 4 := by decide +kernel
  rw [hs] at hl
  simp only [List.mem_append] at hl
  rcases hl with ((((((((((((((((((((((((hl | hl) | hl) | hl) | hl) | hl) | hl) | hl) | hl) | hl) | hl) | hl) | hl) | hl) | hl) | hl) | hl) | hl) | hl) | hl) | hl) | hl) | hl) | hl) | hl) | hl
  · exact List.all_eq_true.mp (List.all_eq_true.mp ck00_0 l hl) c hcl
  · exact List.all_eq_true.mp (List.all_eq_true.mp ck00_4 l hl) c hcl
  · exact List.all_eq_true.mp (List.all_eq_true.mp ck00_8 l hl) c hcl
  · exact List.all_eq_true.mp (List.all_eq_true.mp ck00_12 l hl) c hcl
  · exact List.all_eq_true.mp (List.all_eq_true.mp ck00_16 l hl) c hcl
  · exact List.all_eq_true.mp (List.all_eq_true.mp ck00_20 l hl) c hcl
  · exact List.all_eq_true.mp (List.all_eq_true.mp ck00_24 l hl) c hcl
  · exact List.all_eq_true.mp (List.all_eq_true.mp ck00_28 l hl) c hcl
  · exact List.all_eq_true.mp (List.all_eq_true.mp ck00_32 l hl) c hcl
  · exact List.all_eq_true.mp (List.all_eq_true.mp ck00_36 l hl) c hcl
  · exact List.all_eq_true.mp (List.all_eq_true.mp ck00_40 l hl) c hcl
  · exact List.all_eq_true.mp (List.all_eq_true.mp ck00_44 l hl) c hcl
  · exact List.all_eq_true.mp (List.all_eq_true.mp ck00_48 l hl) c hcl
  · exact List.all_eq_true.mp (List.all_eq_true.mp ck00_52 l hl) c hcl
  · exact List.all_eq_true.mp (List.all_eq_true.mp ck00_56 l hl) c hcl
  · exact List.all_eq_true.mp (List.all_eq_true.mp ck00_60 l hl) c hcl
  · exact List.all_eq_true.mp (List.all_eq_true.mp ck00_64 l hl) c hcl
  · exact List.all_eq_true.mp (List.all_eq_true.mp ck00_68 l hl) c hcl
  · exact List.all_eq_true.mp (List.all_eq_true.mp ck00_72 l hl) c hcl
  · exact List.all_eq_true.mp (List.all_eq_true.mp ck00_76 l hl) c hcl
  · exact List.all_eq_true.mp (List.all_eq_true.mp ck00_80 l hl) c hcl
  · exact List.all_eq_true.mp (List.all_eq_true.mp ck00_84 l hl) c hcl
  · exact List.all_eq_true.mp (List.all_eq_true.mp ck00_88 l hl) c hcl
  · exact List.all_eq_true.mp (List.all_eq_true.mp ck00_92 l hl) c hcl
  · exact List.all_eq_true.mp (List.all_eq_true.mp ck00_96 l hl) c hcl
  · exact List.all_eq_true.mp (List.all_eq_true.mp ck00_100 l hl) c hcl
theorem VCc00 : VC (cV cb00) := VC_c (by decide +kernel)
theorem c0_00 : cV cb00 0 := mem_ok (by decide +kernel)
