/-! a closed set of the class's states: turn 1, limit 0 -/
def cb10 : List (List Nat) := [[0, 23107142290434], [], [], [23210221571074], [20908119032332], [], [], [21011198312972], [], [38654705667], [27573908931330, 14035987532802], [4965015883010], [], [2628570448397], [16230682266636, 11836964274700], [7159710616844], [], [], [7262789897484], [], [], [], [154669285890], [18709095776770], [], [], [18812175057410], [], [], [], [], [], [4990752001283], [14031659011074, 9637941019138], [4960687361282], [2482491097613], [], [5063766641922, 11832635752972], [34102259223564], [], [], [], [], [], [8589935106], [], [], [], [], [], [], [16372466519052], [7301494869260], [], [2491114717709], [], [9633612497410], [31903235968002], [], [], [], [2478196129805, 29704212709900], [], [17213555202], [], [], [2551210574605], [], [11901355229964], [], [4294967298, 14173443263490], [5102471613698], [], [14066018749443], [7155415518476, 11974420005388], [77309412098], [], [2486786195981], [], [], [2589865476621, 27505189454338], [], [25306165545996], [], [], [25409244826636], [12885033474], [9702331974402], [], [115964314114], [], [], [29772932186892, 16235010788364], [4956392262914, 9775396749826, 7164039138572], [], [], [], [31937595706371], [], [], []]
set_option maxRecDepth 1000000 in
theorem ck10_0 : ((cb10.drop 0).take 4).all (fun l => l.all (fun c => oks 1 0 cb10 (Int64.ofNat c))) = true := by decide +kernel
set_option maxRecDepth 1000000 in
theorem ck10_4 : ((cb10.drop 4).take 4).all (fun l => l.all (fun c => oks 1 0 cb10 (Int64.ofNat c))) = true := by decide +kernel
set_option maxRecDepth 1000000 in
theorem ck10_8 : ((cb10.drop 8).take 4).all (fun l => l.all (fun c => oks 1 0 cb10 (Int64.ofNat c))) = true := by decide +kernel
set_option maxRecDepth 1000000 in
theorem ck10_12 : ((cb10.drop 12).take 4).all (fun l => l.all (fun c => oks 1 0 cb10 (Int64.ofNat c))) = true := by decide +kernel
set_option maxRecDepth 1000000 in
theorem ck10_16 : ((cb10.drop 16).take 4).all (fun l => l.all (fun c => oks 1 0 cb10 (Int64.ofNat c))) = true := by decide +kernel
set_option maxRecDepth 1000000 in
theorem ck10_20 : ((cb10.drop 20).take 4).all (fun l => l.all (fun c => oks 1 0 cb10 (Int64.ofNat c))) = true := by decide +kernel
set_option maxRecDepth 1000000 in
theorem ck10_24 : ((cb10.drop 24).take 4).all (fun l => l.all (fun c => oks 1 0 cb10 (Int64.ofNat c))) = true := by decide +kernel
set_option maxRecDepth 1000000 in
theorem ck10_28 : ((cb10.drop 28).take 4).all (fun l => l.all (fun c => oks 1 0 cb10 (Int64.ofNat c))) = true := by decide +kernel
set_option maxRecDepth 1000000 in
theorem ck10_32 : ((cb10.drop 32).take 4).all (fun l => l.all (fun c => oks 1 0 cb10 (Int64.ofNat c))) = true := by decide +kernel
set_option maxRecDepth 1000000 in
theorem ck10_36 : ((cb10.drop 36).take 4).all (fun l => l.all (fun c => oks 1 0 cb10 (Int64.ofNat c))) = true := by decide +kernel
set_option maxRecDepth 1000000 in
theorem ck10_40 : ((cb10.drop 40).take 4).all (fun l => l.all (fun c => oks 1 0 cb10 (Int64.ofNat c))) = true := by decide +kernel
set_option maxRecDepth 1000000 in
theorem ck10_44 : ((cb10.drop 44).take 4).all (fun l => l.all (fun c => oks 1 0 cb10 (Int64.ofNat c))) = true := by decide +kernel
set_option maxRecDepth 1000000 in
theorem ck10_48 : ((cb10.drop 48).take 4).all (fun l => l.all (fun c => oks 1 0 cb10 (Int64.ofNat c))) = true := by decide +kernel
set_option maxRecDepth 1000000 in
theorem ck10_52 : ((cb10.drop 52).take 4).all (fun l => l.all (fun c => oks 1 0 cb10 (Int64.ofNat c))) = true := by decide +kernel
set_option maxRecDepth 1000000 in
theorem ck10_56 : ((cb10.drop 56).take 4).all (fun l => l.all (fun c => oks 1 0 cb10 (Int64.ofNat c))) = true := by decide +kernel
set_option maxRecDepth 1000000 in
theorem ck10_60 : ((cb10.drop 60).take 4).all (fun l => l.all (fun c => oks 1 0 cb10 (Int64.ofNat c))) = true := by decide +kernel
set_option maxRecDepth 1000000 in
theorem ck10_64 : ((cb10.drop 64).take 4).all (fun l => l.all (fun c => oks 1 0 cb10 (Int64.ofNat c))) = true := by decide +kernel
set_option maxRecDepth 1000000 in
theorem ck10_68 : ((cb10.drop 68).take 4).all (fun l => l.all (fun c => oks 1 0 cb10 (Int64.ofNat c))) = true := by decide +kernel
set_option maxRecDepth 1000000 in
theorem ck10_72 : ((cb10.drop 72).take 4).all (fun l => l.all (fun c => oks 1 0 cb10 (Int64.ofNat c))) = true := by decide +kernel
set_option maxRecDepth 1000000 in
theorem ck10_76 : ((cb10.drop 76).take 4).all (fun l => l.all (fun c => oks 1 0 cb10 (Int64.ofNat c))) = true := by decide +kernel
set_option maxRecDepth 1000000 in
theorem ck10_80 : ((cb10.drop 80).take 4).all (fun l => l.all (fun c => oks 1 0 cb10 (Int64.ofNat c))) = true := by decide +kernel
set_option maxRecDepth 1000000 in
theorem ck10_84 : ((cb10.drop 84).take 4).all (fun l => l.all (fun c => oks 1 0 cb10 (Int64.ofNat c))) = true := by decide +kernel
set_option maxRecDepth 1000000 in
theorem ck10_88 : ((cb10.drop 88).take 4).all (fun l => l.all (fun c => oks 1 0 cb10 (Int64.ofNat c))) = true := by decide +kernel
set_option maxRecDepth 1000000 in
theorem ck10_92 : ((cb10.drop 92).take 4).all (fun l => l.all (fun c => oks 1 0 cb10 (Int64.ofNat c))) = true := by decide +kernel
set_option maxRecDepth 1000000 in
theorem ck10_96 : ((cb10.drop 96).take 4).all (fun l => l.all (fun c => oks 1 0 cb10 (Int64.ofNat c))) = true := by decide +kernel
set_option maxRecDepth 1000000 in
theorem ck10_100 : ((cb10.drop 100).take 4).all (fun l => l.all (fun c => oks 1 0 cb10 (Int64.ofNat c))) = true := by decide +kernel
theorem ck10 : ∀ c, c ∈ cb10.flatten → oks 1 0 cb10 (Int64.ofNat c) = true := by
  intro c hc
  obtain ⟨l, hl, hcl⟩ := List.mem_flatten.mp hc
  have hs : cb10 = (cb10.drop 0).take 4 ++ (cb10.drop 4).take 4 ++ (cb10.drop 8).take 4 ++ (cb10.drop 12).take 4 ++ (cb10.drop 16).take 4 ++ (cb10.drop 20).take 4 ++ (cb10.drop 24).take 4 ++ (cb10.drop 28).take 4 ++ (cb10.drop 32).take 4 ++ (cb10.drop 36).take 4 ++ (cb10.drop 40).take 4 ++ (cb10.drop 44).take 4 ++ (cb10.drop 48).take 4 ++ (cb10.drop 52).take 4 ++ (cb10.drop 56).take 4 ++ (cb10.drop 60).take 4 ++ (cb10.drop 64).take 4 ++ (cb10.drop 68).take 4 ++ (cb10.drop 72).take 4 ++ (cb10.drop 76).take 4 ++ (cb10.drop 80).take 4 ++ (cb10.drop 84).take 4 ++ (cb10.drop 88).take 4 ++ (cb10.drop 92).take 4 ++ (cb10.drop 96).take 4 ++ (cb10.drop 100).take 4 := by decide +kernel
  rw [hs] at hl
  simp only [List.mem_append] at hl
  rcases hl with ((((((((((((((((((((((((hl | hl) | hl) | hl) | hl) | hl) | hl) | hl) | hl) | hl) | hl) | hl) | hl) | hl) | hl) | hl) | hl) | hl) | hl) | hl) | hl) | hl) | hl) | hl) | hl) | hl
  · exact List.all_eq_true.mp (List.all_eq_true.mp ck10_0 l hl) c hcl
  · exact List.all_eq_true.mp (List.all_eq_true.mp ck10_4 l hl) c hcl
  · exact List.all_eq_true.mp (List.all_eq_true.mp ck10_8 l hl) c hcl
  · exact List.all_eq_true.mp (List.all_eq_true.mp ck10_12 l hl) c hcl
  · exact List.all_eq_true.mp (List.all_eq_true.mp ck10_16 l hl) c hcl
  · exact List.all_eq_true.mp (List.all_eq_true.mp ck10_20 l hl) c hcl
  · exact List.all_eq_true.mp (List.all_eq_true.mp ck10_24 l hl) c hcl
  · exact List.all_eq_true.mp (List.all_eq_true.mp ck10_28 l hl) c hcl
  · exact List.all_eq_true.mp (List.all_eq_true.mp ck10_32 l hl) c hcl
  · exact List.all_eq_true.mp (List.all_eq_true.mp ck10_36 l hl) c hcl
  · exact List.all_eq_true.mp (List.all_eq_true.mp ck10_40 l hl) c hcl
  · exact List.all_eq_true.mp (List.all_eq_true.mp ck10_44 l hl) c hcl
  · exact List.all_eq_true.mp (List.all_eq_true.mp ck10_48 l hl) c hcl
  · exact List.all_eq_true.mp (List.all_eq_true.mp ck10_52 l hl) c hcl
  · exact List.all_eq_true.mp (List.all_eq_true.mp ck10_56 l hl) c hcl
  · exact List.all_eq_true.mp (List.all_eq_true.mp ck10_60 l hl) c hcl
  · exact List.all_eq_true.mp (List.all_eq_true.mp ck10_64 l hl) c hcl
  · exact List.all_eq_true.mp (List.all_eq_true.mp ck10_68 l hl) c hcl
  · exact List.all_eq_true.mp (List.all_eq_true.mp ck10_72 l hl) c hcl
  · exact List.all_eq_true.mp (List.all_eq_true.mp ck10_76 l hl) c hcl
  · exact List.all_eq_true.mp (List.all_eq_true.mp ck10_80 l hl) c hcl
  · exact List.all_eq_true.mp (List.all_eq_true.mp ck10_84 l hl) c hcl
  · exact List.all_eq_true.mp (List.all_eq_true.mp ck10_88 l hl) c hcl
  · exact List.all_eq_true.mp (List.all_eq_true.mp ck10_92 l hl) c hcl
  · exact List.all_eq_true.mp (List.all_eq_true.mp ck10_96 l hl) c hcl
  · exact List.all_eq_true.mp (List.all_eq_true.mp ck10_100 l hl) c hcl
theorem VCc10 : VC (cV cb10) := VC_c (by decide +kernel)
theorem c0_10 : cV cb10 0 := mem_ok (by decide +kernel)
