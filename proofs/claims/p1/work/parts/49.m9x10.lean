/-! a closed set of states: turn 1, short 0 -/
def bk10 : List (List Nat) := [[20938512945360], [], [], [9108830814208, 14612831457280], [4417910734848], [], [9488133259264, 14161862991872], [], [20217755345104, 20767514304720], [13349297332224], [21317266985168, 21867025944784], [], [], [], [], [], [], [], [], [], [13609948160000, 14440219070464, 14989978030080], [], [18249866551456], [], [154618822656], [4553202204672], [13817460334592], [], [19873352687824, 20423111647440], [19079589056672, 19629348016288], [], [], [], [], [18284226289696], [], [4813853032448], [], [], [], [], [19113948794912, 19663707754528], [], [21456051261648], [], [], [], [21214196158672], [], [], [], [], [], [9763816472576], [], [], [8951250812928], [14337148243968], [], [], [13886179778560], [], [19942072131792, 20491831091408], [], [21041583771856, 21591342731472], [], [], [9211901640704, 14715902283776, 15265661243392], [], [18525549764768], [], [], [17712984105120], [14093143547904], [], [20149035901136, 20698794860752], [13280577888256], [], [], [], [], [18559909503008], [], [17973634932896, 18803905843360, 19353664802976], [17747343843360], [], [9352841789440], [13541228716032], [], [], [], [], [], [8848179986432], [], [18007994671136, 18838265581600, 19388024541216], [], [], [], [], [14854686560256]]
theorem ok10_0 : ((bk10.drop 0).take 8).all (fun l => l.all (okc true false bk10)) = true := by decide +kernel
theorem ok10_1 : ((bk10.drop 8).take 8).all (fun l => l.all (okc true false bk10)) = true := by decide +kernel
theorem ok10_2 : ((bk10.drop 16).take 8).all (fun l => l.all (okc true false bk10)) = true := by decide +kernel
theorem ok10_3 : ((bk10.drop 24).take 8).all (fun l => l.all (okc true false bk10)) = true := by decide +kernel
theorem ok10_4 : ((bk10.drop 32).take 8).all (fun l => l.all (okc true false bk10)) = true := by decide +kernel
theorem ok10_5 : ((bk10.drop 40).take 8).all (fun l => l.all (okc true false bk10)) = true := by decide +kernel
theorem ok10_6 : ((bk10.drop 48).take 8).all (fun l => l.all (okc true false bk10)) = true := by decide +kernel
theorem ok10_7 : ((bk10.drop 56).take 8).all (fun l => l.all (okc true false bk10)) = true := by decide +kernel
theorem ok10_8 : ((bk10.drop 64).take 8).all (fun l => l.all (okc true false bk10)) = true := by decide +kernel
theorem ok10_9 : ((bk10.drop 72).take 8).all (fun l => l.all (okc true false bk10)) = true := by decide +kernel
theorem ok10_10 : ((bk10.drop 80).take 8).all (fun l => l.all (okc true false bk10)) = true := by decide +kernel
theorem ok10_11 : ((bk10.drop 88).take 8).all (fun l => l.all (okc true false bk10)) = true := by decide +kernel
theorem ok10_12 : ((bk10.drop 96).take 8).all (fun l => l.all (okc true false bk10)) = true := by decide +kernel
theorem ok10 : ∀ c, c ∈ bk10.flatten → okc true false bk10 c = true := by
  intro c hc
  obtain ⟨l, hl, hcl⟩ := List.mem_flatten.mp hc
  have hs : bk10 = (bk10.drop 0).take 8 ++ (bk10.drop 8).take 8 ++ (bk10.drop 16).take 8 ++ (bk10.drop 24).take 8 ++ (bk10.drop 32).take 8 ++ (bk10.drop 40).take 8 ++ (bk10.drop 48).take 8 ++ (bk10.drop 56).take 8 ++ (bk10.drop 64).take 8 ++ (bk10.drop 72).take 8 ++ (bk10.drop 80).take 8 ++ (bk10.drop 88).take 8 ++ (bk10.drop 96).take 8 := by decide +kernel
  rw [hs] at hl
  simp only [List.mem_append] at hl
  rcases hl with (((((((((((hl | hl) | hl) | hl) | hl) | hl) | hl) | hl) | hl) | hl) | hl) | hl) | hl
  · exact List.all_eq_true.mp (List.all_eq_true.mp ok10_0 l hl) c hcl
  · exact List.all_eq_true.mp (List.all_eq_true.mp ok10_1 l hl) c hcl
  · exact List.all_eq_true.mp (List.all_eq_true.mp ok10_2 l hl) c hcl
  · exact List.all_eq_true.mp (List.all_eq_true.mp ok10_3 l hl) c hcl
  · exact List.all_eq_true.mp (List.all_eq_true.mp ok10_4 l hl) c hcl
  · exact List.all_eq_true.mp (List.all_eq_true.mp ok10_5 l hl) c hcl
  · exact List.all_eq_true.mp (List.all_eq_true.mp ok10_6 l hl) c hcl
  · exact List.all_eq_true.mp (List.all_eq_true.mp ok10_7 l hl) c hcl
  · exact List.all_eq_true.mp (List.all_eq_true.mp ok10_8 l hl) c hcl
  · exact List.all_eq_true.mp (List.all_eq_true.mp ok10_9 l hl) c hcl
  · exact List.all_eq_true.mp (List.all_eq_true.mp ok10_10 l hl) c hcl
  · exact List.all_eq_true.mp (List.all_eq_true.mp ok10_11 l hl) c hcl
  · exact List.all_eq_true.mp (List.all_eq_true.mp ok10_12 l hl) c hcl
theorem CM10 : CM true false (XC bk10) := okc_CM ok10
theorem VC10 : VC (VX (XC bk10)) := VC_X (fun c hc => by
  have q := ok10 c hc
  unfold okc at q
  simp only [Bool.and_eq_true] at q
  exact q.1.1.1.1.1) (by decide +kernel)
theorem X0_10 : XC bk10 0 0 4 4 (fun _ => 0) (fun _ => 0) (fun _ => 0) (fun _ => 0) := isX_ok (L := fun _ => 0) (F := fun _ => 0) (B := fun _ => 0) (T := fun _ => 0) (by decide +kernel) (fun _ _ => rfl) (fun _ _ => rfl) (fun _ _ => rfl) (fun _ _ => rfl)
