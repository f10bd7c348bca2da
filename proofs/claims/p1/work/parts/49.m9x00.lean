/-! a closed set of states: turn 0, short 0 -/
def bk00 : List (List Nat) := [[14718049767424], [17715140010144], [18527697248416], [9108830814208], [4417910734848], [17715131588768], [9488133259264, 14095291031552], [21041583804624], [20151183384784], [13282725371904, 13349297332224], [], [18286373806112], [], [17749499748384], [18562056986656, 19875508560080, 19942080520400, 20425267519696, 20491839480016], [17712984137888, 19081744928928, 19631503888544], [18806053327008], [17749491327008], [], [], [13609948160000, 14440219070464], [], [18249866551456], [], [154618822656, 17712992493728, 21216343675088], [4553202204672], [8850327470080, 13817460334592, 17973634965664], [17747343876128, 19116104667168, 19665863626784], [13280586276864, 18840413065248, 19873352687824], [], [], [], [], [], [18284226289696], [17973643321504, 18803914231968, 19353673191584], [4813853032448, 17747352231968], [14614978940928], [18007994703904], [13541237104640, 21456059683024], [14164010475520, 21869181849808], [21043731288272], [20219902828752], [13351444815872], [20938512978128], [], [18527697281184], [18008003059744, 18838273970208, 19388032929824], [19944228004048, 20493986963664], [17715131621536], [], [], [14854694948864], [15267817115648], [14442366554112], [], [8951250812928, 18252014035104], [14337148243968], [17715139977376, 18562057019424], [], [13819607818240, 13886179778560, 21591351152848], [17749491359776, 20151191773392, 20700950733008], [13282733760512, 13349305720832, 19875500171472, 19942072131792], [19081736540320], [], [], [18249866584224], [9211901640704], [17712992526496, 18286373773344], [18806061715616, 19355820675232], [17749499715616], [], [17712984105120], [13609956548608, 14989986418688], [], [19116096278560], [13280577888256], [], [18284226322464, 20940660461776], [17973643354272], [17747352264736], [18840421453856, 19390180413472, 19873361076432, 20423120036048], [], [17973634932896, 18803905843360], [17747343843360], [], [9352841789440], [9765963956224, 13541228716032], [21319414501584], [], [8953398296576], [14339295727616, 18008003092512], [], [8848179986432], [13888327262208], [18007994671136, 18838265581600, 20219911217360, 20769670176976], [13351453204480, 19944219615440], [], [], [], [18252014067872]]
theorem ok00_0 : ((bk00.drop 0).take 8).all (fun l => l.all (okc false false bk00)) = true := by decide +kernel
theorem ok00_1 : ((bk00.drop 8).take 8).all (fun l => l.all (okc false false bk00)) = true := by decide +kernel
theorem ok00_2 : ((bk00.drop 16).take 8).all (fun l => l.all (okc false false bk00)) = true := by decide +kernel
theorem ok00_3 : ((bk00.drop 24).take 8).all (fun l => l.all (okc false false bk00)) = true := by decide +kernel
theorem ok00_4 : ((bk00.drop 32).take 8).all (fun l => l.all (okc false false bk00)) = true := by decide +kernel
theorem ok00_5 : ((bk00.drop 40).take 8).all (fun l => l.all (okc false false bk00)) = true := by decide +kernel
theorem ok00_6 : ((bk00.drop 48).take 8).all (fun l => l.all (okc false false bk00)) = true := by decide +kernel
theorem ok00_7 : ((bk00.drop 56).take 8).all (fun l => l.all (okc false false bk00)) = true := by decide +kernel
theorem ok00_8 : ((bk00.drop 64).take 8).all (fun l => l.all (okc false false bk00)) = true := by decide +kernel
theorem ok00_9 : ((bk00.drop 72).take 8).all (fun l => l.all (okc false false bk00)) = true := by decide +kernel
theorem ok00_10 : ((bk00.drop 80).take 8).all (fun l => l.all (okc false false bk00)) = true := by decide +kernel
theorem ok00_11 : ((bk00.drop 88).take 8).all (fun l => l.all (okc false false bk00)) = true := by decide +kernel
theorem ok00_12 : ((bk00.drop 96).take 8).all (fun l => l.all (okc false false bk00)) = true := by decide +kernel
theorem ok00 : ∀ c, c ∈ bk00.flatten → okc false false bk00 c = true := by
  intro c hc
  obtain ⟨l, hl, hcl⟩ := List.mem_flatten.mp hc
  have hs : bk00 = (bk00.drop 0).take 8 ++ (bk00.drop 8).take 8 ++ (bk00.drop 16).take 8 ++ (bk00.drop 24).take 8 ++ (bk00.drop 32).take 8 ++ (bk00.drop 40).take 8 ++ (bk00.drop 48).take 8 ++ (bk00.drop 56).take 8 ++ (bk00.drop 64).take 8 ++ (bk00.drop 72).take 8 ++ (bk00.drop 80).take 8 ++ (bk00.drop 88).take 8 ++ (bk00.drop 96).take 8 := by decide +kernel
  rw [hs] at hl
  simp only [List.mem_append] at hl
  rcases hl with (((((((((((hl | hl) | hl) | hl) | hl) | hl) | hl) | hl) | hl) | hl) | hl) | hl) | hl
  · exact List.all_eq_true.mp (List.all_eq_true.mp ok00_0 l hl) c hcl
  · exact List.all_eq_true.mp (List.all_eq_true.mp ok00_1 l hl) c hcl
  · exact List.all_eq_true.mp (List.all_eq_true.mp ok00_2 l hl) c hcl
  · exact List.all_eq_true.mp (List.all_eq_true.mp ok00_3 l hl) c hcl
  · exact List.all_eq_true.mp (List.all_eq_true.mp ok00_4 l hl) c hcl
  · exact List.all_eq_true.mp (List.all_eq_true.mp ok00_5 l hl) c hcl
  · exact List.all_eq_true.mp (List.all_eq_true.mp ok00_6 l hl) c hcl
  · exact List.all_eq_true.mp (List.all_eq_true.mp ok00_7 l hl) c hcl
  · exact List.all_eq_true.mp (List.all_eq_true.mp ok00_8 l hl) c hcl
  · exact List.all_eq_true.mp (List.all_eq_true.mp ok00_9 l hl) c hcl
  · exact List.all_eq_true.mp (List.all_eq_true.mp ok00_10 l hl) c hcl
  · exact List.all_eq_true.mp (List.all_eq_true.mp ok00_11 l hl) c hcl
  · exact List.all_eq_true.mp (List.all_eq_true.mp ok00_12 l hl) c hcl
theorem CM00 : CM false false (XC bk00) := okc_CM ok00
theorem VC00 : VC (VX (XC bk00)) := VC_X (fun c hc => by
  have q := ok00 c hc
  unfold okc at q
  simp only [Bool.and_eq_true] at q
  exact q.1.1.1.1.1) (by decide +kernel)
theorem X0_00 : XC bk00 0 0 4 4 (fun _ => 0) (fun _ => 0) (fun _ => 0) (fun _ => 0) := isX_ok (L := fun _ => 0) (F := fun _ => 0) (B := fun _ => 0) (T := fun _ => 0) (by decide +kernel) (fun _ _ => rfl) (fun _ _ => rfl) (fun _ _ => rfl) (fun _ _ => rfl)
