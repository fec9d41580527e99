theorem zz_uz {j : Nat} : upd (upd (fun _ => (0 : Int32)) 0 0) 1 0 j = nI 0 := by
  unfold upd
  by_cases h : j = 1
  · rw [if_pos h]; rfl
  · rw [if_neg h]
    by_cases h0 : j = 0
    · rw [if_pos h0]; rfl
    · rw [if_neg h0]; rfl
theorem zz_uf {f g : Nat → Int32} (h1 : ∀ q, g q = if q / 4 = 1 then 0 else f q) (h0 : ∀ q, f q = if q / 4 = 0 then 0 else (fun _ => (0 : Int32)) q) (q : Nat) : g q = nI 0 := by
  rw [h1]
  by_cases h : q / 4 = 1
  · rw [if_pos h]; rfl
  · rw [if_neg h, h0]
    by_cases h2 : q / 4 = 0
    · rw [if_pos h2]; rfl
    · rw [if_neg h2]; rfl
theorem zz_kyS {f g : Nat → Int64} {j : Nat} {x : Int64} {i : Int32} (h : ∀ k, k < j → f k = zl_L 27 (zl_wd k)) (e : vp_updL f i.toNatClampNeg x = g) (hi : i.toNatClampNeg = j) (hx : x = zl_L 27 (zl_wd j)) : ∀ k, k < j + 1 → g k = zl_L 27 (zl_wd k) := by
  subst e
  intro k hk
  rw [hi]
  by_cases q : k = j
  · subst q; rw [show vp_updL f k x k = x from pk_uLs]; exact hx
  · exact (if_neg q).trans (h k (by omega))
theorem kd_ncX10_init : kd_ck 259760397137657623546718599817286136370424485339435829277690984799209993722803938165550995084316846796476077943334825293105196112959622539890517473749040207725179370235092884476401134165574551142230152834559150414092664279522544142246456849438934534694334272641506127654991531786234735147313891131885383585055556536095326182132123929846444826695080461380982786813609389769388853108188805451835742093072706246594126317965784084741415798385802551267523300267133718131961142087811196143077308609601820832555211393635064184898848095411580866853685927657859282393859619565119974479077279729679884541786470276278892581128753951766508085071363046254062892843190455871816312161038016668466169498642036599813775001290672101982152264956540379043995755551915341549927205956955559463425568015615510466973271054320155152271432611290877026154368075825977656892782522604853726871390512565559656455965524060961483156886720332171878618987773445024015537498083268917425548031512091600110871060933328274766071199834494320420796277437264317307042834206975330681681100496264426590821419208105802161220053343004822514154953954290813077063866142816047679982162976601054777736143885567430825201815831382490621036862420908665755265369370452809605532200023875507470468521375501505228016841094279215732374187345843531313393103751361519101983237258228260400837573363797515580184835202697024709483591998857645934338114359552156182327268765254578257317117172405581281120183275898775579905559822279110533166136871275266419382822341315896205593594733983249897629936204076893487048246108252854864258970261424327528737701428358488806973984679898413675638794757924440738112112648258355946676561752513302284541381955603251676205041549371093985901951411304422452672969639645997384637449776661224028911203764718780610751874396214215782159060268430479842767787030275604177808735814853548124009081755359594304287909541071456447337595288537793713392793407266911400198890549971766032011533401717648789270043896158265325354 822 cX10_init.data.toList 0 = true := by decide +kernel
theorem dX10_init_0 : decode cX10_init 0 = .ok (.aload_n 0, 1) := kd_dk0 kd_o42 kd_ncX10_init rfl
theorem dX10_init_1 : decode cX10_init 1 = .ok (.invokespecial 7, 3) := kd_dk2 kd_o183 kd_ncX10_init rfl
theorem dX10_init_4 : decode cX10_init 4 = .ok (.aload_n 0, 1) := kd_dk0 kd_o42 kd_ncX10_init rfl
theorem dX10_init_5 : decode cX10_init 5 = .ok (.sipush 2000, 3) := kd_dj2 kd_o17 (w := 2000) kd_ncX10_init rfl rfl
theorem dX10_init_8 : decode cX10_init 8 = .ok (.newarray .byte, 2) := kd_dkn kd_w8 kd_ncX10_init rfl
theorem dX10_init_10 : decode cX10_init 10 = .ok (.putfield 13, 3) := kd_dk2 kd_o181 kd_ncX10_init rfl
theorem dX10_init_13 : decode cX10_init 13 = .ok (.aload_n 0, 1) := kd_dk0 kd_o42 kd_ncX10_init rfl
theorem dX10_init_14 : decode cX10_init 14 = .ok (.sipush 2000, 3) := kd_dj2 kd_o17 (w := 2000) kd_ncX10_init rfl rfl
theorem dX10_init_17 : decode cX10_init 17 = .ok (.newarray .byte, 2) := kd_dkn kd_w8 kd_ncX10_init rfl
theorem dX10_init_19 : decode cX10_init 19 = .ok (.putfield 17, 3) := kd_dk2 kd_o181 kd_ncX10_init rfl
theorem dX10_init_22 : decode cX10_init 22 = .ok (.aload_n 0, 1) := kd_dk0 kd_o42 kd_ncX10_init rfl
theorem dX10_init_23 : decode cX10_init 23 = .ok (.sipush 403, 3) := kd_dj2 kd_o17 (w := 403) kd_ncX10_init rfl rfl
theorem dX10_init_26 : decode cX10_init 26 = .ok (.newarray .int, 2) := kd_dkn kd_w10 kd_ncX10_init rfl
theorem dX10_init_28 : decode cX10_init 28 = .ok (.putfield 20, 3) := kd_dk2 kd_o181 kd_ncX10_init rfl
theorem dX10_init_31 : decode cX10_init 31 = .ok (.aload_n 0, 1) := kd_dk0 kd_o42 kd_ncX10_init rfl
theorem dX10_init_32 : decode cX10_init 32 = .ok (.sipush 403, 3) := kd_dj2 kd_o17 (w := 403) kd_ncX10_init rfl rfl
theorem dX10_init_35 : decode cX10_init 35 = .ok (.newarray .int, 2) := kd_dkn kd_w10 kd_ncX10_init rfl
theorem dX10_init_37 : decode cX10_init 37 = .ok (.putfield 24, 3) := kd_dk2 kd_o181 kd_ncX10_init rfl
theorem dX10_init_40 : decode cX10_init 40 = .ok (.aload_n 0, 1) := kd_dk0 kd_o42 kd_ncX10_init rfl
theorem dX10_init_41 : decode cX10_init 41 = .ok (.sipush 403, 3) := kd_dj2 kd_o17 (w := 403) kd_ncX10_init rfl rfl
theorem dX10_init_44 : decode cX10_init 44 = .ok (.newarray .int, 2) := kd_dkn kd_w10 kd_ncX10_init rfl
theorem dX10_init_46 : decode cX10_init 46 = .ok (.putfield 27, 3) := kd_dk2 kd_o181 kd_ncX10_init rfl
theorem dX10_init_49 : decode cX10_init 49 = .ok (.aload_n 0, 1) := kd_dk0 kd_o42 kd_ncX10_init rfl
theorem dX10_init_50 : decode cX10_init 50 = .ok (.sipush 403, 3) := kd_dj2 kd_o17 (w := 403) kd_ncX10_init rfl rfl
theorem dX10_init_53 : decode cX10_init 53 = .ok (.newarray .long, 2) := kd_dkn kd_w11 kd_ncX10_init rfl
theorem dX10_init_55 : decode cX10_init 55 = .ok (.putfield 30, 3) := kd_dk2 kd_o181 kd_ncX10_init rfl
theorem dX10_init_58 : decode cX10_init 58 = .ok (.aload_n 0, 1) := kd_dk0 kd_o42 kd_ncX10_init rfl
theorem dX10_init_59 : decode cX10_init 59 = .ok (.bipush 20, 2) := kd_dj1 kd_o16 (w := 20) kd_ncX10_init rfl rfl
theorem dX10_init_61 : decode cX10_init 61 = .ok (.newarray .long, 2) := kd_dkn kd_w11 kd_ncX10_init rfl
theorem dX10_init_63 : decode cX10_init 63 = .ok (.putfield 34, 3) := kd_dk2 kd_o181 kd_ncX10_init rfl
theorem dX10_init_66 : decode cX10_init 66 = .ok (.aload_n 0, 1) := kd_dk0 kd_o42 kd_ncX10_init rfl
theorem dX10_init_67 : decode cX10_init 67 = .ok (.iconst (-1), 1) := kd_dk0 kd_o2 kd_ncX10_init rfl
theorem dX10_init_68 : decode cX10_init 68 = .ok (.putfield 37, 3) := kd_dk2 kd_o181 kd_ncX10_init rfl
theorem dX10_init_71 : decode cX10_init 71 = .ok (.aload_n 0, 1) := kd_dk0 kd_o42 kd_ncX10_init rfl
theorem dX10_init_72 : decode cX10_init 72 = .ok (.bipush 13, 2) := kd_dj1 kd_o16 (w := 13) kd_ncX10_init rfl rfl
theorem dX10_init_74 : decode cX10_init 74 = .ok (.newarray .long, 2) := kd_dkn kd_w11 kd_ncX10_init rfl
theorem dX10_init_76 : decode cX10_init 76 = .ok (.putfield 40, 3) := kd_dk2 kd_o181 kd_ncX10_init rfl
theorem dX10_init_79 : decode cX10_init 79 = .ok (.aload_n 0, 1) := kd_dk0 kd_o42 kd_ncX10_init rfl
theorem dX10_init_80 : decode cX10_init 80 = .ok (.iconst 2, 1) := kd_dk0 kd_o5 kd_ncX10_init rfl
theorem dX10_init_81 : decode cX10_init 81 = .ok (.newarray .int, 2) := kd_dkn kd_w10 kd_ncX10_init rfl
theorem dX10_init_83 : decode cX10_init 83 = .ok (.putfield 43, 3) := kd_dk2 kd_o181 kd_ncX10_init rfl
theorem dX10_init_86 : decode cX10_init 86 = .ok (.aload_n 0, 1) := kd_dk0 kd_o42 kd_ncX10_init rfl
theorem dX10_init_87 : decode cX10_init 87 = .ok (.bipush 14, 2) := kd_dj1 kd_o16 (w := 14) kd_ncX10_init rfl rfl
theorem dX10_init_89 : decode cX10_init 89 = .ok (.newarray .int, 2) := kd_dkn kd_w10 kd_ncX10_init rfl
theorem dX10_init_91 : decode cX10_init 91 = .ok (.putfield 46, 3) := kd_dk2 kd_o181 kd_ncX10_init rfl
theorem dX10_init_94 : decode cX10_init 94 = .ok (.aload_n 0, 1) := kd_dk0 kd_o42 kd_ncX10_init rfl
theorem dX10_init_95 : decode cX10_init 95 = .ok (.bipush 14, 2) := kd_dj1 kd_o16 (w := 14) kd_ncX10_init rfl rfl
theorem dX10_init_97 : decode cX10_init 97 = .ok (.newarray .int, 2) := kd_dkn kd_w10 kd_ncX10_init rfl
theorem dX10_init_99 : decode cX10_init 99 = .ok (.putfield 49, 3) := kd_dk2 kd_o181 kd_ncX10_init rfl
theorem dX10_init_102 : decode cX10_init 102 = .ok (.aload_n 0, 1) := kd_dk0 kd_o42 kd_ncX10_init rfl
theorem dX10_init_103 : decode cX10_init 103 = .ok (.bipush 14, 2) := kd_dj1 kd_o16 (w := 14) kd_ncX10_init rfl rfl
theorem dX10_init_105 : decode cX10_init 105 = .ok (.newarray .int, 2) := kd_dkn kd_w10 kd_ncX10_init rfl
theorem dX10_init_107 : decode cX10_init 107 = .ok (.putfield 52, 3) := kd_dk2 kd_o181 kd_ncX10_init rfl
theorem dX10_init_110 : decode cX10_init 110 = .ok (.aload_n 0, 1) := kd_dk0 kd_o42 kd_ncX10_init rfl
theorem dX10_init_111 : decode cX10_init 111 = .ok (.iconst 2, 1) := kd_dk0 kd_o5 kd_ncX10_init rfl
theorem dX10_init_112 : decode cX10_init 112 = .ok (.newarray .int, 2) := kd_dkn kd_w10 kd_ncX10_init rfl
theorem dX10_init_114 : decode cX10_init 114 = .ok (.putfield 55, 3) := kd_dk2 kd_o181 kd_ncX10_init rfl
theorem dX10_init_117 : decode cX10_init 117 = .ok (.aload_n 0, 1) := kd_dk0 kd_o42 kd_ncX10_init rfl
theorem dX10_init_118 : decode cX10_init 118 = .ok (.bipush 12, 2) := kd_dj1 kd_o16 (w := 12) kd_ncX10_init rfl rfl
theorem dX10_init_120 : decode cX10_init 120 = .ok (.newarray .int, 2) := kd_dkn kd_w10 kd_ncX10_init rfl
theorem dX10_init_122 : decode cX10_init 122 = .ok (.putfield 58, 3) := kd_dk2 kd_o181 kd_ncX10_init rfl
theorem dX10_init_125 : decode cX10_init 125 = .ok (.aload_n 0, 1) := kd_dk0 kd_o42 kd_ncX10_init rfl
theorem dX10_init_126 : decode cX10_init 126 = .ok (.bipush 12, 2) := kd_dj1 kd_o16 (w := 12) kd_ncX10_init rfl rfl
theorem dX10_init_128 : decode cX10_init 128 = .ok (.newarray .int, 2) := kd_dkn kd_w10 kd_ncX10_init rfl
theorem dX10_init_130 : decode cX10_init 130 = .ok (.putfield 61, 3) := kd_dk2 kd_o181 kd_ncX10_init rfl
theorem dX10_init_133 : decode cX10_init 133 = .ok (.aload_n 0, 1) := kd_dk0 kd_o42 kd_ncX10_init rfl
theorem dX10_init_134 : decode cX10_init 134 = .ok (.bipush 12, 2) := kd_dj1 kd_o16 (w := 12) kd_ncX10_init rfl rfl
theorem dX10_init_136 : decode cX10_init 136 = .ok (.newarray .int, 2) := kd_dkn kd_w10 kd_ncX10_init rfl
theorem dX10_init_138 : decode cX10_init 138 = .ok (.putfield 64, 3) := kd_dk2 kd_o181 kd_ncX10_init rfl
theorem dX10_init_141 : decode cX10_init 141 = .ok (.aload_n 0, 1) := kd_dk0 kd_o42 kd_ncX10_init rfl
theorem dX10_init_142 : decode cX10_init 142 = .ok (.iconst 2, 1) := kd_dk0 kd_o5 kd_ncX10_init rfl
theorem dX10_init_143 : decode cX10_init 143 = .ok (.newarray .int, 2) := kd_dkn kd_w10 kd_ncX10_init rfl
theorem dX10_init_145 : decode cX10_init 145 = .ok (.putfield 67, 3) := kd_dk2 kd_o181 kd_ncX10_init rfl
theorem dX10_init_148 : decode cX10_init 148 = .ok (.aload_n 0, 1) := kd_dk0 kd_o42 kd_ncX10_init rfl
theorem dX10_init_149 : decode cX10_init 149 = .ok (.iconst 2, 1) := kd_dk0 kd_o5 kd_ncX10_init rfl
theorem dX10_init_150 : decode cX10_init 150 = .ok (.newarray .int, 2) := kd_dkn kd_w10 kd_ncX10_init rfl
theorem dX10_init_152 : decode cX10_init 152 = .ok (.putfield 70, 3) := kd_dk2 kd_o181 kd_ncX10_init rfl
theorem dX10_init_155 : decode cX10_init 155 = .ok (.aload_n 0, 1) := kd_dk0 kd_o42 kd_ncX10_init rfl
theorem dX10_init_156 : decode cX10_init 156 = .ok (.bipush 8, 2) := kd_dj1 kd_o16 (w := 8) kd_ncX10_init rfl rfl
theorem dX10_init_158 : decode cX10_init 158 = .ok (.newarray .int, 2) := kd_dkn kd_w10 kd_ncX10_init rfl
theorem dX10_init_160 : decode cX10_init 160 = .ok (.putfield 73, 3) := kd_dk2 kd_o181 kd_ncX10_init rfl
theorem dX10_init_163 : decode cX10_init 163 = .ok (.aload_n 0, 1) := kd_dk0 kd_o42 kd_ncX10_init rfl
theorem dX10_init_164 : decode cX10_init 164 = .ok (.bipush 8, 2) := kd_dj1 kd_o16 (w := 8) kd_ncX10_init rfl rfl
theorem dX10_init_166 : decode cX10_init 166 = .ok (.newarray .int, 2) := kd_dkn kd_w10 kd_ncX10_init rfl
theorem dX10_init_168 : decode cX10_init 168 = .ok (.putfield 76, 3) := kd_dk2 kd_o181 kd_ncX10_init rfl
theorem dX10_init_171 : decode cX10_init 171 = .ok (.aload_n 0, 1) := kd_dk0 kd_o42 kd_ncX10_init rfl
theorem dX10_init_172 : decode cX10_init 172 = .ok (.sipush 260, 3) := kd_dj2 kd_o17 (w := 260) kd_ncX10_init rfl rfl
theorem dX10_init_175 : decode cX10_init 175 = .ok (.newarray .boolean, 2) := kd_dkn kd_w4 kd_ncX10_init rfl
theorem dX10_init_177 : decode cX10_init 177 = .ok (.putfield 79, 3) := kd_dk2 kd_o181 kd_ncX10_init rfl
theorem dX10_init_180 : decode cX10_init 180 = .ok (.aload_n 0, 1) := kd_dk0 kd_o42 kd_ncX10_init rfl
theorem dX10_init_181 : decode cX10_init 181 = .ok (.sipush 260, 3) := kd_dj2 kd_o17 (w := 260) kd_ncX10_init rfl rfl
theorem dX10_init_184 : decode cX10_init 184 = .ok (.newarray .int, 2) := kd_dkn kd_w10 kd_ncX10_init rfl
theorem dX10_init_186 : decode cX10_init 186 = .ok (.putfield 83, 3) := kd_dk2 kd_o181 kd_ncX10_init rfl
theorem dX10_init_189 : decode cX10_init 189 = .ok (.aload_n 0, 1) := kd_dk0 kd_o42 kd_ncX10_init rfl
theorem dX10_init_190 : decode cX10_init 190 = .ok (.sipush 260, 3) := kd_dj2 kd_o17 (w := 260) kd_ncX10_init rfl rfl
theorem dX10_init_193 : decode cX10_init 193 = .ok (.newarray .int, 2) := kd_dkn kd_w10 kd_ncX10_init rfl
theorem dX10_init_195 : decode cX10_init 195 = .ok (.putfield 86, 3) := kd_dk2 kd_o181 kd_ncX10_init rfl
theorem dX10_init_198 : decode cX10_init 198 = .ok (.aload_n 0, 1) := kd_dk0 kd_o42 kd_ncX10_init rfl
theorem dX10_init_199 : decode cX10_init 199 = .ok (.sipush 260, 3) := kd_dj2 kd_o17 (w := 260) kd_ncX10_init rfl rfl
theorem dX10_init_202 : decode cX10_init 202 = .ok (.newarray .int, 2) := kd_dkn kd_w10 kd_ncX10_init rfl
theorem dX10_init_204 : decode cX10_init 204 = .ok (.putfield 89, 3) := kd_dk2 kd_o181 kd_ncX10_init rfl
theorem dX10_init_207 : decode cX10_init 207 = .ok (.aload_n 0, 1) := kd_dk0 kd_o42 kd_ncX10_init rfl
theorem dX10_init_208 : decode cX10_init 208 = .ok (.sipush 260, 3) := kd_dj2 kd_o17 (w := 260) kd_ncX10_init rfl rfl
theorem dX10_init_211 : decode cX10_init 211 = .ok (.newarray .int, 2) := kd_dkn kd_w10 kd_ncX10_init rfl
theorem dX10_init_213 : decode cX10_init 213 = .ok (.putfield 92, 3) := kd_dk2 kd_o181 kd_ncX10_init rfl
theorem dX10_init_216 : decode cX10_init 216 = .ok (.aload_n 0, 1) := kd_dk0 kd_o42 kd_ncX10_init rfl
theorem dX10_init_217 : decode cX10_init 217 = .ok (.sipush 840, 3) := kd_dj2 kd_o17 (w := 840) kd_ncX10_init rfl rfl
theorem dX10_init_220 : decode cX10_init 220 = .ok (.newarray .int, 2) := kd_dkn kd_w10 kd_ncX10_init rfl
theorem dX10_init_222 : decode cX10_init 222 = .ok (.putfield 95, 3) := kd_dk2 kd_o181 kd_ncX10_init rfl
theorem dX10_init_225 : decode cX10_init 225 = .ok (.aload_n 0, 1) := kd_dk0 kd_o42 kd_ncX10_init rfl
theorem dX10_init_226 : decode cX10_init 226 = .ok (.sipush 840, 3) := kd_dj2 kd_o17 (w := 840) kd_ncX10_init rfl rfl
theorem dX10_init_229 : decode cX10_init 229 = .ok (.newarray .int, 2) := kd_dkn kd_w10 kd_ncX10_init rfl
theorem dX10_init_231 : decode cX10_init 231 = .ok (.putfield 98, 3) := kd_dk2 kd_o181 kd_ncX10_init rfl
theorem dX10_init_234 : decode cX10_init 234 = .ok (.aload_n 0, 1) := kd_dk0 kd_o42 kd_ncX10_init rfl
theorem dX10_init_235 : decode cX10_init 235 = .ok (.bipush 64, 2) := kd_dj1 kd_o16 (w := 64) kd_ncX10_init rfl rfl
theorem dX10_init_237 : decode cX10_init 237 = .ok (.newarray .int, 2) := kd_dkn kd_w10 kd_ncX10_init rfl
theorem dX10_init_239 : decode cX10_init 239 = .ok (.putfield 101, 3) := kd_dk2 kd_o181 kd_ncX10_init rfl
theorem dX10_init_242 : decode cX10_init 242 = .ok (.aload_n 0, 1) := kd_dk0 kd_o42 kd_ncX10_init rfl
theorem dX10_init_243 : decode cX10_init 243 = .ok (.bipush 9, 2) := kd_dj1 kd_o16 (w := 9) kd_ncX10_init rfl rfl
theorem dX10_init_245 : decode cX10_init 245 = .ok (.newarray .int, 2) := kd_dkn kd_w10 kd_ncX10_init rfl
theorem dX10_init_247 : decode cX10_init 247 = .ok (.putfield 104, 3) := kd_dk2 kd_o181 kd_ncX10_init rfl
theorem dX10_init_250 : decode cX10_init 250 = .ok (.aload_n 0, 1) := kd_dk0 kd_o42 kd_ncX10_init rfl
theorem dX10_init_251 : decode cX10_init 251 = .ok (.sipush 400, 3) := kd_dj2 kd_o17 (w := 400) kd_ncX10_init rfl rfl
theorem dX10_init_254 : decode cX10_init 254 = .ok (.newarray .int, 2) := kd_dkn kd_w10 kd_ncX10_init rfl
theorem dX10_init_256 : decode cX10_init 256 = .ok (.putfield 107, 3) := kd_dk2 kd_o181 kd_ncX10_init rfl
theorem dX10_init_259 : decode cX10_init 259 = .ok (.aload_n 0, 1) := kd_dk0 kd_o42 kd_ncX10_init rfl
theorem dX10_init_260 : decode cX10_init 260 = .ok (.bipush 71, 2) := kd_dj1 kd_o16 (w := 71) kd_ncX10_init rfl rfl
theorem dX10_init_262 : decode cX10_init 262 = .ok (.newarray .int, 2) := kd_dkn kd_w10 kd_ncX10_init rfl
theorem dX10_init_264 : decode cX10_init 264 = .ok (.putfield 110, 3) := kd_dk2 kd_o181 kd_ncX10_init rfl
theorem dX10_init_267 : decode cX10_init 267 = .ok (.aload_n 0, 1) := kd_dk0 kd_o42 kd_ncX10_init rfl
theorem dX10_init_268 : decode cX10_init 268 = .ok (.bipush 71, 2) := kd_dj1 kd_o16 (w := 71) kd_ncX10_init rfl rfl
theorem dX10_init_270 : decode cX10_init 270 = .ok (.newarray .int, 2) := kd_dkn kd_w10 kd_ncX10_init rfl
theorem dX10_init_272 : decode cX10_init 272 = .ok (.putfield 113, 3) := kd_dk2 kd_o181 kd_ncX10_init rfl
theorem dX10_init_275 : decode cX10_init 275 = .ok (.aload_n 0, 1) := kd_dk0 kd_o42 kd_ncX10_init rfl
theorem dX10_init_276 : decode cX10_init 276 = .ok (.bipush 6, 2) := kd_dj1 kd_o16 (w := 6) kd_ncX10_init rfl rfl
theorem dX10_init_278 : decode cX10_init 278 = .ok (.newarray .int, 2) := kd_dkn kd_w10 kd_ncX10_init rfl
theorem dX10_init_280 : decode cX10_init 280 = .ok (.putfield 116, 3) := kd_dk2 kd_o181 kd_ncX10_init rfl
theorem dX10_init_283 : decode cX10_init 283 = .ok (.aload_n 0, 1) := kd_dk0 kd_o42 kd_ncX10_init rfl
theorem dX10_init_284 : decode cX10_init 284 = .ok (.bipush 6, 2) := kd_dj1 kd_o16 (w := 6) kd_ncX10_init rfl rfl
theorem dX10_init_286 : decode cX10_init 286 = .ok (.newarray .boolean, 2) := kd_dkn kd_w4 kd_ncX10_init rfl
theorem dX10_init_288 : decode cX10_init 288 = .ok (.putfield 119, 3) := kd_dk2 kd_o181 kd_ncX10_init rfl
theorem dX10_init_291 : decode cX10_init 291 = .ok (.aload_n 0, 1) := kd_dk0 kd_o42 kd_ncX10_init rfl
theorem dX10_init_292 : decode cX10_init 292 = .ok (.bipush 6, 2) := kd_dj1 kd_o16 (w := 6) kd_ncX10_init rfl rfl
theorem dX10_init_294 : decode cX10_init 294 = .ok (.newarray .boolean, 2) := kd_dkn kd_w4 kd_ncX10_init rfl
theorem dX10_init_296 : decode cX10_init 296 = .ok (.putfield 122, 3) := kd_dk2 kd_o181 kd_ncX10_init rfl
theorem dX10_init_299 : decode cX10_init 299 = .ok (.aload_n 0, 1) := kd_dk0 kd_o42 kd_ncX10_init rfl
theorem dX10_init_300 : decode cX10_init 300 = .ok (.bipush 6, 2) := kd_dj1 kd_o16 (w := 6) kd_ncX10_init rfl rfl
theorem dX10_init_302 : decode cX10_init 302 = .ok (.newarray .int, 2) := kd_dkn kd_w10 kd_ncX10_init rfl
theorem dX10_init_304 : decode cX10_init 304 = .ok (.putfield 125, 3) := kd_dk2 kd_o181 kd_ncX10_init rfl
theorem dX10_init_307 : decode cX10_init 307 = .ok (.aload_n 0, 1) := kd_dk0 kd_o42 kd_ncX10_init rfl
theorem dX10_init_308 : decode cX10_init 308 = .ok (.sipush 2840, 3) := kd_dj2 kd_o17 (w := 2840) kd_ncX10_init rfl rfl
theorem dX10_init_311 : decode cX10_init 311 = .ok (.newarray .int, 2) := kd_dkn kd_w10 kd_ncX10_init rfl
theorem dX10_init_313 : decode cX10_init 313 = .ok (.putfield 128, 3) := kd_dk2 kd_o181 kd_ncX10_init rfl
theorem dX10_init_316 : decode cX10_init 316 = .ok (.aload_n 0, 1) := kd_dk0 kd_o42 kd_ncX10_init rfl
theorem dX10_init_317 : decode cX10_init 317 = .ok (.bipush 42, 2) := kd_dj1 kd_o16 (w := 42) kd_ncX10_init rfl rfl
theorem dX10_init_319 : decode cX10_init 319 = .ok (.newarray .int, 2) := kd_dkn kd_w10 kd_ncX10_init rfl
theorem dX10_init_321 : decode cX10_init 321 = .ok (.putfield 131, 3) := kd_dk2 kd_o181 kd_ncX10_init rfl
theorem dX10_init_324 : decode cX10_init 324 = .ok (.aload_n 0, 1) := kd_dk0 kd_o42 kd_ncX10_init rfl
theorem dX10_init_325 : decode cX10_init 325 = .ok (.sipush 896, 3) := kd_dj2 kd_o17 (w := 896) kd_ncX10_init rfl rfl
theorem dX10_init_328 : decode cX10_init 328 = .ok (.newarray .int, 2) := kd_dkn kd_w10 kd_ncX10_init rfl
theorem dX10_init_330 : decode cX10_init 330 = .ok (.putfield 134, 3) := kd_dk2 kd_o181 kd_ncX10_init rfl
theorem dX10_init_333 : decode cX10_init 333 = .ok (.aload_n 0, 1) := kd_dk0 kd_o42 kd_ncX10_init rfl
theorem dX10_init_334 : decode cX10_init 334 = .ok (.bipush 6, 2) := kd_dj1 kd_o16 (w := 6) kd_ncX10_init rfl rfl
theorem dX10_init_336 : decode cX10_init 336 = .ok (.newarray .int, 2) := kd_dkn kd_w10 kd_ncX10_init rfl
theorem dX10_init_338 : decode cX10_init 338 = .ok (.putfield 137, 3) := kd_dk2 kd_o181 kd_ncX10_init rfl
theorem dX10_init_341 : decode cX10_init 341 = .ok (.aload_n 0, 1) := kd_dk0 kd_o42 kd_ncX10_init rfl
theorem dX10_init_342 : decode cX10_init 342 = .ok (.bipush 20, 2) := kd_dj1 kd_o16 (w := 20) kd_ncX10_init rfl rfl
theorem dX10_init_344 : decode cX10_init 344 = .ok (.newarray .int, 2) := kd_dkn kd_w10 kd_ncX10_init rfl
theorem dX10_init_346 : decode cX10_init 346 = .ok (.putfield 140, 3) := kd_dk2 kd_o181 kd_ncX10_init rfl
theorem dX10_init_349 : decode cX10_init 349 = .ok (.aload_n 0, 1) := kd_dk0 kd_o42 kd_ncX10_init rfl
theorem dX10_init_350 : decode cX10_init 350 = .ok (.bipush 20, 2) := kd_dj1 kd_o16 (w := 20) kd_ncX10_init rfl rfl
theorem dX10_init_352 : decode cX10_init 352 = .ok (.newarray .int, 2) := kd_dkn kd_w10 kd_ncX10_init rfl
theorem dX10_init_354 : decode cX10_init 354 = .ok (.putfield 143, 3) := kd_dk2 kd_o181 kd_ncX10_init rfl
theorem dX10_init_357 : decode cX10_init 357 = .ok (.aload_n 0, 1) := kd_dk0 kd_o42 kd_ncX10_init rfl
theorem dX10_init_358 : decode cX10_init 358 = .ok (.bipush 20, 2) := kd_dj1 kd_o16 (w := 20) kd_ncX10_init rfl rfl
theorem dX10_init_360 : decode cX10_init 360 = .ok (.newarray .boolean, 2) := kd_dkn kd_w4 kd_ncX10_init rfl
theorem dX10_init_362 : decode cX10_init 362 = .ok (.putfield 146, 3) := kd_dk2 kd_o181 kd_ncX10_init rfl
theorem dX10_init_365 : decode cX10_init 365 = .ok (.aload_n 0, 1) := kd_dk0 kd_o42 kd_ncX10_init rfl
theorem dX10_init_366 : decode cX10_init 366 = .ok (.iconst 3, 1) := kd_dk0 kd_o6 kd_ncX10_init rfl
theorem dX10_init_367 : decode cX10_init 367 = .ok (.newarray .boolean, 2) := kd_dkn kd_w4 kd_ncX10_init rfl
theorem dX10_init_369 : decode cX10_init 369 = .ok (.putfield 149, 3) := kd_dk2 kd_o181 kd_ncX10_init rfl
theorem dX10_init_372 : decode cX10_init 372 = .ok (.aload_n 0, 1) := kd_dk0 kd_o42 kd_ncX10_init rfl
theorem dX10_init_373 : decode cX10_init 373 = .ok (.sipush 213, 3) := kd_dj2 kd_o17 (w := 213) kd_ncX10_init rfl rfl
theorem dX10_init_376 : decode cX10_init 376 = .ok (.newarray .int, 2) := kd_dkn kd_w10 kd_ncX10_init rfl
theorem dX10_init_378 : decode cX10_init 378 = .ok (.putfield 152, 3) := kd_dk2 kd_o181 kd_ncX10_init rfl
theorem dX10_init_381 : decode cX10_init 381 = .ok (.aload_n 0, 1) := kd_dk0 kd_o42 kd_ncX10_init rfl
theorem dX10_init_382 : decode cX10_init 382 = .ok (.iconst 0, 1) := kd_dk0 kd_o3 kd_ncX10_init rfl
theorem dX10_init_383 : decode cX10_init 383 = .ok (.invokevirtual 155, 3) := kd_dk2 kd_o182 kd_ncX10_init rfl
theorem dX10_init_386 : decode cX10_init 386 = .ok (.aload_n 0, 1) := kd_dk0 kd_o42 kd_ncX10_init rfl
theorem dX10_init_387 : decode cX10_init 387 = .ok (.iconst 1, 1) := kd_dk0 kd_o4 kd_ncX10_init rfl
theorem dX10_init_388 : decode cX10_init 388 = .ok (.invokevirtual 155, 3) := kd_dk2 kd_o182 kd_ncX10_init rfl
theorem dX10_init_391 : decode cX10_init 391 = .ok (.aload_n 0, 1) := kd_dk0 kd_o42 kd_ncX10_init rfl
theorem dX10_init_392 : decode cX10_init 392 = .ok (.getfield 34, 3) := kd_dk2 kd_o180 kd_ncX10_init rfl
theorem dX10_init_395 : decode cX10_init 395 = .ok (.iconst 0, 1) := kd_dk0 kd_o3 kd_ncX10_init rfl
theorem dX10_init_396 : decode cX10_init 396 = .ok (.bipush 112, 2) := kd_dj1 kd_o16 (w := 112) kd_ncX10_init rfl rfl
theorem dX10_init_398 : decode cX10_init 398 = .ok (.bipush 101, 2) := kd_dj1 kd_o16 (w := 101) kd_ncX10_init rfl rfl
theorem dX10_init_400 : decode cX10_init 400 = .ok (.bipush 114, 2) := kd_dj1 kd_o16 (w := 114) kd_ncX10_init rfl rfl
theorem dX10_init_402 : decode cX10_init 402 = .ok (.bipush 115, 2) := kd_dj1 kd_o16 (w := 115) kd_ncX10_init rfl rfl
theorem dX10_init_404 : decode cX10_init 404 = .ok (.bipush 111, 2) := kd_dj1 kd_o16 (w := 111) kd_ncX10_init rfl rfl
theorem dX10_init_406 : decode cX10_init 406 = .ok (.bipush 110, 2) := kd_dj1 kd_o16 (w := 110) kd_ncX10_init rfl rfl
theorem dX10_init_408 : decode cX10_init 408 = .ok (.iconst 0, 1) := kd_dk0 kd_o3 kd_ncX10_init rfl
theorem dX10_init_409 : decode cX10_init 409 = .ok (.invokestatic 159, 3) := kd_dk2 kd_o184 kd_ncX10_init rfl
theorem dX10_init_412 : decode cX10_init 412 = .ok (.lastore, 1) := kd_dk0 kd_o80 kd_ncX10_init rfl
theorem dX10_init_413 : decode cX10_init 413 = .ok (.aload_n 0, 1) := kd_dk0 kd_o42 kd_ncX10_init rfl
theorem dX10_init_414 : decode cX10_init 414 = .ok (.getfield 34, 3) := kd_dk2 kd_o180 kd_ncX10_init rfl
theorem dX10_init_417 : decode cX10_init 417 = .ok (.iconst 1, 1) := kd_dk0 kd_o4 kd_ncX10_init rfl
theorem dX10_init_418 : decode cX10_init 418 = .ok (.bipush 112, 2) := kd_dj1 kd_o16 (w := 112) kd_ncX10_init rfl rfl
theorem dX10_init_420 : decode cX10_init 420 = .ok (.bipush 97, 2) := kd_dj1 kd_o16 (w := 97) kd_ncX10_init rfl rfl
theorem dX10_init_422 : decode cX10_init 422 = .ok (.bipush 114, 2) := kd_dj1 kd_o16 (w := 114) kd_ncX10_init rfl rfl
theorem dX10_init_424 : decode cX10_init 424 = .ok (.bipush 116, 2) := kd_dj1 kd_o16 (w := 116) kd_ncX10_init rfl rfl
theorem dX10_init_426 : decode cX10_init 426 = .ok (.iconst 0, 1) := kd_dk0 kd_o3 kd_ncX10_init rfl
theorem dX10_init_427 : decode cX10_init 427 = .ok (.iconst 0, 1) := kd_dk0 kd_o3 kd_ncX10_init rfl
theorem dX10_init_428 : decode cX10_init 428 = .ok (.iconst 0, 1) := kd_dk0 kd_o3 kd_ncX10_init rfl
theorem dX10_init_429 : decode cX10_init 429 = .ok (.invokestatic 159, 3) := kd_dk2 kd_o184 kd_ncX10_init rfl
theorem dX10_init_432 : decode cX10_init 432 = .ok (.lastore, 1) := kd_dk0 kd_o80 kd_ncX10_init rfl
theorem dX10_init_433 : decode cX10_init 433 = .ok (.aload_n 0, 1) := kd_dk0 kd_o42 kd_ncX10_init rfl
theorem dX10_init_434 : decode cX10_init 434 = .ok (.getfield 34, 3) := kd_dk2 kd_o180 kd_ncX10_init rfl
theorem dX10_init_437 : decode cX10_init 437 = .ok (.iconst 2, 1) := kd_dk0 kd_o5 kd_ncX10_init rfl
theorem dX10_init_438 : decode cX10_init 438 = .ok (.bipush 115, 2) := kd_dj1 kd_o16 (w := 115) kd_ncX10_init rfl rfl
theorem dX10_init_440 : decode cX10_init 440 = .ok (.bipush 116, 2) := kd_dj1 kd_o16 (w := 116) kd_ncX10_init rfl rfl
theorem dX10_init_442 : decode cX10_init 442 = .ok (.bipush 97, 2) := kd_dj1 kd_o16 (w := 97) kd_ncX10_init rfl rfl
theorem dX10_init_444 : decode cX10_init 444 = .ok (.bipush 110, 2) := kd_dj1 kd_o16 (w := 110) kd_ncX10_init rfl rfl
theorem dX10_init_446 : decode cX10_init 446 = .ok (.bipush 100, 2) := kd_dj1 kd_o16 (w := 100) kd_ncX10_init rfl rfl
theorem dX10_init_448 : decode cX10_init 448 = .ok (.bipush 115, 2) := kd_dj1 kd_o16 (w := 115) kd_ncX10_init rfl rfl
theorem dX10_init_450 : decode cX10_init 450 = .ok (.iconst 0, 1) := kd_dk0 kd_o3 kd_ncX10_init rfl
theorem dX10_init_451 : decode cX10_init 451 = .ok (.invokestatic 159, 3) := kd_dk2 kd_o184 kd_ncX10_init rfl
theorem dX10_init_454 : decode cX10_init 454 = .ok (.lastore, 1) := kd_dk0 kd_o80 kd_ncX10_init rfl
theorem dX10_init_455 : decode cX10_init 455 = .ok (.aload_n 0, 1) := kd_dk0 kd_o42 kd_ncX10_init rfl
theorem dX10_init_456 : decode cX10_init 456 = .ok (.getfield 34, 3) := kd_dk2 kd_o180 kd_ncX10_init rfl
theorem dX10_init_459 : decode cX10_init 459 = .ok (.iconst 3, 1) := kd_dk0 kd_o6 kd_ncX10_init rfl
theorem dX10_init_460 : decode cX10_init 460 = .ok (.bipush 119, 2) := kd_dj1 kd_o16 (w := 119) kd_ncX10_init rfl rfl
theorem dX10_init_462 : decode cX10_init 462 = .ok (.bipush 114, 2) := kd_dj1 kd_o16 (w := 114) kd_ncX10_init rfl rfl
theorem dX10_init_464 : decode cX10_init 464 = .ok (.bipush 105, 2) := kd_dj1 kd_o16 (w := 105) kd_ncX10_init rfl rfl
theorem dX10_init_466 : decode cX10_init 466 = .ok (.bipush 116, 2) := kd_dj1 kd_o16 (w := 116) kd_ncX10_init rfl rfl
theorem dX10_init_468 : decode cX10_init 468 = .ok (.bipush 101, 2) := kd_dj1 kd_o16 (w := 101) kd_ncX10_init rfl rfl
theorem dX10_init_470 : decode cX10_init 470 = .ok (.bipush 115, 2) := kd_dj1 kd_o16 (w := 115) kd_ncX10_init rfl rfl
theorem dX10_init_472 : decode cX10_init 472 = .ok (.iconst 0, 1) := kd_dk0 kd_o3 kd_ncX10_init rfl
theorem dX10_init_473 : decode cX10_init 473 = .ok (.invokestatic 159, 3) := kd_dk2 kd_o184 kd_ncX10_init rfl
theorem dX10_init_476 : decode cX10_init 476 = .ok (.lastore, 1) := kd_dk0 kd_o80 kd_ncX10_init rfl
theorem dX10_init_477 : decode cX10_init 477 = .ok (.aload_n 0, 1) := kd_dk0 kd_o42 kd_ncX10_init rfl
theorem dX10_init_478 : decode cX10_init 478 = .ok (.getfield 34, 3) := kd_dk2 kd_o180 kd_ncX10_init rfl
theorem dX10_init_481 : decode cX10_init 481 = .ok (.iconst 4, 1) := kd_dk0 kd_o7 kd_ncX10_init rfl
theorem dX10_init_482 : decode cX10_init 482 = .ok (.bipush 109, 2) := kd_dj1 kd_o16 (w := 109) kd_ncX10_init rfl rfl
theorem dX10_init_484 : decode cX10_init 484 = .ok (.bipush 97, 2) := kd_dj1 kd_o16 (w := 97) kd_ncX10_init rfl rfl
theorem dX10_init_486 : decode cX10_init 486 = .ok (.bipush 114, 2) := kd_dj1 kd_o16 (w := 114) kd_ncX10_init rfl rfl
theorem dX10_init_488 : decode cX10_init 488 = .ok (.bipush 107, 2) := kd_dj1 kd_o16 (w := 107) kd_ncX10_init rfl rfl
theorem dX10_init_490 : decode cX10_init 490 = .ok (.bipush 115, 2) := kd_dj1 kd_o16 (w := 115) kd_ncX10_init rfl rfl
theorem dX10_init_492 : decode cX10_init 492 = .ok (.iconst 0, 1) := kd_dk0 kd_o3 kd_ncX10_init rfl
theorem dX10_init_493 : decode cX10_init 493 = .ok (.iconst 0, 1) := kd_dk0 kd_o3 kd_ncX10_init rfl
theorem dX10_init_494 : decode cX10_init 494 = .ok (.invokestatic 159, 3) := kd_dk2 kd_o184 kd_ncX10_init rfl
theorem dX10_init_497 : decode cX10_init 497 = .ok (.lastore, 1) := kd_dk0 kd_o80 kd_ncX10_init rfl
theorem dX10_init_498 : decode cX10_init 498 = .ok (.aload_n 0, 1) := kd_dk0 kd_o42 kd_ncX10_init rfl
theorem dX10_init_499 : decode cX10_init 499 = .ok (.getfield 34, 3) := kd_dk2 kd_o180 kd_ncX10_init rfl
theorem dX10_init_502 : decode cX10_init 502 = .ok (.iconst 5, 1) := kd_dk0 kd_o8 kd_ncX10_init rfl
theorem dX10_init_503 : decode cX10_init 503 = .ok (.bipush 100, 2) := kd_dj1 kd_o16 (w := 100) kd_ncX10_init rfl rfl
theorem dX10_init_505 : decode cX10_init 505 = .ok (.bipush 111, 2) := kd_dj1 kd_o16 (w := 111) kd_ncX10_init rfl rfl
theorem dX10_init_507 : decode cX10_init 507 = .ok (.bipush 103, 2) := kd_dj1 kd_o16 (w := 103) kd_ncX10_init rfl rfl
theorem dX10_init_509 : decode cX10_init 509 = .ok (.bipush 115, 2) := kd_dj1 kd_o16 (w := 115) kd_ncX10_init rfl rfl
theorem dX10_init_511 : decode cX10_init 511 = .ok (.iconst 0, 1) := kd_dk0 kd_o3 kd_ncX10_init rfl
theorem dX10_init_512 : decode cX10_init 512 = .ok (.iconst 0, 1) := kd_dk0 kd_o3 kd_ncX10_init rfl
theorem dX10_init_513 : decode cX10_init 513 = .ok (.iconst 0, 1) := kd_dk0 kd_o3 kd_ncX10_init rfl
theorem dX10_init_514 : decode cX10_init 514 = .ok (.invokestatic 159, 3) := kd_dk2 kd_o184 kd_ncX10_init rfl
theorem dX10_init_517 : decode cX10_init 517 = .ok (.lastore, 1) := kd_dk0 kd_o80 kd_ncX10_init rfl
theorem dX10_init_518 : decode cX10_init 518 = .ok (.aload_n 0, 1) := kd_dk0 kd_o42 kd_ncX10_init rfl
theorem dX10_init_519 : decode cX10_init 519 = .ok (.getfield 34, 3) := kd_dk2 kd_o180 kd_ncX10_init rfl
theorem dX10_init_522 : decode cX10_init 522 = .ok (.bipush 6, 2) := kd_dj1 kd_o16 (w := 6) kd_ncX10_init rfl rfl
theorem dX10_init_524 : decode cX10_init 524 = .ok (.bipush 108, 2) := kd_dj1 kd_o16 (w := 108) kd_ncX10_init rfl rfl
theorem dX10_init_526 : decode cX10_init 526 = .ok (.bipush 101, 2) := kd_dj1 kd_o16 (w := 101) kd_ncX10_init rfl rfl
theorem dX10_init_528 : decode cX10_init 528 = .ok (.bipush 97, 2) := kd_dj1 kd_o16 (w := 97) kd_ncX10_init rfl rfl
theorem dX10_init_530 : decode cX10_init 530 = .ok (.bipush 115, 2) := kd_dj1 kd_o16 (w := 115) kd_ncX10_init rfl rfl
theorem dX10_init_532 : decode cX10_init 532 = .ok (.bipush 116, 2) := kd_dj1 kd_o16 (w := 116) kd_ncX10_init rfl rfl
theorem dX10_init_534 : decode cX10_init 534 = .ok (.iconst 0, 1) := kd_dk0 kd_o3 kd_ncX10_init rfl
theorem dX10_init_535 : decode cX10_init 535 = .ok (.iconst 0, 1) := kd_dk0 kd_o3 kd_ncX10_init rfl
theorem dX10_init_536 : decode cX10_init 536 = .ok (.invokestatic 159, 3) := kd_dk2 kd_o184 kd_ncX10_init rfl
theorem dX10_init_539 : decode cX10_init 539 = .ok (.lastore, 1) := kd_dk0 kd_o80 kd_ncX10_init rfl
theorem dX10_init_540 : decode cX10_init 540 = .ok (.aload_n 0, 1) := kd_dk0 kd_o42 kd_ncX10_init rfl
theorem dX10_init_541 : decode cX10_init 541 = .ok (.getfield 34, 3) := kd_dk2 kd_o180 kd_ncX10_init rfl
theorem dX10_init_544 : decode cX10_init 544 = .ok (.bipush 7, 2) := kd_dj1 kd_o16 (w := 7) kd_ncX10_init rfl rfl
theorem dX10_init_546 : decode cX10_init 546 = .ok (.bipush 115, 2) := kd_dj1 kd_o16 (w := 115) kd_ncX10_init rfl rfl
theorem dX10_init_548 : decode cX10_init 548 = .ok (.bipush 101, 2) := kd_dj1 kd_o16 (w := 101) kd_ncX10_init rfl rfl
theorem dX10_init_550 : decode cX10_init 550 = .ok (.bipush 101, 2) := kd_dj1 kd_o16 (w := 101) kd_ncX10_init rfl rfl
theorem dX10_init_552 : decode cX10_init 552 = .ok (.bipush 100, 2) := kd_dj1 kd_o16 (w := 100) kd_ncX10_init rfl rfl
theorem dX10_init_554 : decode cX10_init 554 = .ok (.iconst 0, 1) := kd_dk0 kd_o3 kd_ncX10_init rfl
theorem dX10_init_555 : decode cX10_init 555 = .ok (.iconst 0, 1) := kd_dk0 kd_o3 kd_ncX10_init rfl
theorem dX10_init_556 : decode cX10_init 556 = .ok (.iconst 0, 1) := kd_dk0 kd_o3 kd_ncX10_init rfl
theorem dX10_init_557 : decode cX10_init 557 = .ok (.invokestatic 159, 3) := kd_dk2 kd_o184 kd_ncX10_init rfl
theorem dX10_init_560 : decode cX10_init 560 = .ok (.lastore, 1) := kd_dk0 kd_o80 kd_ncX10_init rfl
theorem dX10_init_561 : decode cX10_init 561 = .ok (.aload_n 0, 1) := kd_dk0 kd_o42 kd_ncX10_init rfl
theorem dX10_init_562 : decode cX10_init 562 = .ok (.getfield 34, 3) := kd_dk2 kd_o180 kd_ncX10_init rfl
theorem dX10_init_565 : decode cX10_init 565 = .ok (.bipush 8, 2) := kd_dj1 kd_o16 (w := 8) kd_ncX10_init rfl rfl
theorem dX10_init_567 : decode cX10_init 567 = .ok (.bipush 105, 2) := kd_dj1 kd_o16 (w := 105) kd_ncX10_init rfl rfl
theorem dX10_init_569 : decode cX10_init 569 = .ok (.bipush 102, 2) := kd_dj1 kd_o16 (w := 102) kd_ncX10_init rfl rfl
theorem dX10_init_571 : decode cX10_init 571 = .ok (.iconst 0, 1) := kd_dk0 kd_o3 kd_ncX10_init rfl
theorem dX10_init_572 : decode cX10_init 572 = .ok (.iconst 0, 1) := kd_dk0 kd_o3 kd_ncX10_init rfl
theorem dX10_init_573 : decode cX10_init 573 = .ok (.iconst 0, 1) := kd_dk0 kd_o3 kd_ncX10_init rfl
theorem dX10_init_574 : decode cX10_init 574 = .ok (.iconst 0, 1) := kd_dk0 kd_o3 kd_ncX10_init rfl
theorem dX10_init_575 : decode cX10_init 575 = .ok (.iconst 0, 1) := kd_dk0 kd_o3 kd_ncX10_init rfl
theorem dX10_init_576 : decode cX10_init 576 = .ok (.invokestatic 159, 3) := kd_dk2 kd_o184 kd_ncX10_init rfl
theorem dX10_init_579 : decode cX10_init 579 = .ok (.lastore, 1) := kd_dk0 kd_o80 kd_ncX10_init rfl
theorem dX10_init_580 : decode cX10_init 580 = .ok (.aload_n 0, 1) := kd_dk0 kd_o42 kd_ncX10_init rfl
theorem dX10_init_581 : decode cX10_init 581 = .ok (.getfield 34, 3) := kd_dk2 kd_o180 kd_ncX10_init rfl
theorem dX10_init_584 : decode cX10_init 584 = .ok (.bipush 9, 2) := kd_dj1 kd_o16 (w := 9) kd_ncX10_init rfl rfl
theorem dX10_init_586 : decode cX10_init 586 = .ok (.bipush 116, 2) := kd_dj1 kd_o16 (w := 116) kd_ncX10_init rfl rfl
theorem dX10_init_588 : decode cX10_init 588 = .ok (.bipush 104, 2) := kd_dj1 kd_o16 (w := 104) kd_ncX10_init rfl rfl
theorem dX10_init_590 : decode cX10_init 590 = .ok (.bipush 101, 2) := kd_dj1 kd_o16 (w := 101) kd_ncX10_init rfl rfl
theorem dX10_init_592 : decode cX10_init 592 = .ok (.bipush 110, 2) := kd_dj1 kd_o16 (w := 110) kd_ncX10_init rfl rfl
theorem dX10_init_594 : decode cX10_init 594 = .ok (.iconst 0, 1) := kd_dk0 kd_o3 kd_ncX10_init rfl
theorem dX10_init_595 : decode cX10_init 595 = .ok (.iconst 0, 1) := kd_dk0 kd_o3 kd_ncX10_init rfl
theorem dX10_init_596 : decode cX10_init 596 = .ok (.iconst 0, 1) := kd_dk0 kd_o3 kd_ncX10_init rfl
theorem dX10_init_597 : decode cX10_init 597 = .ok (.invokestatic 159, 3) := kd_dk2 kd_o184 kd_ncX10_init rfl
theorem dX10_init_600 : decode cX10_init 600 = .ok (.lastore, 1) := kd_dk0 kd_o80 kd_ncX10_init rfl
theorem dX10_init_601 : decode cX10_init 601 = .ok (.aload_n 0, 1) := kd_dk0 kd_o42 kd_ncX10_init rfl
theorem dX10_init_602 : decode cX10_init 602 = .ok (.getfield 34, 3) := kd_dk2 kd_o180 kd_ncX10_init rfl
theorem dX10_init_605 : decode cX10_init 605 = .ok (.bipush 10, 2) := kd_dj1 kd_o16 (w := 10) kd_ncX10_init rfl rfl
theorem dX10_init_607 : decode cX10_init 607 = .ok (.bipush 101, 2) := kd_dj1 kd_o16 (w := 101) kd_ncX10_init rfl rfl
theorem dX10_init_609 : decode cX10_init 609 = .ok (.bipush 108, 2) := kd_dj1 kd_o16 (w := 108) kd_ncX10_init rfl rfl
theorem dX10_init_611 : decode cX10_init 611 = .ok (.bipush 115, 2) := kd_dj1 kd_o16 (w := 115) kd_ncX10_init rfl rfl
theorem dX10_init_613 : decode cX10_init 613 = .ok (.bipush 101, 2) := kd_dj1 kd_o16 (w := 101) kd_ncX10_init rfl rfl
theorem dX10_init_615 : decode cX10_init 615 = .ok (.iconst 0, 1) := kd_dk0 kd_o3 kd_ncX10_init rfl
theorem dX10_init_616 : decode cX10_init 616 = .ok (.iconst 0, 1) := kd_dk0 kd_o3 kd_ncX10_init rfl
theorem dX10_init_617 : decode cX10_init 617 = .ok (.iconst 0, 1) := kd_dk0 kd_o3 kd_ncX10_init rfl
theorem dX10_init_618 : decode cX10_init 618 = .ok (.invokestatic 159, 3) := kd_dk2 kd_o184 kd_ncX10_init rfl
theorem dX10_init_621 : decode cX10_init 621 = .ok (.lastore, 1) := kd_dk0 kd_o80 kd_ncX10_init rfl
theorem dX10_init_622 : decode cX10_init 622 = .ok (.aload_n 0, 1) := kd_dk0 kd_o42 kd_ncX10_init rfl
theorem dX10_init_623 : decode cX10_init 623 = .ok (.getfield 34, 3) := kd_dk2 kd_o180 kd_ncX10_init rfl
theorem dX10_init_626 : decode cX10_init 626 = .ok (.bipush 11, 2) := kd_dj1 kd_o16 (w := 11) kd_ncX10_init rfl rfl
theorem dX10_init_628 : decode cX10_init 628 = .ok (.bipush 97, 2) := kd_dj1 kd_o16 (w := 97) kd_ncX10_init rfl rfl
theorem dX10_init_630 : decode cX10_init 630 = .ok (.bipush 112, 2) := kd_dj1 kd_o16 (w := 112) kd_ncX10_init rfl rfl
theorem dX10_init_632 : decode cX10_init 632 = .ok (.bipush 97, 2) := kd_dj1 kd_o16 (w := 97) kd_ncX10_init rfl rfl
theorem dX10_init_634 : decode cX10_init 634 = .ok (.bipush 114, 2) := kd_dj1 kd_o16 (w := 114) kd_ncX10_init rfl rfl
theorem dX10_init_636 : decode cX10_init 636 = .ok (.bipush 116, 2) := kd_dj1 kd_o16 (w := 116) kd_ncX10_init rfl rfl
theorem dX10_init_638 : decode cX10_init 638 = .ok (.iconst 0, 1) := kd_dk0 kd_o3 kd_ncX10_init rfl
theorem dX10_init_639 : decode cX10_init 639 = .ok (.iconst 0, 1) := kd_dk0 kd_o3 kd_ncX10_init rfl
theorem dX10_init_640 : decode cX10_init 640 = .ok (.invokestatic 159, 3) := kd_dk2 kd_o184 kd_ncX10_init rfl
theorem dX10_init_643 : decode cX10_init 643 = .ok (.lastore, 1) := kd_dk0 kd_o80 kd_ncX10_init rfl
theorem dX10_init_644 : decode cX10_init 644 = .ok (.aload_n 0, 1) := kd_dk0 kd_o42 kd_ncX10_init rfl
theorem dX10_init_645 : decode cX10_init 645 = .ok (.getfield 34, 3) := kd_dk2 kd_o180 kd_ncX10_init rfl
theorem dX10_init_648 : decode cX10_init 648 = .ok (.bipush 12, 2) := kd_dj1 kd_o16 (w := 12) kd_ncX10_init rfl rfl
theorem dX10_init_650 : decode cX10_init 650 = .ok (.bipush 117, 2) := kd_dj1 kd_o16 (w := 117) kd_ncX10_init rfl rfl
theorem dX10_init_652 : decode cX10_init 652 = .ok (.bipush 110, 2) := kd_dj1 kd_o16 (w := 110) kd_ncX10_init rfl rfl
theorem dX10_init_654 : decode cX10_init 654 = .ok (.bipush 108, 2) := kd_dj1 kd_o16 (w := 108) kd_ncX10_init rfl rfl
theorem dX10_init_656 : decode cX10_init 656 = .ok (.bipush 105, 2) := kd_dj1 kd_o16 (w := 105) kd_ncX10_init rfl rfl
theorem dX10_init_658 : decode cX10_init 658 = .ok (.bipush 107, 2) := kd_dj1 kd_o16 (w := 107) kd_ncX10_init rfl rfl
theorem dX10_init_660 : decode cX10_init 660 = .ok (.bipush 101, 2) := kd_dj1 kd_o16 (w := 101) kd_ncX10_init rfl rfl
theorem dX10_init_662 : decode cX10_init 662 = .ok (.iconst 0, 1) := kd_dk0 kd_o3 kd_ncX10_init rfl
theorem dX10_init_663 : decode cX10_init 663 = .ok (.invokestatic 159, 3) := kd_dk2 kd_o184 kd_ncX10_init rfl
theorem dX10_init_666 : decode cX10_init 666 = .ok (.lastore, 1) := kd_dk0 kd_o80 kd_ncX10_init rfl
theorem dX10_init_667 : decode cX10_init 667 = .ok (.aload_n 0, 1) := kd_dk0 kd_o42 kd_ncX10_init rfl
theorem dX10_init_668 : decode cX10_init 668 = .ok (.getfield 34, 3) := kd_dk2 kd_o180 kd_ncX10_init rfl
theorem dX10_init_671 : decode cX10_init 671 = .ok (.bipush 13, 2) := kd_dj1 kd_o16 (w := 13) kd_ncX10_init rfl rfl
theorem dX10_init_673 : decode cX10_init 673 = .ok (.bipush 111, 2) := kd_dj1 kd_o16 (w := 111) kd_ncX10_init rfl rfl
theorem dX10_init_675 : decode cX10_init 675 = .ok (.bipush 100, 2) := kd_dj1 kd_o16 (w := 100) kd_ncX10_init rfl rfl
theorem dX10_init_677 : decode cX10_init 677 = .ok (.bipush 100, 2) := kd_dj1 kd_o16 (w := 100) kd_ncX10_init rfl rfl
theorem dX10_init_679 : decode cX10_init 679 = .ok (.iconst 0, 1) := kd_dk0 kd_o3 kd_ncX10_init rfl
theorem dX10_init_680 : decode cX10_init 680 = .ok (.iconst 0, 1) := kd_dk0 kd_o3 kd_ncX10_init rfl
theorem dX10_init_681 : decode cX10_init 681 = .ok (.iconst 0, 1) := kd_dk0 kd_o3 kd_ncX10_init rfl
theorem dX10_init_682 : decode cX10_init 682 = .ok (.iconst 0, 1) := kd_dk0 kd_o3 kd_ncX10_init rfl
theorem dX10_init_683 : decode cX10_init 683 = .ok (.invokestatic 159, 3) := kd_dk2 kd_o184 kd_ncX10_init rfl
theorem dX10_init_686 : decode cX10_init 686 = .ok (.lastore, 1) := kd_dk0 kd_o80 kd_ncX10_init rfl
theorem dX10_init_687 : decode cX10_init 687 = .ok (.aload_n 0, 1) := kd_dk0 kd_o42 kd_ncX10_init rfl
theorem dX10_init_688 : decode cX10_init 688 = .ok (.getfield 34, 3) := kd_dk2 kd_o180 kd_ncX10_init rfl
theorem dX10_init_691 : decode cX10_init 691 = .ok (.bipush 14, 2) := kd_dj1 kd_o16 (w := 14) kd_ncX10_init rfl rfl
theorem dX10_init_693 : decode cX10_init 693 = .ok (.bipush 100, 2) := kd_dj1 kd_o16 (w := 100) kd_ncX10_init rfl rfl
theorem dX10_init_695 : decode cX10_init 695 = .ok (.bipush 97, 2) := kd_dj1 kd_o16 (w := 97) kd_ncX10_init rfl rfl
theorem dX10_init_697 : decode cX10_init 697 = .ok (.bipush 121, 2) := kd_dj1 kd_o16 (w := 121) kd_ncX10_init rfl rfl
theorem dX10_init_699 : decode cX10_init 699 = .ok (.iconst 0, 1) := kd_dk0 kd_o3 kd_ncX10_init rfl
theorem dX10_init_700 : decode cX10_init 700 = .ok (.iconst 0, 1) := kd_dk0 kd_o3 kd_ncX10_init rfl
theorem dX10_init_701 : decode cX10_init 701 = .ok (.iconst 0, 1) := kd_dk0 kd_o3 kd_ncX10_init rfl
theorem dX10_init_702 : decode cX10_init 702 = .ok (.iconst 0, 1) := kd_dk0 kd_o3 kd_ncX10_init rfl
theorem dX10_init_703 : decode cX10_init 703 = .ok (.invokestatic 159, 3) := kd_dk2 kd_o184 kd_ncX10_init rfl
theorem dX10_init_706 : decode cX10_init 706 = .ok (.lastore, 1) := kd_dk0 kd_o80 kd_ncX10_init rfl
theorem dX10_init_707 : decode cX10_init 707 = .ok (.aload_n 0, 1) := kd_dk0 kd_o42 kd_ncX10_init rfl
theorem dX10_init_708 : decode cX10_init 708 = .ok (.getfield 34, 3) := kd_dk2 kd_o180 kd_ncX10_init rfl
theorem dX10_init_711 : decode cX10_init 711 = .ok (.bipush 15, 2) := kd_dj1 kd_o16 (w := 15) kd_ncX10_init rfl rfl
theorem dX10_init_713 : decode cX10_init 713 = .ok (.bipush 115, 2) := kd_dj1 kd_o16 (w := 115) kd_ncX10_init rfl rfl
theorem dX10_init_715 : decode cX10_init 715 = .ok (.bipush 101, 2) := kd_dj1 kd_o16 (w := 101) kd_ncX10_init rfl rfl
theorem dX10_init_717 : decode cX10_init 717 = .ok (.bipush 101, 2) := kd_dj1 kd_o16 (w := 101) kd_ncX10_init rfl rfl
theorem dX10_init_719 : decode cX10_init 719 = .ok (.bipush 110, 2) := kd_dj1 kd_o16 (w := 110) kd_ncX10_init rfl rfl
theorem dX10_init_721 : decode cX10_init 721 = .ok (.iconst 0, 1) := kd_dk0 kd_o3 kd_ncX10_init rfl
theorem dX10_init_722 : decode cX10_init 722 = .ok (.iconst 0, 1) := kd_dk0 kd_o3 kd_ncX10_init rfl
theorem dX10_init_723 : decode cX10_init 723 = .ok (.iconst 0, 1) := kd_dk0 kd_o3 kd_ncX10_init rfl
theorem dX10_init_724 : decode cX10_init 724 = .ok (.invokestatic 159, 3) := kd_dk2 kd_o184 kd_ncX10_init rfl
theorem dX10_init_727 : decode cX10_init 727 = .ok (.lastore, 1) := kd_dk0 kd_o80 kd_ncX10_init rfl
theorem dX10_init_728 : decode cX10_init 728 = .ok (.aload_n 0, 1) := kd_dk0 kd_o42 kd_ncX10_init rfl
theorem dX10_init_729 : decode cX10_init 729 = .ok (.getfield 34, 3) := kd_dk2 kd_o180 kd_ncX10_init rfl
theorem dX10_init_732 : decode cX10_init 732 = .ok (.bipush 16, 2) := kd_dj1 kd_o16 (w := 16) kd_ncX10_init rfl rfl
theorem dX10_init_734 : decode cX10_init 734 = .ok (.bipush 104, 2) := kd_dj1 kd_o16 (w := 104) kd_ncX10_init rfl rfl
theorem dX10_init_736 : decode cX10_init 736 = .ok (.bipush 111, 2) := kd_dj1 kd_o16 (w := 111) kd_ncX10_init rfl rfl
theorem dX10_init_738 : decode cX10_init 738 = .ok (.bipush 117, 2) := kd_dj1 kd_o16 (w := 117) kd_ncX10_init rfl rfl
theorem dX10_init_740 : decode cX10_init 740 = .ok (.bipush 114, 2) := kd_dj1 kd_o16 (w := 114) kd_ncX10_init rfl rfl
theorem dX10_init_742 : decode cX10_init 742 = .ok (.iconst 0, 1) := kd_dk0 kd_o3 kd_ncX10_init rfl
theorem dX10_init_743 : decode cX10_init 743 = .ok (.iconst 0, 1) := kd_dk0 kd_o3 kd_ncX10_init rfl
theorem dX10_init_744 : decode cX10_init 744 = .ok (.iconst 0, 1) := kd_dk0 kd_o3 kd_ncX10_init rfl
theorem dX10_init_745 : decode cX10_init 745 = .ok (.invokestatic 159, 3) := kd_dk2 kd_o184 kd_ncX10_init rfl
theorem dX10_init_748 : decode cX10_init 748 = .ok (.lastore, 1) := kd_dk0 kd_o80 kd_ncX10_init rfl
theorem dX10_init_749 : decode cX10_init 749 = .ok (.aload_n 0, 1) := kd_dk0 kd_o42 kd_ncX10_init rfl
theorem dX10_init_750 : decode cX10_init 750 = .ok (.getfield 34, 3) := kd_dk2 kd_o180 kd_ncX10_init rfl
theorem dX10_init_753 : decode cX10_init 753 = .ok (.bipush 17, 2) := kd_dj1 kd_o16 (w := 17) kd_ncX10_init rfl rfl
theorem dX10_init_755 : decode cX10_init 755 = .ok (.bipush 107, 2) := kd_dj1 kd_o16 (w := 107) kd_ncX10_init rfl rfl
theorem dX10_init_757 : decode cX10_init 757 = .ok (.bipush 105, 2) := kd_dj1 kd_o16 (w := 105) kd_ncX10_init rfl rfl
theorem dX10_init_759 : decode cX10_init 759 = .ok (.bipush 110, 2) := kd_dj1 kd_o16 (w := 110) kd_ncX10_init rfl rfl
theorem dX10_init_761 : decode cX10_init 761 = .ok (.bipush 100, 2) := kd_dj1 kd_o16 (w := 100) kd_ncX10_init rfl rfl
theorem dX10_init_763 : decode cX10_init 763 = .ok (.iconst 0, 1) := kd_dk0 kd_o3 kd_ncX10_init rfl
theorem dX10_init_764 : decode cX10_init 764 = .ok (.iconst 0, 1) := kd_dk0 kd_o3 kd_ncX10_init rfl
theorem dX10_init_765 : decode cX10_init 765 = .ok (.iconst 0, 1) := kd_dk0 kd_o3 kd_ncX10_init rfl
theorem dX10_init_766 : decode cX10_init 766 = .ok (.invokestatic 159, 3) := kd_dk2 kd_o184 kd_ncX10_init rfl
theorem dX10_init_769 : decode cX10_init 769 = .ok (.lastore, 1) := kd_dk0 kd_o80 kd_ncX10_init rfl
theorem dX10_init_770 : decode cX10_init 770 = .ok (.aload_n 0, 1) := kd_dk0 kd_o42 kd_ncX10_init rfl
theorem dX10_init_771 : decode cX10_init 771 = .ok (.getfield 34, 3) := kd_dk2 kd_o180 kd_ncX10_init rfl
theorem dX10_init_774 : decode cX10_init 774 = .ok (.bipush 18, 2) := kd_dj1 kd_o16 (w := 18) kd_ncX10_init rfl rfl
theorem dX10_init_776 : decode cX10_init 776 = .ok (.bipush 115, 2) := kd_dj1 kd_o16 (w := 115) kd_ncX10_init rfl rfl
theorem dX10_init_778 : decode cX10_init 778 = .ok (.bipush 105, 2) := kd_dj1 kd_o16 (w := 105) kd_ncX10_init rfl rfl
theorem dX10_init_780 : decode cX10_init 780 = .ok (.bipush 122, 2) := kd_dj1 kd_o16 (w := 122) kd_ncX10_init rfl rfl
theorem dX10_init_782 : decode cX10_init 782 = .ok (.bipush 101, 2) := kd_dj1 kd_o16 (w := 101) kd_ncX10_init rfl rfl
theorem dX10_init_784 : decode cX10_init 784 = .ok (.iconst 0, 1) := kd_dk0 kd_o3 kd_ncX10_init rfl
theorem dX10_init_785 : decode cX10_init 785 = .ok (.iconst 0, 1) := kd_dk0 kd_o3 kd_ncX10_init rfl
theorem dX10_init_786 : decode cX10_init 786 = .ok (.iconst 0, 1) := kd_dk0 kd_o3 kd_ncX10_init rfl
theorem dX10_init_787 : decode cX10_init 787 = .ok (.invokestatic 159, 3) := kd_dk2 kd_o184 kd_ncX10_init rfl
theorem dX10_init_790 : decode cX10_init 790 = .ok (.lastore, 1) := kd_dk0 kd_o80 kd_ncX10_init rfl
theorem dX10_init_791 : decode cX10_init 791 = .ok (.aload_n 0, 1) := kd_dk0 kd_o42 kd_ncX10_init rfl
theorem dX10_init_792 : decode cX10_init 792 = .ok (.getfield 34, 3) := kd_dk2 kd_o180 kd_ncX10_init rfl
theorem dX10_init_795 : decode cX10_init 795 = .ok (.bipush 19, 2) := kd_dj1 kd_o16 (w := 19) kd_ncX10_init rfl rfl
theorem dX10_init_797 : decode cX10_init 797 = .ok (.bipush 119, 2) := kd_dj1 kd_o16 (w := 119) kd_ncX10_init rfl rfl
theorem dX10_init_799 : decode cX10_init 799 = .ok (.bipush 104, 2) := kd_dj1 kd_o16 (w := 104) kd_ncX10_init rfl rfl
theorem dX10_init_801 : decode cX10_init 801 = .ok (.bipush 105, 2) := kd_dj1 kd_o16 (w := 105) kd_ncX10_init rfl rfl
theorem dX10_init_803 : decode cX10_init 803 = .ok (.bipush 99, 2) := kd_dj1 kd_o16 (w := 99) kd_ncX10_init rfl rfl
theorem dX10_init_805 : decode cX10_init 805 = .ok (.bipush 104, 2) := kd_dj1 kd_o16 (w := 104) kd_ncX10_init rfl rfl
theorem dX10_init_807 : decode cX10_init 807 = .ok (.iconst 0, 1) := kd_dk0 kd_o3 kd_ncX10_init rfl
theorem dX10_init_808 : decode cX10_init 808 = .ok (.iconst 0, 1) := kd_dk0 kd_o3 kd_ncX10_init rfl
theorem dX10_init_809 : decode cX10_init 809 = .ok (.invokestatic 159, 3) := kd_dk2 kd_o184 kd_ncX10_init rfl
theorem dX10_init_812 : decode cX10_init 812 = .ok (.lastore, 1) := kd_dk0 kd_o80 kd_ncX10_init rfl
theorem dX10_init_813 : decode cX10_init 813 = .ok (.aload_n 0, 1) := kd_dk0 kd_o42 kd_ncX10_init rfl
theorem dX10_init_814 : decode cX10_init 814 = .ok (.invokevirtual 163, 3) := kd_dk2 kd_o182 kd_ncX10_init rfl
theorem dX10_init_817 : decode cX10_init 817 = .ok (.aload_n 0, 1) := kd_dk0 kd_o42 kd_ncX10_init rfl
theorem dX10_init_818 : decode cX10_init 818 = .ok (.invokevirtual 166, 3) := kd_dk2 kd_o182 kd_ncX10_init rfl
theorem dX10_init_821 : decode cX10_init 821 = .ok (.return_, 1) := kd_dk0 kd_o177 kd_ncX10_init rfl
set_option maxHeartbeats 8000000 in
set_option maxRecDepth 100000 in
theorem c_kM (l : Launch) (G : zz_G) (h0 : Nat) : zz_M l G mX10_init 2 45 13426 [.ref h0] [(h0, .inr (10, [.int 0, .null, .int 0, .null, .int 0, .null, .null, .null, .null, .null, .int 0, .int 0, .int 0, .int 0, .int 0, .int 0, .int 0, .int 0, .int 0, .int 0, .int 0, .null, .null, .null, .null, .null, .null, .null, .null, .null, .null, .null, .null, .null, .int 0, .null, .null, .null, .null, .null, .int 0, .null, .null, .null, .int 0, .null, .null, .int 0, .null, .null, .int 0, .int 0, .null, .null, .null, .null, .int 0, .null, .null, .null, .null, .int 0, .null, .null, .null, .null, .null]))] (fun rr u => rr = none ∧ ∃ r : Nat → Nat, r 0 = h0 ∧ zz_RI G 0 r (fun _ => 0) (-1) (0, 0, fun _ => 0) zy_0 zz_d0 u) := by
  refine zz_enterv (by decide +kernel) (Nat.le_of_ble_eq_true rfl) ?_
  intro p e s m args below meth c A Q ls S hnm hret hw hl
  have hl : lv_has ls 1 [(0, .ref h0)] := hl
  have hx := S.1
  have hb := S.2.1
  refine lv_aload_n hx hb dX10_init_0 rfl (lv_at hl 0 rfl) ?_
  refine zz_obj S (zz_c5 118 rfl rfl) hl.1 dX10_init_1 (Nat.le_of_ble_eq_true rfl) (Nat.le_of_ble_eq_true rfl) ?_
  refine lv_aload_n hx hb dX10_init_4 rfl (lv_at hl 0 rfl) ?_
  refine lv_sipush (v := 2000) hx hb dX10_init_5 (by decide) ?_
  refine zz_newa (at_ := .byte) (a0 := (2000, .inl (fun _ => 0))) 1 S hw zz_ar1 rfl rfl (fun _ _ h => h) (fun _ => rfl) (by decide) (nI_clamp (n := 2000) (by decide)) (by decide) (Nat.le_of_ble_eq_true rfl) (Nat.le_of_ble_eq_true rfl) dX10_init_8 ?_
  clear hw
  intro q1 H hw
  replace hw : zz_w G A s [(h0, .inr (10, [.int 0, .null, .int 0, .null, .int 0, .null, .null, .null, .null, .null, .int 0, .int 0, .int 0, .int 0, .int 0, .int 0, .int 0, .int 0, .int 0, .int 0, .int 0, .null, .null, .null, .null, .null, .null, .null, .null, .null, .null, .null, .null, .null, .int 0, .null, .null, .null, .null, .null, .int 0, .null, .null, .null, .int 0, .null, .null, .int 0, .null, .null, .int 0, .int 0, .null, .null, .null, .null, .int 0, .null, .null, .null, .null, .int 0, .null, .null, .null, .null, .null])), (q1, .inl (G.2 1, 2000, .inl (fun _ => 0)))] H _ := hw
  refine zz_putF (ws' := [(h0, .inr (10, [.int 0, .ref q1, .int 0, .null, .int 0, .null, .null, .null, .null, .null, .int 0, .int 0, .int 0, .int 0, .int 0, .int 0, .int 0, .int 0, .int 0, .int 0, .int 0, .null, .null, .null, .null, .null, .null, .null, .null, .null, .null, .null, .null, .null, .int 0, .null, .null, .null, .null, .null, .int 0, .null, .null, .null, .int 0, .null, .null, .int 0, .null, .null, .int 0, .int 0, .null, .null, .null, .null, .int 0, .null, .null, .null, .null, .int 0, .null, .null, .null, .null, .null])), (q1, .inl (G.2 1, 2000, .inl (fun _ => 0)))]) (v := .ref q1) S hnm hw fpX10_13 0 rfl rfl rfl (Nat.le_of_ble_eq_true rfl) rfl dX10_init_10 ?_
  clear hw
  intro H locs hw
  refine Exists.elim (show ∃ V : va_W, V = [(q1, .inl (G.2 1, 2000, .inl (fun _ => 0)))] from ⟨_, rfl⟩) fun VM2 eVM2 => ?_
  replace hw : zz_w G A s ([(h0, .inr (10, [.int 0, .ref q1, .int 0, .null, .int 0, .null, .null, .null, .null, .null, .int 0, .int 0, .int 0, .int 0, .int 0, .int 0, .int 0, .int 0, .int 0, .int 0, .int 0, .null, .null, .null, .null, .null, .null, .null, .null, .null, .null, .null, .null, .null, .int 0, .null, .null, .null, .null, .null, .int 0, .null, .null, .null, .int 0, .null, .null, .int 0, .null, .null, .int 0, .int 0, .null, .null, .null, .null, .int 0, .null, .null, .null, .null, .int 0, .null, .null, .null, .null, .null]))] ++ VM2) H locs := by rw [eVM2]; exact hw
  refine lv_aload_n hx hb dX10_init_13 rfl (lv_at hl 0 rfl) ?_
  refine lv_sipush (v := 2000) hx hb dX10_init_14 (by decide) ?_
  refine zz_newa (at_ := .byte) (a0 := (2000, .inl (fun _ => 0))) 1 S hw zz_ar1 rfl rfl (fun _ _ h => h) (fun _ => rfl) (by decide) (nI_clamp (n := 2000) (by decide)) (by decide) (Nat.le_of_ble_eq_true rfl) (Nat.le_of_ble_eq_true rfl) dX10_init_17 ?_
  clear hw
  intro q3 H hw
  replace hw : zz_w G A s ([(h0, .inr (10, [.int 0, .ref q1, .int 0, .null, .int 0, .null, .null, .null, .null, .null, .int 0, .int 0, .int 0, .int 0, .int 0, .int 0, .int 0, .int 0, .int 0, .int 0, .int 0, .null, .null, .null, .null, .null, .null, .null, .null, .null, .null, .null, .null, .null, .int 0, .null, .null, .null, .null, .null, .int 0, .null, .null, .null, .int 0, .null, .null, .int 0, .null, .null, .int 0, .int 0, .null, .null, .null, .null, .int 0, .null, .null, .null, .null, .int 0, .null, .null, .null, .null, .null])), (q3, .inl (G.2 1, 2000, .inl (fun _ => 0)))] ++ VM2) H _ := zz_w.swap hw
  refine zz_putF (ws' := ([(h0, .inr (10, [.int 0, .ref q1, .int 0, .ref q3, .int 0, .null, .null, .null, .null, .null, .int 0, .int 0, .int 0, .int 0, .int 0, .int 0, .int 0, .int 0, .int 0, .int 0, .int 0, .null, .null, .null, .null, .null, .null, .null, .null, .null, .null, .null, .null, .null, .int 0, .null, .null, .null, .null, .null, .int 0, .null, .null, .null, .int 0, .null, .null, .int 0, .null, .null, .int 0, .int 0, .null, .null, .null, .null, .int 0, .null, .null, .null, .null, .int 0, .null, .null, .null, .null, .null])), (q3, .inl (G.2 1, 2000, .inl (fun _ => 0)))] ++ VM2)) (v := .ref q3) S hnm hw fpX10_17 0 rfl rfl rfl (Nat.le_of_ble_eq_true rfl) rfl dX10_init_19 ?_
  clear hw
  intro H locs hw
  refine Exists.elim (show ∃ V : va_W, V = ([(q3, .inl (G.2 1, 2000, .inl (fun _ => 0)))] ++ VM2) from ⟨_, rfl⟩) fun VM4 eVM4 => ?_
  replace hw : zz_w G A s ([(h0, .inr (10, [.int 0, .ref q1, .int 0, .ref q3, .int 0, .null, .null, .null, .null, .null, .int 0, .int 0, .int 0, .int 0, .int 0, .int 0, .int 0, .int 0, .int 0, .int 0, .int 0, .null, .null, .null, .null, .null, .null, .null, .null, .null, .null, .null, .null, .null, .int 0, .null, .null, .null, .null, .null, .int 0, .null, .null, .null, .int 0, .null, .null, .int 0, .null, .null, .int 0, .int 0, .null, .null, .null, .null, .int 0, .null, .null, .null, .null, .int 0, .null, .null, .null, .null, .null]))] ++ VM4) H locs := by rw [eVM4]; exact hw
  refine lv_aload_n hx hb dX10_init_22 rfl (lv_at hl 0 rfl) ?_
  refine lv_sipush (v := 403) hx hb dX10_init_23 (by decide) ?_
  refine zz_newa (at_ := .int) (a0 := (403, .inl (fun _ => 0))) 0 S hw zz_ar0 rfl rfl (fun _ _ h => h) (fun _ => rfl) (by decide) (nI_clamp (n := 403) (by decide)) (by decide) (Nat.le_of_ble_eq_true rfl) (Nat.le_of_ble_eq_true rfl) dX10_init_26 ?_
  clear hw
  intro q5 H hw
  replace hw : zz_w G A s ([(h0, .inr (10, [.int 0, .ref q1, .int 0, .ref q3, .int 0, .null, .null, .null, .null, .null, .int 0, .int 0, .int 0, .int 0, .int 0, .int 0, .int 0, .int 0, .int 0, .int 0, .int 0, .null, .null, .null, .null, .null, .null, .null, .null, .null, .null, .null, .null, .null, .int 0, .null, .null, .null, .null, .null, .int 0, .null, .null, .null, .int 0, .null, .null, .int 0, .null, .null, .int 0, .int 0, .null, .null, .null, .null, .int 0, .null, .null, .null, .null, .int 0, .null, .null, .null, .null, .null])), (q5, .inl (G.2 0, 403, .inl (fun _ => 0)))] ++ VM4) H _ := zz_w.swap hw
  refine zz_putF (ws' := ([(h0, .inr (10, [.int 0, .ref q1, .int 0, .ref q3, .int 0, .ref q5, .null, .null, .null, .null, .int 0, .int 0, .int 0, .int 0, .int 0, .int 0, .int 0, .int 0, .int 0, .int 0, .int 0, .null, .null, .null, .null, .null, .null, .null, .null, .null, .null, .null, .null, .null, .int 0, .null, .null, .null, .null, .null, .int 0, .null, .null, .null, .int 0, .null, .null, .int 0, .null, .null, .int 0, .int 0, .null, .null, .null, .null, .int 0, .null, .null, .null, .null, .int 0, .null, .null, .null, .null, .null])), (q5, .inl (G.2 0, 403, .inl (fun _ => 0)))] ++ VM4)) (v := .ref q5) S hnm hw fpX10_20 0 rfl rfl rfl (Nat.le_of_ble_eq_true rfl) rfl dX10_init_28 ?_
  clear hw
  intro H locs hw
  refine W.eq (g2 := F0 m 31 ls []) rfl ?_
  refine Exists.elim (show ∃ V : va_W, V = ([(q5, .inl (G.2 0, 403, .inl (fun _ => 0)))] ++ VM4) from ⟨_, rfl⟩) fun VM6 eVM6 => ?_
  replace hw : zz_w G A s ([(h0, .inr (10, [.int 0, .ref q1, .int 0, .ref q3, .int 0, .ref q5, .null, .null, .null, .null, .int 0, .int 0, .int 0, .int 0, .int 0, .int 0, .int 0, .int 0, .int 0, .int 0, .int 0, .null, .null, .null, .null, .null, .null, .null, .null, .null, .null, .null, .null, .null, .int 0, .null, .null, .null, .null, .null, .int 0, .null, .null, .null, .int 0, .null, .null, .int 0, .null, .null, .int 0, .int 0, .null, .null, .null, .null, .int 0, .null, .null, .null, .null, .int 0, .null, .null, .null, .null, .null]))] ++ VM6) H locs := by rw [eVM6]; exact hw
  refine lv_aload_n hx hb dX10_init_31 rfl (lv_at hl 0 rfl) ?_
  refine lv_sipush (v := 403) hx hb dX10_init_32 (by decide) ?_
  refine zz_newa (at_ := .int) (a0 := (403, .inl (fun _ => 0))) 0 S hw zz_ar0 rfl rfl (fun _ _ h => h) (fun _ => rfl) (by decide) (nI_clamp (n := 403) (by decide)) (by decide) (Nat.le_of_ble_eq_true rfl) (Nat.le_of_ble_eq_true rfl) dX10_init_35 ?_
  clear hw
  intro q7 H hw
  replace hw : zz_w G A s ([(h0, .inr (10, [.int 0, .ref q1, .int 0, .ref q3, .int 0, .ref q5, .null, .null, .null, .null, .int 0, .int 0, .int 0, .int 0, .int 0, .int 0, .int 0, .int 0, .int 0, .int 0, .int 0, .null, .null, .null, .null, .null, .null, .null, .null, .null, .null, .null, .null, .null, .int 0, .null, .null, .null, .null, .null, .int 0, .null, .null, .null, .int 0, .null, .null, .int 0, .null, .null, .int 0, .int 0, .null, .null, .null, .null, .int 0, .null, .null, .null, .null, .int 0, .null, .null, .null, .null, .null])), (q7, .inl (G.2 0, 403, .inl (fun _ => 0)))] ++ VM6) H _ := zz_w.swap hw
  refine zz_putF (ws' := ([(h0, .inr (10, [.int 0, .ref q1, .int 0, .ref q3, .int 0, .ref q5, .ref q7, .null, .null, .null, .int 0, .int 0, .int 0, .int 0, .int 0, .int 0, .int 0, .int 0, .int 0, .int 0, .int 0, .null, .null, .null, .null, .null, .null, .null, .null, .null, .null, .null, .null, .null, .int 0, .null, .null, .null, .null, .null, .int 0, .null, .null, .null, .int 0, .null, .null, .int 0, .null, .null, .int 0, .int 0, .null, .null, .null, .null, .int 0, .null, .null, .null, .null, .int 0, .null, .null, .null, .null, .null])), (q7, .inl (G.2 0, 403, .inl (fun _ => 0)))] ++ VM6)) (v := .ref q7) S hnm hw fpX10_24 0 rfl rfl rfl (Nat.le_of_ble_eq_true rfl) rfl dX10_init_37 ?_
  clear hw
  intro H locs hw
  refine Exists.elim (show ∃ V : va_W, V = ([(q7, .inl (G.2 0, 403, .inl (fun _ => 0)))] ++ VM6) from ⟨_, rfl⟩) fun VM8 eVM8 => ?_
  replace hw : zz_w G A s ([(h0, .inr (10, [.int 0, .ref q1, .int 0, .ref q3, .int 0, .ref q5, .ref q7, .null, .null, .null, .int 0, .int 0, .int 0, .int 0, .int 0, .int 0, .int 0, .int 0, .int 0, .int 0, .int 0, .null, .null, .null, .null, .null, .null, .null, .null, .null, .null, .null, .null, .null, .int 0, .null, .null, .null, .null, .null, .int 0, .null, .null, .null, .int 0, .null, .null, .int 0, .null, .null, .int 0, .int 0, .null, .null, .null, .null, .int 0, .null, .null, .null, .null, .int 0, .null, .null, .null, .null, .null]))] ++ VM8) H locs := by rw [eVM8]; exact hw
  refine lv_aload_n hx hb dX10_init_40 rfl (lv_at hl 0 rfl) ?_
  refine lv_sipush (v := 403) hx hb dX10_init_41 (by decide) ?_
  refine zz_newa (at_ := .int) (a0 := (403, .inl (fun _ => 0))) 0 S hw zz_ar0 rfl rfl (fun _ _ h => h) (fun _ => rfl) (by decide) (nI_clamp (n := 403) (by decide)) (by decide) (Nat.le_of_ble_eq_true rfl) (Nat.le_of_ble_eq_true rfl) dX10_init_44 ?_
  clear hw
  intro q9 H hw
  replace hw : zz_w G A s ([(h0, .inr (10, [.int 0, .ref q1, .int 0, .ref q3, .int 0, .ref q5, .ref q7, .null, .null, .null, .int 0, .int 0, .int 0, .int 0, .int 0, .int 0, .int 0, .int 0, .int 0, .int 0, .int 0, .null, .null, .null, .null, .null, .null, .null, .null, .null, .null, .null, .null, .null, .int 0, .null, .null, .null, .null, .null, .int 0, .null, .null, .null, .int 0, .null, .null, .int 0, .null, .null, .int 0, .int 0, .null, .null, .null, .null, .int 0, .null, .null, .null, .null, .int 0, .null, .null, .null, .null, .null])), (q9, .inl (G.2 0, 403, .inl (fun _ => 0)))] ++ VM8) H _ := zz_w.swap hw
  refine zz_putF (ws' := ([(h0, .inr (10, [.int 0, .ref q1, .int 0, .ref q3, .int 0, .ref q5, .ref q7, .ref q9, .null, .null, .int 0, .int 0, .int 0, .int 0, .int 0, .int 0, .int 0, .int 0, .int 0, .int 0, .int 0, .null, .null, .null, .null, .null, .null, .null, .null, .null, .null, .null, .null, .null, .int 0, .null, .null, .null, .null, .null, .int 0, .null, .null, .null, .int 0, .null, .null, .int 0, .null, .null, .int 0, .int 0, .null, .null, .null, .null, .int 0, .null, .null, .null, .null, .int 0, .null, .null, .null, .null, .null])), (q9, .inl (G.2 0, 403, .inl (fun _ => 0)))] ++ VM8)) (v := .ref q9) S hnm hw fpX10_27 0 rfl rfl rfl (Nat.le_of_ble_eq_true rfl) rfl dX10_init_46 ?_
  clear hw
  intro H locs hw
  refine Exists.elim (show ∃ V : va_W, V = ([(q9, .inl (G.2 0, 403, .inl (fun _ => 0)))] ++ VM8) from ⟨_, rfl⟩) fun VM10 eVM10 => ?_
  replace hw : zz_w G A s ([(h0, .inr (10, [.int 0, .ref q1, .int 0, .ref q3, .int 0, .ref q5, .ref q7, .ref q9, .null, .null, .int 0, .int 0, .int 0, .int 0, .int 0, .int 0, .int 0, .int 0, .int 0, .int 0, .int 0, .null, .null, .null, .null, .null, .null, .null, .null, .null, .null, .null, .null, .null, .int 0, .null, .null, .null, .null, .null, .int 0, .null, .null, .null, .int 0, .null, .null, .int 0, .null, .null, .int 0, .int 0, .null, .null, .null, .null, .int 0, .null, .null, .null, .null, .int 0, .null, .null, .null, .null, .null]))] ++ VM10) H locs := by rw [eVM10]; exact hw
  refine lv_aload_n hx hb dX10_init_49 rfl (lv_at hl 0 rfl) ?_
  refine lv_sipush (v := 403) hx hb dX10_init_50 (by decide) ?_
  refine zz_newa (at_ := .long) (a0 := (403, .inr (.inl (fun _ => 0)))) 3 S hw zz_ar3 rfl rfl (fun _ _ h => h) (fun _ => rfl) (by decide) (nI_clamp (n := 403) (by decide)) (by decide) (Nat.le_of_ble_eq_true rfl) (Nat.le_of_ble_eq_true rfl) dX10_init_53 ?_
  clear hw
  intro q11 H hw
  replace hw : zz_w G A s ([(h0, .inr (10, [.int 0, .ref q1, .int 0, .ref q3, .int 0, .ref q5, .ref q7, .ref q9, .null, .null, .int 0, .int 0, .int 0, .int 0, .int 0, .int 0, .int 0, .int 0, .int 0, .int 0, .int 0, .null, .null, .null, .null, .null, .null, .null, .null, .null, .null, .null, .null, .null, .int 0, .null, .null, .null, .null, .null, .int 0, .null, .null, .null, .int 0, .null, .null, .int 0, .null, .null, .int 0, .int 0, .null, .null, .null, .null, .int 0, .null, .null, .null, .null, .int 0, .null, .null, .null, .null, .null])), (q11, .inl (G.2 3, 403, .inr (.inl (fun _ => 0))))] ++ VM10) H _ := zz_w.swap hw
  refine zz_putF (ws' := ([(h0, .inr (10, [.int 0, .ref q1, .int 0, .ref q3, .int 0, .ref q5, .ref q7, .ref q9, .ref q11, .null, .int 0, .int 0, .int 0, .int 0, .int 0, .int 0, .int 0, .int 0, .int 0, .int 0, .int 0, .null, .null, .null, .null, .null, .null, .null, .null, .null, .null, .null, .null, .null, .int 0, .null, .null, .null, .null, .null, .int 0, .null, .null, .null, .int 0, .null, .null, .int 0, .null, .null, .int 0, .int 0, .null, .null, .null, .null, .int 0, .null, .null, .null, .null, .int 0, .null, .null, .null, .null, .null])), (q11, .inl (G.2 3, 403, .inr (.inl (fun _ => 0))))] ++ VM10)) (v := .ref q11) S hnm hw fpX10_30 0 rfl rfl rfl (Nat.le_of_ble_eq_true rfl) rfl dX10_init_55 ?_
  clear hw
  intro H locs hw
  refine Exists.elim (show ∃ V : va_W, V = ([(q11, .inl (G.2 3, 403, .inr (.inl (fun _ => 0))))] ++ VM10) from ⟨_, rfl⟩) fun VM12 eVM12 => ?_
  replace hw : zz_w G A s ([(h0, .inr (10, [.int 0, .ref q1, .int 0, .ref q3, .int 0, .ref q5, .ref q7, .ref q9, .ref q11, .null, .int 0, .int 0, .int 0, .int 0, .int 0, .int 0, .int 0, .int 0, .int 0, .int 0, .int 0, .null, .null, .null, .null, .null, .null, .null, .null, .null, .null, .null, .null, .null, .int 0, .null, .null, .null, .null, .null, .int 0, .null, .null, .null, .int 0, .null, .null, .int 0, .null, .null, .int 0, .int 0, .null, .null, .null, .null, .int 0, .null, .null, .null, .null, .int 0, .null, .null, .null, .null, .null]))] ++ VM12) H locs := by rw [eVM12]; exact hw
  refine lv_aload_n hx hb dX10_init_58 rfl (lv_at hl 0 rfl) ?_
  refine lv_bipush (v := 20) hx hb dX10_init_59 (by decide) ?_
  refine W.eq (g2 := F0 m 61 ls [.int 20, .ref h0]) rfl ?_
  refine zz_newa (at_ := .long) (a0 := (20, .inr (.inl (fun _ => 0)))) 3 S hw zz_ar3 rfl rfl (fun _ _ h => h) (fun _ => rfl) (by decide) (nI_clamp (n := 20) (by decide)) (by decide) (Nat.le_of_ble_eq_true rfl) (Nat.le_of_ble_eq_true rfl) dX10_init_61 ?_
  clear hw
  intro q13 H hw
  replace hw : zz_w G A s ([(h0, .inr (10, [.int 0, .ref q1, .int 0, .ref q3, .int 0, .ref q5, .ref q7, .ref q9, .ref q11, .null, .int 0, .int 0, .int 0, .int 0, .int 0, .int 0, .int 0, .int 0, .int 0, .int 0, .int 0, .null, .null, .null, .null, .null, .null, .null, .null, .null, .null, .null, .null, .null, .int 0, .null, .null, .null, .null, .null, .int 0, .null, .null, .null, .int 0, .null, .null, .int 0, .null, .null, .int 0, .int 0, .null, .null, .null, .null, .int 0, .null, .null, .null, .null, .int 0, .null, .null, .null, .null, .null])), (q13, .inl (G.2 3, 20, .inr (.inl (fun _ => 0))))] ++ VM12) H _ := zz_w.swap hw
  refine zz_putF (ws' := ([(h0, .inr (10, [.int 0, .ref q1, .int 0, .ref q3, .int 0, .ref q5, .ref q7, .ref q9, .ref q11, .ref q13, .int 0, .int 0, .int 0, .int 0, .int 0, .int 0, .int 0, .int 0, .int 0, .int 0, .int 0, .null, .null, .null, .null, .null, .null, .null, .null, .null, .null, .null, .null, .null, .int 0, .null, .null, .null, .null, .null, .int 0, .null, .null, .null, .int 0, .null, .null, .int 0, .null, .null, .int 0, .int 0, .null, .null, .null, .null, .int 0, .null, .null, .null, .null, .int 0, .null, .null, .null, .null, .null])), (q13, .inl (G.2 3, 20, .inr (.inl (fun _ => 0))))] ++ VM12)) (v := .ref q13) S hnm hw fpX10_34 0 rfl rfl rfl (Nat.le_of_ble_eq_true rfl) rfl dX10_init_63 ?_
  clear hw
  intro H locs hw
  refine Exists.elim (show ∃ V : va_W, V = ([(q13, .inl (G.2 3, 20, .inr (.inl (fun _ => 0))))] ++ VM12) from ⟨_, rfl⟩) fun VM14 eVM14 => ?_
  replace hw : zz_w G A s ([(h0, .inr (10, [.int 0, .ref q1, .int 0, .ref q3, .int 0, .ref q5, .ref q7, .ref q9, .ref q11, .ref q13, .int 0, .int 0, .int 0, .int 0, .int 0, .int 0, .int 0, .int 0, .int 0, .int 0, .int 0, .null, .null, .null, .null, .null, .null, .null, .null, .null, .null, .null, .null, .null, .int 0, .null, .null, .null, .null, .null, .int 0, .null, .null, .null, .int 0, .null, .null, .int 0, .null, .null, .int 0, .int 0, .null, .null, .null, .null, .int 0, .null, .null, .null, .null, .int 0, .null, .null, .null, .null, .null]))] ++ VM14) H locs := by rw [eVM14]; exact hw
  refine lv_aload_n hx hb dX10_init_66 rfl (lv_at hl 0 rfl) ?_
  refine lv_iconst (v := (-1)) hx hb dX10_init_67 (by decide) ?_
  refine zz_put (ws' := ([(h0, .inr (10, [.int 0, .ref q1, .int 0, .ref q3, .int 0, .ref q5, .ref q7, .ref q9, .ref q11, .ref q13, .int 0, .int 0, .int 0, .int 0, .int 0, .int 0, .int 0, .int (-1), .int 0, .int 0, .int 0, .null, .null, .null, .null, .null, .null, .null, .null, .null, .null, .null, .null, .null, .int 0, .null, .null, .null, .null, .null, .int 0, .null, .null, .null, .int 0, .null, .null, .int 0, .null, .null, .int 0, .int 0, .null, .null, .null, .null, .int 0, .null, .null, .null, .null, .int 0, .null, .null, .null, .null, .null]))] ++ VM14)) (v := .int (-1)) S hw fpX10_37 0 rfl rfl rfl (Nat.le_of_ble_eq_true rfl) rfl dX10_init_68 ?_
  clear hw
  intro H locs hw
  refine lv_aload_n hx hb dX10_init_71 rfl (lv_at hl 0 rfl) ?_
  refine lv_bipush (v := 13) hx hb dX10_init_72 (by decide) ?_
  refine zz_newa (at_ := .long) (a0 := (13, .inr (.inl (fun _ => 0)))) 3 S hw zz_ar3 rfl rfl (fun _ _ h => h) (fun _ => rfl) (by decide) (nI_clamp (n := 13) (by decide)) (by decide) (Nat.le_of_ble_eq_true rfl) (Nat.le_of_ble_eq_true rfl) dX10_init_74 ?_
  clear hw
  intro q15 H hw
  replace hw : zz_w G A s ([(h0, .inr (10, [.int 0, .ref q1, .int 0, .ref q3, .int 0, .ref q5, .ref q7, .ref q9, .ref q11, .ref q13, .int 0, .int 0, .int 0, .int 0, .int 0, .int 0, .int 0, .int (-1), .int 0, .int 0, .int 0, .null, .null, .null, .null, .null, .null, .null, .null, .null, .null, .null, .null, .null, .int 0, .null, .null, .null, .null, .null, .int 0, .null, .null, .null, .int 0, .null, .null, .int 0, .null, .null, .int 0, .int 0, .null, .null, .null, .null, .int 0, .null, .null, .null, .null, .int 0, .null, .null, .null, .null, .null])), (q15, .inl (G.2 3, 13, .inr (.inl (fun _ => 0))))] ++ VM14) H _ := zz_w.swap hw
  refine zz_putF (ws' := ([(h0, .inr (10, [.int 0, .ref q1, .int 0, .ref q3, .int 0, .ref q5, .ref q7, .ref q9, .ref q11, .ref q13, .int 0, .int 0, .int 0, .int 0, .int 0, .int 0, .int 0, .int (-1), .int 0, .int 0, .int 0, .ref q15, .null, .null, .null, .null, .null, .null, .null, .null, .null, .null, .null, .null, .int 0, .null, .null, .null, .null, .null, .int 0, .null, .null, .null, .int 0, .null, .null, .int 0, .null, .null, .int 0, .int 0, .null, .null, .null, .null, .int 0, .null, .null, .null, .null, .int 0, .null, .null, .null, .null, .null])), (q15, .inl (G.2 3, 13, .inr (.inl (fun _ => 0))))] ++ VM14)) (v := .ref q15) S hnm hw fpX10_40 0 rfl rfl rfl (Nat.le_of_ble_eq_true rfl) rfl dX10_init_76 ?_
  clear hw
  intro H locs hw
  refine Exists.elim (show ∃ V : va_W, V = ([(q15, .inl (G.2 3, 13, .inr (.inl (fun _ => 0))))] ++ VM14) from ⟨_, rfl⟩) fun VM16 eVM16 => ?_
  replace hw : zz_w G A s ([(h0, .inr (10, [.int 0, .ref q1, .int 0, .ref q3, .int 0, .ref q5, .ref q7, .ref q9, .ref q11, .ref q13, .int 0, .int 0, .int 0, .int 0, .int 0, .int 0, .int 0, .int (-1), .int 0, .int 0, .int 0, .ref q15, .null, .null, .null, .null, .null, .null, .null, .null, .null, .null, .null, .null, .int 0, .null, .null, .null, .null, .null, .int 0, .null, .null, .null, .int 0, .null, .null, .int 0, .null, .null, .int 0, .int 0, .null, .null, .null, .null, .int 0, .null, .null, .null, .null, .int 0, .null, .null, .null, .null, .null]))] ++ VM16) H locs := by rw [eVM16]; exact hw
  refine lv_aload_n hx hb dX10_init_79 rfl (lv_at hl 0 rfl) ?_
  refine lv_iconst (v := 2) hx hb dX10_init_80 (by decide) ?_
  refine zz_newa (at_ := .int) (a0 := (2, .inl (fun _ => 0))) 0 S hw zz_ar0 rfl rfl (fun _ _ h => h) (fun _ => rfl) (by decide) (nI_clamp (n := 2) (by decide)) (by decide) (Nat.le_of_ble_eq_true rfl) (Nat.le_of_ble_eq_true rfl) dX10_init_81 ?_
  clear hw
  intro q17 H hw
  replace hw : zz_w G A s ([(h0, .inr (10, [.int 0, .ref q1, .int 0, .ref q3, .int 0, .ref q5, .ref q7, .ref q9, .ref q11, .ref q13, .int 0, .int 0, .int 0, .int 0, .int 0, .int 0, .int 0, .int (-1), .int 0, .int 0, .int 0, .ref q15, .null, .null, .null, .null, .null, .null, .null, .null, .null, .null, .null, .null, .int 0, .null, .null, .null, .null, .null, .int 0, .null, .null, .null, .int 0, .null, .null, .int 0, .null, .null, .int 0, .int 0, .null, .null, .null, .null, .int 0, .null, .null, .null, .null, .int 0, .null, .null, .null, .null, .null])), (q17, .inl (G.2 0, 2, .inl (fun _ => 0)))] ++ VM16) H _ := zz_w.swap hw
  refine zz_putF (ws' := ([(h0, .inr (10, [.int 0, .ref q1, .int 0, .ref q3, .int 0, .ref q5, .ref q7, .ref q9, .ref q11, .ref q13, .int 0, .int 0, .int 0, .int 0, .int 0, .int 0, .int 0, .int (-1), .int 0, .int 0, .int 0, .ref q15, .ref q17, .null, .null, .null, .null, .null, .null, .null, .null, .null, .null, .null, .int 0, .null, .null, .null, .null, .null, .int 0, .null, .null, .null, .int 0, .null, .null, .int 0, .null, .null, .int 0, .int 0, .null, .null, .null, .null, .int 0, .null, .null, .null, .null, .int 0, .null, .null, .null, .null, .null])), (q17, .inl (G.2 0, 2, .inl (fun _ => 0)))] ++ VM16)) (v := .ref q17) S hnm hw fpX10_43 0 rfl rfl rfl (Nat.le_of_ble_eq_true rfl) rfl dX10_init_83 ?_
  clear hw
  intro H locs hw
  refine Exists.elim (show ∃ V : va_W, V = ([(q17, .inl (G.2 0, 2, .inl (fun _ => 0)))] ++ VM16) from ⟨_, rfl⟩) fun VM18 eVM18 => ?_
  replace hw : zz_w G A s ([(h0, .inr (10, [.int 0, .ref q1, .int 0, .ref q3, .int 0, .ref q5, .ref q7, .ref q9, .ref q11, .ref q13, .int 0, .int 0, .int 0, .int 0, .int 0, .int 0, .int 0, .int (-1), .int 0, .int 0, .int 0, .ref q15, .ref q17, .null, .null, .null, .null, .null, .null, .null, .null, .null, .null, .null, .int 0, .null, .null, .null, .null, .null, .int 0, .null, .null, .null, .int 0, .null, .null, .int 0, .null, .null, .int 0, .int 0, .null, .null, .null, .null, .int 0, .null, .null, .null, .null, .int 0, .null, .null, .null, .null, .null]))] ++ VM18) H locs := by rw [eVM18]; exact hw
  refine lv_aload_n hx hb dX10_init_86 rfl (lv_at hl 0 rfl) ?_
  refine W.eq (g2 := F0 m 87 ls [.ref h0]) rfl ?_
  refine lv_bipush (v := 14) hx hb dX10_init_87 (by decide) ?_
  refine zz_newa (at_ := .int) (a0 := (14, .inl (fun _ => 0))) 0 S hw zz_ar0 rfl rfl (fun _ _ h => h) (fun _ => rfl) (by decide) (nI_clamp (n := 14) (by decide)) (by decide) (Nat.le_of_ble_eq_true rfl) (Nat.le_of_ble_eq_true rfl) dX10_init_89 ?_
  clear hw
  intro q19 H hw
  replace hw : zz_w G A s ([(h0, .inr (10, [.int 0, .ref q1, .int 0, .ref q3, .int 0, .ref q5, .ref q7, .ref q9, .ref q11, .ref q13, .int 0, .int 0, .int 0, .int 0, .int 0, .int 0, .int 0, .int (-1), .int 0, .int 0, .int 0, .ref q15, .ref q17, .null, .null, .null, .null, .null, .null, .null, .null, .null, .null, .null, .int 0, .null, .null, .null, .null, .null, .int 0, .null, .null, .null, .int 0, .null, .null, .int 0, .null, .null, .int 0, .int 0, .null, .null, .null, .null, .int 0, .null, .null, .null, .null, .int 0, .null, .null, .null, .null, .null])), (q19, .inl (G.2 0, 14, .inl (fun _ => 0)))] ++ VM18) H _ := zz_w.swap hw
  refine zz_putF (ws' := ([(h0, .inr (10, [.int 0, .ref q1, .int 0, .ref q3, .int 0, .ref q5, .ref q7, .ref q9, .ref q11, .ref q13, .int 0, .int 0, .int 0, .int 0, .int 0, .int 0, .int 0, .int (-1), .int 0, .int 0, .int 0, .ref q15, .ref q17, .ref q19, .null, .null, .null, .null, .null, .null, .null, .null, .null, .null, .int 0, .null, .null, .null, .null, .null, .int 0, .null, .null, .null, .int 0, .null, .null, .int 0, .null, .null, .int 0, .int 0, .null, .null, .null, .null, .int 0, .null, .null, .null, .null, .int 0, .null, .null, .null, .null, .null])), (q19, .inl (G.2 0, 14, .inl (fun _ => 0)))] ++ VM18)) (v := .ref q19) S hnm hw fpX10_46 0 rfl rfl rfl (Nat.le_of_ble_eq_true rfl) rfl dX10_init_91 ?_
  clear hw
  intro H locs hw
  refine Exists.elim (show ∃ V : va_W, V = ([(q19, .inl (G.2 0, 14, .inl (fun _ => 0)))] ++ VM18) from ⟨_, rfl⟩) fun VM20 eVM20 => ?_
  replace hw : zz_w G A s ([(h0, .inr (10, [.int 0, .ref q1, .int 0, .ref q3, .int 0, .ref q5, .ref q7, .ref q9, .ref q11, .ref q13, .int 0, .int 0, .int 0, .int 0, .int 0, .int 0, .int 0, .int (-1), .int 0, .int 0, .int 0, .ref q15, .ref q17, .ref q19, .null, .null, .null, .null, .null, .null, .null, .null, .null, .null, .int 0, .null, .null, .null, .null, .null, .int 0, .null, .null, .null, .int 0, .null, .null, .int 0, .null, .null, .int 0, .int 0, .null, .null, .null, .null, .int 0, .null, .null, .null, .null, .int 0, .null, .null, .null, .null, .null]))] ++ VM20) H locs := by rw [eVM20]; exact hw
  refine lv_aload_n hx hb dX10_init_94 rfl (lv_at hl 0 rfl) ?_
  refine lv_bipush (v := 14) hx hb dX10_init_95 (by decide) ?_
  refine zz_newa (at_ := .int) (a0 := (14, .inl (fun _ => 0))) 0 S hw zz_ar0 rfl rfl (fun _ _ h => h) (fun _ => rfl) (by decide) (nI_clamp (n := 14) (by decide)) (by decide) (Nat.le_of_ble_eq_true rfl) (Nat.le_of_ble_eq_true rfl) dX10_init_97 ?_
  clear hw
  intro q21 H hw
  replace hw : zz_w G A s ([(h0, .inr (10, [.int 0, .ref q1, .int 0, .ref q3, .int 0, .ref q5, .ref q7, .ref q9, .ref q11, .ref q13, .int 0, .int 0, .int 0, .int 0, .int 0, .int 0, .int 0, .int (-1), .int 0, .int 0, .int 0, .ref q15, .ref q17, .ref q19, .null, .null, .null, .null, .null, .null, .null, .null, .null, .null, .int 0, .null, .null, .null, .null, .null, .int 0, .null, .null, .null, .int 0, .null, .null, .int 0, .null, .null, .int 0, .int 0, .null, .null, .null, .null, .int 0, .null, .null, .null, .null, .int 0, .null, .null, .null, .null, .null])), (q21, .inl (G.2 0, 14, .inl (fun _ => 0)))] ++ VM20) H _ := zz_w.swap hw
  refine zz_putF (ws' := ([(h0, .inr (10, [.int 0, .ref q1, .int 0, .ref q3, .int 0, .ref q5, .ref q7, .ref q9, .ref q11, .ref q13, .int 0, .int 0, .int 0, .int 0, .int 0, .int 0, .int 0, .int (-1), .int 0, .int 0, .int 0, .ref q15, .ref q17, .ref q19, .ref q21, .null, .null, .null, .null, .null, .null, .null, .null, .null, .int 0, .null, .null, .null, .null, .null, .int 0, .null, .null, .null, .int 0, .null, .null, .int 0, .null, .null, .int 0, .int 0, .null, .null, .null, .null, .int 0, .null, .null, .null, .null, .int 0, .null, .null, .null, .null, .null])), (q21, .inl (G.2 0, 14, .inl (fun _ => 0)))] ++ VM20)) (v := .ref q21) S hnm hw fpX10_49 0 rfl rfl rfl (Nat.le_of_ble_eq_true rfl) rfl dX10_init_99 ?_
  clear hw
  intro H locs hw
  refine Exists.elim (show ∃ V : va_W, V = ([(q21, .inl (G.2 0, 14, .inl (fun _ => 0)))] ++ VM20) from ⟨_, rfl⟩) fun VM22 eVM22 => ?_
  replace hw : zz_w G A s ([(h0, .inr (10, [.int 0, .ref q1, .int 0, .ref q3, .int 0, .ref q5, .ref q7, .ref q9, .ref q11, .ref q13, .int 0, .int 0, .int 0, .int 0, .int 0, .int 0, .int 0, .int (-1), .int 0, .int 0, .int 0, .ref q15, .ref q17, .ref q19, .ref q21, .null, .null, .null, .null, .null, .null, .null, .null, .null, .int 0, .null, .null, .null, .null, .null, .int 0, .null, .null, .null, .int 0, .null, .null, .int 0, .null, .null, .int 0, .int 0, .null, .null, .null, .null, .int 0, .null, .null, .null, .null, .int 0, .null, .null, .null, .null, .null]))] ++ VM22) H locs := by rw [eVM22]; exact hw
  refine lv_aload_n hx hb dX10_init_102 rfl (lv_at hl 0 rfl) ?_
  refine lv_bipush (v := 14) hx hb dX10_init_103 (by decide) ?_
  refine zz_newa (at_ := .int) (a0 := (14, .inl (fun _ => 0))) 0 S hw zz_ar0 rfl rfl (fun _ _ h => h) (fun _ => rfl) (by decide) (nI_clamp (n := 14) (by decide)) (by decide) (Nat.le_of_ble_eq_true rfl) (Nat.le_of_ble_eq_true rfl) dX10_init_105 ?_
  clear hw
  intro q23 H hw
  replace hw : zz_w G A s ([(h0, .inr (10, [.int 0, .ref q1, .int 0, .ref q3, .int 0, .ref q5, .ref q7, .ref q9, .ref q11, .ref q13, .int 0, .int 0, .int 0, .int 0, .int 0, .int 0, .int 0, .int (-1), .int 0, .int 0, .int 0, .ref q15, .ref q17, .ref q19, .ref q21, .null, .null, .null, .null, .null, .null, .null, .null, .null, .int 0, .null, .null, .null, .null, .null, .int 0, .null, .null, .null, .int 0, .null, .null, .int 0, .null, .null, .int 0, .int 0, .null, .null, .null, .null, .int 0, .null, .null, .null, .null, .int 0, .null, .null, .null, .null, .null])), (q23, .inl (G.2 0, 14, .inl (fun _ => 0)))] ++ VM22) H _ := zz_w.swap hw
  refine zz_putF (ws' := ([(h0, .inr (10, [.int 0, .ref q1, .int 0, .ref q3, .int 0, .ref q5, .ref q7, .ref q9, .ref q11, .ref q13, .int 0, .int 0, .int 0, .int 0, .int 0, .int 0, .int 0, .int (-1), .int 0, .int 0, .int 0, .ref q15, .ref q17, .ref q19, .ref q21, .ref q23, .null, .null, .null, .null, .null, .null, .null, .null, .int 0, .null, .null, .null, .null, .null, .int 0, .null, .null, .null, .int 0, .null, .null, .int 0, .null, .null, .int 0, .int 0, .null, .null, .null, .null, .int 0, .null, .null, .null, .null, .int 0, .null, .null, .null, .null, .null])), (q23, .inl (G.2 0, 14, .inl (fun _ => 0)))] ++ VM22)) (v := .ref q23) S hnm hw fpX10_52 0 rfl rfl rfl (Nat.le_of_ble_eq_true rfl) rfl dX10_init_107 ?_
  clear hw
  intro H locs hw
  refine Exists.elim (show ∃ V : va_W, V = ([(q23, .inl (G.2 0, 14, .inl (fun _ => 0)))] ++ VM22) from ⟨_, rfl⟩) fun VM24 eVM24 => ?_
  replace hw : zz_w G A s ([(h0, .inr (10, [.int 0, .ref q1, .int 0, .ref q3, .int 0, .ref q5, .ref q7, .ref q9, .ref q11, .ref q13, .int 0, .int 0, .int 0, .int 0, .int 0, .int 0, .int 0, .int (-1), .int 0, .int 0, .int 0, .ref q15, .ref q17, .ref q19, .ref q21, .ref q23, .null, .null, .null, .null, .null, .null, .null, .null, .int 0, .null, .null, .null, .null, .null, .int 0, .null, .null, .null, .int 0, .null, .null, .int 0, .null, .null, .int 0, .int 0, .null, .null, .null, .null, .int 0, .null, .null, .null, .null, .int 0, .null, .null, .null, .null, .null]))] ++ VM24) H locs := by rw [eVM24]; exact hw
  refine lv_aload_n hx hb dX10_init_110 rfl (lv_at hl 0 rfl) ?_
  refine lv_iconst (v := 2) hx hb dX10_init_111 (by decide) ?_
  refine zz_newa (at_ := .int) (a0 := (2, .inl (fun _ => 0))) 0 S hw zz_ar0 rfl rfl (fun _ _ h => h) (fun _ => rfl) (by decide) (nI_clamp (n := 2) (by decide)) (by decide) (Nat.le_of_ble_eq_true rfl) (Nat.le_of_ble_eq_true rfl) dX10_init_112 ?_
  clear hw
  intro q25 H hw
  replace hw : zz_w G A s ([(h0, .inr (10, [.int 0, .ref q1, .int 0, .ref q3, .int 0, .ref q5, .ref q7, .ref q9, .ref q11, .ref q13, .int 0, .int 0, .int 0, .int 0, .int 0, .int 0, .int 0, .int (-1), .int 0, .int 0, .int 0, .ref q15, .ref q17, .ref q19, .ref q21, .ref q23, .null, .null, .null, .null, .null, .null, .null, .null, .int 0, .null, .null, .null, .null, .null, .int 0, .null, .null, .null, .int 0, .null, .null, .int 0, .null, .null, .int 0, .int 0, .null, .null, .null, .null, .int 0, .null, .null, .null, .null, .int 0, .null, .null, .null, .null, .null])), (q25, .inl (G.2 0, 2, .inl (fun _ => 0)))] ++ VM24) H _ := zz_w.swap hw
  refine W.eq (g2 := F0 m 114 ls [.ref q25, .ref h0]) rfl ?_
  refine zz_putF (ws' := ([(h0, .inr (10, [.int 0, .ref q1, .int 0, .ref q3, .int 0, .ref q5, .ref q7, .ref q9, .ref q11, .ref q13, .int 0, .int 0, .int 0, .int 0, .int 0, .int 0, .int 0, .int (-1), .int 0, .int 0, .int 0, .ref q15, .ref q17, .ref q19, .ref q21, .ref q23, .ref q25, .null, .null, .null, .null, .null, .null, .null, .int 0, .null, .null, .null, .null, .null, .int 0, .null, .null, .null, .int 0, .null, .null, .int 0, .null, .null, .int 0, .int 0, .null, .null, .null, .null, .int 0, .null, .null, .null, .null, .int 0, .null, .null, .null, .null, .null])), (q25, .inl (G.2 0, 2, .inl (fun _ => 0)))] ++ VM24)) (v := .ref q25) S hnm hw fpX10_55 0 rfl rfl rfl (Nat.le_of_ble_eq_true rfl) rfl dX10_init_114 ?_
  clear hw
  intro H locs hw
  refine Exists.elim (show ∃ V : va_W, V = ([(q25, .inl (G.2 0, 2, .inl (fun _ => 0)))] ++ VM24) from ⟨_, rfl⟩) fun VM26 eVM26 => ?_
  replace hw : zz_w G A s ([(h0, .inr (10, [.int 0, .ref q1, .int 0, .ref q3, .int 0, .ref q5, .ref q7, .ref q9, .ref q11, .ref q13, .int 0, .int 0, .int 0, .int 0, .int 0, .int 0, .int 0, .int (-1), .int 0, .int 0, .int 0, .ref q15, .ref q17, .ref q19, .ref q21, .ref q23, .ref q25, .null, .null, .null, .null, .null, .null, .null, .int 0, .null, .null, .null, .null, .null, .int 0, .null, .null, .null, .int 0, .null, .null, .int 0, .null, .null, .int 0, .int 0, .null, .null, .null, .null, .int 0, .null, .null, .null, .null, .int 0, .null, .null, .null, .null, .null]))] ++ VM26) H locs := by rw [eVM26]; exact hw
  refine lv_aload_n hx hb dX10_init_117 rfl (lv_at hl 0 rfl) ?_
  refine lv_bipush (v := 12) hx hb dX10_init_118 (by decide) ?_
  refine zz_newa (at_ := .int) (a0 := (12, .inl (fun _ => 0))) 0 S hw zz_ar0 rfl rfl (fun _ _ h => h) (fun _ => rfl) (by decide) (nI_clamp (n := 12) (by decide)) (by decide) (Nat.le_of_ble_eq_true rfl) (Nat.le_of_ble_eq_true rfl) dX10_init_120 ?_
  clear hw
  intro q27 H hw
  replace hw : zz_w G A s ([(h0, .inr (10, [.int 0, .ref q1, .int 0, .ref q3, .int 0, .ref q5, .ref q7, .ref q9, .ref q11, .ref q13, .int 0, .int 0, .int 0, .int 0, .int 0, .int 0, .int 0, .int (-1), .int 0, .int 0, .int 0, .ref q15, .ref q17, .ref q19, .ref q21, .ref q23, .ref q25, .null, .null, .null, .null, .null, .null, .null, .int 0, .null, .null, .null, .null, .null, .int 0, .null, .null, .null, .int 0, .null, .null, .int 0, .null, .null, .int 0, .int 0, .null, .null, .null, .null, .int 0, .null, .null, .null, .null, .int 0, .null, .null, .null, .null, .null])), (q27, .inl (G.2 0, 12, .inl (fun _ => 0)))] ++ VM26) H _ := zz_w.swap hw
  refine zz_putF (ws' := ([(h0, .inr (10, [.int 0, .ref q1, .int 0, .ref q3, .int 0, .ref q5, .ref q7, .ref q9, .ref q11, .ref q13, .int 0, .int 0, .int 0, .int 0, .int 0, .int 0, .int 0, .int (-1), .int 0, .int 0, .int 0, .ref q15, .ref q17, .ref q19, .ref q21, .ref q23, .ref q25, .ref q27, .null, .null, .null, .null, .null, .null, .int 0, .null, .null, .null, .null, .null, .int 0, .null, .null, .null, .int 0, .null, .null, .int 0, .null, .null, .int 0, .int 0, .null, .null, .null, .null, .int 0, .null, .null, .null, .null, .int 0, .null, .null, .null, .null, .null])), (q27, .inl (G.2 0, 12, .inl (fun _ => 0)))] ++ VM26)) (v := .ref q27) S hnm hw fpX10_58 0 rfl rfl rfl (Nat.le_of_ble_eq_true rfl) rfl dX10_init_122 ?_
  clear hw
  intro H locs hw
  refine Exists.elim (show ∃ V : va_W, V = ([(q27, .inl (G.2 0, 12, .inl (fun _ => 0)))] ++ VM26) from ⟨_, rfl⟩) fun VM28 eVM28 => ?_
  replace hw : zz_w G A s ([(h0, .inr (10, [.int 0, .ref q1, .int 0, .ref q3, .int 0, .ref q5, .ref q7, .ref q9, .ref q11, .ref q13, .int 0, .int 0, .int 0, .int 0, .int 0, .int 0, .int 0, .int (-1), .int 0, .int 0, .int 0, .ref q15, .ref q17, .ref q19, .ref q21, .ref q23, .ref q25, .ref q27, .null, .null, .null, .null, .null, .null, .int 0, .null, .null, .null, .null, .null, .int 0, .null, .null, .null, .int 0, .null, .null, .int 0, .null, .null, .int 0, .int 0, .null, .null, .null, .null, .int 0, .null, .null, .null, .null, .int 0, .null, .null, .null, .null, .null]))] ++ VM28) H locs := by rw [eVM28]; exact hw
  refine lv_aload_n hx hb dX10_init_125 rfl (lv_at hl 0 rfl) ?_
  refine lv_bipush (v := 12) hx hb dX10_init_126 (by decide) ?_
  refine zz_newa (at_ := .int) (a0 := (12, .inl (fun _ => 0))) 0 S hw zz_ar0 rfl rfl (fun _ _ h => h) (fun _ => rfl) (by decide) (nI_clamp (n := 12) (by decide)) (by decide) (Nat.le_of_ble_eq_true rfl) (Nat.le_of_ble_eq_true rfl) dX10_init_128 ?_
  clear hw
  intro q29 H hw
  replace hw : zz_w G A s ([(h0, .inr (10, [.int 0, .ref q1, .int 0, .ref q3, .int 0, .ref q5, .ref q7, .ref q9, .ref q11, .ref q13, .int 0, .int 0, .int 0, .int 0, .int 0, .int 0, .int 0, .int (-1), .int 0, .int 0, .int 0, .ref q15, .ref q17, .ref q19, .ref q21, .ref q23, .ref q25, .ref q27, .null, .null, .null, .null, .null, .null, .int 0, .null, .null, .null, .null, .null, .int 0, .null, .null, .null, .int 0, .null, .null, .int 0, .null, .null, .int 0, .int 0, .null, .null, .null, .null, .int 0, .null, .null, .null, .null, .int 0, .null, .null, .null, .null, .null])), (q29, .inl (G.2 0, 12, .inl (fun _ => 0)))] ++ VM28) H _ := zz_w.swap hw
  refine zz_putF (ws' := ([(h0, .inr (10, [.int 0, .ref q1, .int 0, .ref q3, .int 0, .ref q5, .ref q7, .ref q9, .ref q11, .ref q13, .int 0, .int 0, .int 0, .int 0, .int 0, .int 0, .int 0, .int (-1), .int 0, .int 0, .int 0, .ref q15, .ref q17, .ref q19, .ref q21, .ref q23, .ref q25, .ref q27, .ref q29, .null, .null, .null, .null, .null, .int 0, .null, .null, .null, .null, .null, .int 0, .null, .null, .null, .int 0, .null, .null, .int 0, .null, .null, .int 0, .int 0, .null, .null, .null, .null, .int 0, .null, .null, .null, .null, .int 0, .null, .null, .null, .null, .null])), (q29, .inl (G.2 0, 12, .inl (fun _ => 0)))] ++ VM28)) (v := .ref q29) S hnm hw fpX10_61 0 rfl rfl rfl (Nat.le_of_ble_eq_true rfl) rfl dX10_init_130 ?_
  clear hw
  intro H locs hw
  refine Exists.elim (show ∃ V : va_W, V = ([(q29, .inl (G.2 0, 12, .inl (fun _ => 0)))] ++ VM28) from ⟨_, rfl⟩) fun VM30 eVM30 => ?_
  replace hw : zz_w G A s ([(h0, .inr (10, [.int 0, .ref q1, .int 0, .ref q3, .int 0, .ref q5, .ref q7, .ref q9, .ref q11, .ref q13, .int 0, .int 0, .int 0, .int 0, .int 0, .int 0, .int 0, .int (-1), .int 0, .int 0, .int 0, .ref q15, .ref q17, .ref q19, .ref q21, .ref q23, .ref q25, .ref q27, .ref q29, .null, .null, .null, .null, .null, .int 0, .null, .null, .null, .null, .null, .int 0, .null, .null, .null, .int 0, .null, .null, .int 0, .null, .null, .int 0, .int 0, .null, .null, .null, .null, .int 0, .null, .null, .null, .null, .int 0, .null, .null, .null, .null, .null]))] ++ VM30) H locs := by rw [eVM30]; exact hw
  refine lv_aload_n hx hb dX10_init_133 rfl (lv_at hl 0 rfl) ?_
  refine lv_bipush (v := 12) hx hb dX10_init_134 (by decide) ?_
  refine zz_newa (at_ := .int) (a0 := (12, .inl (fun _ => 0))) 0 S hw zz_ar0 rfl rfl (fun _ _ h => h) (fun _ => rfl) (by decide) (nI_clamp (n := 12) (by decide)) (by decide) (Nat.le_of_ble_eq_true rfl) (Nat.le_of_ble_eq_true rfl) dX10_init_136 ?_
  clear hw
  intro q31 H hw
  replace hw : zz_w G A s ([(h0, .inr (10, [.int 0, .ref q1, .int 0, .ref q3, .int 0, .ref q5, .ref q7, .ref q9, .ref q11, .ref q13, .int 0, .int 0, .int 0, .int 0, .int 0, .int 0, .int 0, .int (-1), .int 0, .int 0, .int 0, .ref q15, .ref q17, .ref q19, .ref q21, .ref q23, .ref q25, .ref q27, .ref q29, .null, .null, .null, .null, .null, .int 0, .null, .null, .null, .null, .null, .int 0, .null, .null, .null, .int 0, .null, .null, .int 0, .null, .null, .int 0, .int 0, .null, .null, .null, .null, .int 0, .null, .null, .null, .null, .int 0, .null, .null, .null, .null, .null])), (q31, .inl (G.2 0, 12, .inl (fun _ => 0)))] ++ VM30) H _ := zz_w.swap hw
  refine zz_putF (ws' := ([(h0, .inr (10, [.int 0, .ref q1, .int 0, .ref q3, .int 0, .ref q5, .ref q7, .ref q9, .ref q11, .ref q13, .int 0, .int 0, .int 0, .int 0, .int 0, .int 0, .int 0, .int (-1), .int 0, .int 0, .int 0, .ref q15, .ref q17, .ref q19, .ref q21, .ref q23, .ref q25, .ref q27, .ref q29, .ref q31, .null, .null, .null, .null, .int 0, .null, .null, .null, .null, .null, .int 0, .null, .null, .null, .int 0, .null, .null, .int 0, .null, .null, .int 0, .int 0, .null, .null, .null, .null, .int 0, .null, .null, .null, .null, .int 0, .null, .null, .null, .null, .null])), (q31, .inl (G.2 0, 12, .inl (fun _ => 0)))] ++ VM30)) (v := .ref q31) S hnm hw fpX10_64 0 rfl rfl rfl (Nat.le_of_ble_eq_true rfl) rfl dX10_init_138 ?_
  clear hw
  intro H locs hw
  refine Exists.elim (show ∃ V : va_W, V = ([(q31, .inl (G.2 0, 12, .inl (fun _ => 0)))] ++ VM30) from ⟨_, rfl⟩) fun VM32 eVM32 => ?_
  replace hw : zz_w G A s ([(h0, .inr (10, [.int 0, .ref q1, .int 0, .ref q3, .int 0, .ref q5, .ref q7, .ref q9, .ref q11, .ref q13, .int 0, .int 0, .int 0, .int 0, .int 0, .int 0, .int 0, .int (-1), .int 0, .int 0, .int 0, .ref q15, .ref q17, .ref q19, .ref q21, .ref q23, .ref q25, .ref q27, .ref q29, .ref q31, .null, .null, .null, .null, .int 0, .null, .null, .null, .null, .null, .int 0, .null, .null, .null, .int 0, .null, .null, .int 0, .null, .null, .int 0, .int 0, .null, .null, .null, .null, .int 0, .null, .null, .null, .null, .int 0, .null, .null, .null, .null, .null]))] ++ VM32) H locs := by rw [eVM32]; exact hw
  refine lv_aload_n hx hb dX10_init_141 rfl (lv_at hl 0 rfl) ?_
  refine W.eq (g2 := F0 m 142 ls [.ref h0]) rfl ?_
  refine lv_iconst (v := 2) hx hb dX10_init_142 (by decide) ?_
  refine zz_newa (at_ := .int) (a0 := (2, .inl (fun _ => 0))) 0 S hw zz_ar0 rfl rfl (fun _ _ h => h) (fun _ => rfl) (by decide) (nI_clamp (n := 2) (by decide)) (by decide) (Nat.le_of_ble_eq_true rfl) (Nat.le_of_ble_eq_true rfl) dX10_init_143 ?_
  clear hw
  intro q33 H hw
  replace hw : zz_w G A s ([(h0, .inr (10, [.int 0, .ref q1, .int 0, .ref q3, .int 0, .ref q5, .ref q7, .ref q9, .ref q11, .ref q13, .int 0, .int 0, .int 0, .int 0, .int 0, .int 0, .int 0, .int (-1), .int 0, .int 0, .int 0, .ref q15, .ref q17, .ref q19, .ref q21, .ref q23, .ref q25, .ref q27, .ref q29, .ref q31, .null, .null, .null, .null, .int 0, .null, .null, .null, .null, .null, .int 0, .null, .null, .null, .int 0, .null, .null, .int 0, .null, .null, .int 0, .int 0, .null, .null, .null, .null, .int 0, .null, .null, .null, .null, .int 0, .null, .null, .null, .null, .null])), (q33, .inl (G.2 0, 2, .inl (fun _ => 0)))] ++ VM32) H _ := zz_w.swap hw
  refine zz_putF (ws' := ([(h0, .inr (10, [.int 0, .ref q1, .int 0, .ref q3, .int 0, .ref q5, .ref q7, .ref q9, .ref q11, .ref q13, .int 0, .int 0, .int 0, .int 0, .int 0, .int 0, .int 0, .int (-1), .int 0, .int 0, .int 0, .ref q15, .ref q17, .ref q19, .ref q21, .ref q23, .ref q25, .ref q27, .ref q29, .ref q31, .ref q33, .null, .null, .null, .int 0, .null, .null, .null, .null, .null, .int 0, .null, .null, .null, .int 0, .null, .null, .int 0, .null, .null, .int 0, .int 0, .null, .null, .null, .null, .int 0, .null, .null, .null, .null, .int 0, .null, .null, .null, .null, .null])), (q33, .inl (G.2 0, 2, .inl (fun _ => 0)))] ++ VM32)) (v := .ref q33) S hnm hw fpX10_67 0 rfl rfl rfl (Nat.le_of_ble_eq_true rfl) rfl dX10_init_145 ?_
  clear hw
  intro H locs hw
  refine Exists.elim (show ∃ V : va_W, V = ([(q33, .inl (G.2 0, 2, .inl (fun _ => 0)))] ++ VM32) from ⟨_, rfl⟩) fun VM34 eVM34 => ?_
  replace hw : zz_w G A s ([(h0, .inr (10, [.int 0, .ref q1, .int 0, .ref q3, .int 0, .ref q5, .ref q7, .ref q9, .ref q11, .ref q13, .int 0, .int 0, .int 0, .int 0, .int 0, .int 0, .int 0, .int (-1), .int 0, .int 0, .int 0, .ref q15, .ref q17, .ref q19, .ref q21, .ref q23, .ref q25, .ref q27, .ref q29, .ref q31, .ref q33, .null, .null, .null, .int 0, .null, .null, .null, .null, .null, .int 0, .null, .null, .null, .int 0, .null, .null, .int 0, .null, .null, .int 0, .int 0, .null, .null, .null, .null, .int 0, .null, .null, .null, .null, .int 0, .null, .null, .null, .null, .null]))] ++ VM34) H locs := by rw [eVM34]; exact hw
  refine lv_aload_n hx hb dX10_init_148 rfl (lv_at hl 0 rfl) ?_
  refine lv_iconst (v := 2) hx hb dX10_init_149 (by decide) ?_
  refine zz_newa (at_ := .int) (a0 := (2, .inl (fun _ => 0))) 0 S hw zz_ar0 rfl rfl (fun _ _ h => h) (fun _ => rfl) (by decide) (nI_clamp (n := 2) (by decide)) (by decide) (Nat.le_of_ble_eq_true rfl) (Nat.le_of_ble_eq_true rfl) dX10_init_150 ?_
  clear hw
  intro q35 H hw
  replace hw : zz_w G A s ([(h0, .inr (10, [.int 0, .ref q1, .int 0, .ref q3, .int 0, .ref q5, .ref q7, .ref q9, .ref q11, .ref q13, .int 0, .int 0, .int 0, .int 0, .int 0, .int 0, .int 0, .int (-1), .int 0, .int 0, .int 0, .ref q15, .ref q17, .ref q19, .ref q21, .ref q23, .ref q25, .ref q27, .ref q29, .ref q31, .ref q33, .null, .null, .null, .int 0, .null, .null, .null, .null, .null, .int 0, .null, .null, .null, .int 0, .null, .null, .int 0, .null, .null, .int 0, .int 0, .null, .null, .null, .null, .int 0, .null, .null, .null, .null, .int 0, .null, .null, .null, .null, .null])), (q35, .inl (G.2 0, 2, .inl (fun _ => 0)))] ++ VM34) H _ := zz_w.swap hw
  refine zz_putF (ws' := ([(h0, .inr (10, [.int 0, .ref q1, .int 0, .ref q3, .int 0, .ref q5, .ref q7, .ref q9, .ref q11, .ref q13, .int 0, .int 0, .int 0, .int 0, .int 0, .int 0, .int 0, .int (-1), .int 0, .int 0, .int 0, .ref q15, .ref q17, .ref q19, .ref q21, .ref q23, .ref q25, .ref q27, .ref q29, .ref q31, .ref q33, .ref q35, .null, .null, .int 0, .null, .null, .null, .null, .null, .int 0, .null, .null, .null, .int 0, .null, .null, .int 0, .null, .null, .int 0, .int 0, .null, .null, .null, .null, .int 0, .null, .null, .null, .null, .int 0, .null, .null, .null, .null, .null])), (q35, .inl (G.2 0, 2, .inl (fun _ => 0)))] ++ VM34)) (v := .ref q35) S hnm hw fpX10_70 0 rfl rfl rfl (Nat.le_of_ble_eq_true rfl) rfl dX10_init_152 ?_
  clear hw
  intro H locs hw
  refine Exists.elim (show ∃ V : va_W, V = ([(q35, .inl (G.2 0, 2, .inl (fun _ => 0)))] ++ VM34) from ⟨_, rfl⟩) fun VM36 eVM36 => ?_
  replace hw : zz_w G A s ([(h0, .inr (10, [.int 0, .ref q1, .int 0, .ref q3, .int 0, .ref q5, .ref q7, .ref q9, .ref q11, .ref q13, .int 0, .int 0, .int 0, .int 0, .int 0, .int 0, .int 0, .int (-1), .int 0, .int 0, .int 0, .ref q15, .ref q17, .ref q19, .ref q21, .ref q23, .ref q25, .ref q27, .ref q29, .ref q31, .ref q33, .ref q35, .null, .null, .int 0, .null, .null, .null, .null, .null, .int 0, .null, .null, .null, .int 0, .null, .null, .int 0, .null, .null, .int 0, .int 0, .null, .null, .null, .null, .int 0, .null, .null, .null, .null, .int 0, .null, .null, .null, .null, .null]))] ++ VM36) H locs := by rw [eVM36]; exact hw
  refine lv_aload_n hx hb dX10_init_155 rfl (lv_at hl 0 rfl) ?_
  refine lv_bipush (v := 8) hx hb dX10_init_156 (by decide) ?_
  refine zz_newa (at_ := .int) (a0 := (8, .inl (fun _ => 0))) 0 S hw zz_ar0 rfl rfl (fun _ _ h => h) (fun _ => rfl) (by decide) (nI_clamp (n := 8) (by decide)) (by decide) (Nat.le_of_ble_eq_true rfl) (Nat.le_of_ble_eq_true rfl) dX10_init_158 ?_
  clear hw
  intro q37 H hw
  replace hw : zz_w G A s ([(h0, .inr (10, [.int 0, .ref q1, .int 0, .ref q3, .int 0, .ref q5, .ref q7, .ref q9, .ref q11, .ref q13, .int 0, .int 0, .int 0, .int 0, .int 0, .int 0, .int 0, .int (-1), .int 0, .int 0, .int 0, .ref q15, .ref q17, .ref q19, .ref q21, .ref q23, .ref q25, .ref q27, .ref q29, .ref q31, .ref q33, .ref q35, .null, .null, .int 0, .null, .null, .null, .null, .null, .int 0, .null, .null, .null, .int 0, .null, .null, .int 0, .null, .null, .int 0, .int 0, .null, .null, .null, .null, .int 0, .null, .null, .null, .null, .int 0, .null, .null, .null, .null, .null])), (q37, .inl (G.2 0, 8, .inl (fun _ => 0)))] ++ VM36) H _ := zz_w.swap hw
  refine zz_putF (ws' := ([(h0, .inr (10, [.int 0, .ref q1, .int 0, .ref q3, .int 0, .ref q5, .ref q7, .ref q9, .ref q11, .ref q13, .int 0, .int 0, .int 0, .int 0, .int 0, .int 0, .int 0, .int (-1), .int 0, .int 0, .int 0, .ref q15, .ref q17, .ref q19, .ref q21, .ref q23, .ref q25, .ref q27, .ref q29, .ref q31, .ref q33, .ref q35, .ref q37, .null, .int 0, .null, .null, .null, .null, .null, .int 0, .null, .null, .null, .int 0, .null, .null, .int 0, .null, .null, .int 0, .int 0, .null, .null, .null, .null, .int 0, .null, .null, .null, .null, .int 0, .null, .null, .null, .null, .null])), (q37, .inl (G.2 0, 8, .inl (fun _ => 0)))] ++ VM36)) (v := .ref q37) S hnm hw fpX10_73 0 rfl rfl rfl (Nat.le_of_ble_eq_true rfl) rfl dX10_init_160 ?_
  clear hw
  intro H locs hw
  refine Exists.elim (show ∃ V : va_W, V = ([(q37, .inl (G.2 0, 8, .inl (fun _ => 0)))] ++ VM36) from ⟨_, rfl⟩) fun VM38 eVM38 => ?_
  replace hw : zz_w G A s ([(h0, .inr (10, [.int 0, .ref q1, .int 0, .ref q3, .int 0, .ref q5, .ref q7, .ref q9, .ref q11, .ref q13, .int 0, .int 0, .int 0, .int 0, .int 0, .int 0, .int 0, .int (-1), .int 0, .int 0, .int 0, .ref q15, .ref q17, .ref q19, .ref q21, .ref q23, .ref q25, .ref q27, .ref q29, .ref q31, .ref q33, .ref q35, .ref q37, .null, .int 0, .null, .null, .null, .null, .null, .int 0, .null, .null, .null, .int 0, .null, .null, .int 0, .null, .null, .int 0, .int 0, .null, .null, .null, .null, .int 0, .null, .null, .null, .null, .int 0, .null, .null, .null, .null, .null]))] ++ VM38) H locs := by rw [eVM38]; exact hw
  refine lv_aload_n hx hb dX10_init_163 rfl (lv_at hl 0 rfl) ?_
  refine lv_bipush (v := 8) hx hb dX10_init_164 (by decide) ?_
  refine zz_newa (at_ := .int) (a0 := (8, .inl (fun _ => 0))) 0 S hw zz_ar0 rfl rfl (fun _ _ h => h) (fun _ => rfl) (by decide) (nI_clamp (n := 8) (by decide)) (by decide) (Nat.le_of_ble_eq_true rfl) (Nat.le_of_ble_eq_true rfl) dX10_init_166 ?_
  clear hw
  intro q39 H hw
  replace hw : zz_w G A s ([(h0, .inr (10, [.int 0, .ref q1, .int 0, .ref q3, .int 0, .ref q5, .ref q7, .ref q9, .ref q11, .ref q13, .int 0, .int 0, .int 0, .int 0, .int 0, .int 0, .int 0, .int (-1), .int 0, .int 0, .int 0, .ref q15, .ref q17, .ref q19, .ref q21, .ref q23, .ref q25, .ref q27, .ref q29, .ref q31, .ref q33, .ref q35, .ref q37, .null, .int 0, .null, .null, .null, .null, .null, .int 0, .null, .null, .null, .int 0, .null, .null, .int 0, .null, .null, .int 0, .int 0, .null, .null, .null, .null, .int 0, .null, .null, .null, .null, .int 0, .null, .null, .null, .null, .null])), (q39, .inl (G.2 0, 8, .inl (fun _ => 0)))] ++ VM38) H _ := zz_w.swap hw
  refine W.eq (g2 := F0 m 168 ls [.ref q39, .ref h0]) rfl ?_
  refine zz_putF (ws' := ([(h0, .inr (10, [.int 0, .ref q1, .int 0, .ref q3, .int 0, .ref q5, .ref q7, .ref q9, .ref q11, .ref q13, .int 0, .int 0, .int 0, .int 0, .int 0, .int 0, .int 0, .int (-1), .int 0, .int 0, .int 0, .ref q15, .ref q17, .ref q19, .ref q21, .ref q23, .ref q25, .ref q27, .ref q29, .ref q31, .ref q33, .ref q35, .ref q37, .ref q39, .int 0, .null, .null, .null, .null, .null, .int 0, .null, .null, .null, .int 0, .null, .null, .int 0, .null, .null, .int 0, .int 0, .null, .null, .null, .null, .int 0, .null, .null, .null, .null, .int 0, .null, .null, .null, .null, .null])), (q39, .inl (G.2 0, 8, .inl (fun _ => 0)))] ++ VM38)) (v := .ref q39) S hnm hw fpX10_76 0 rfl rfl rfl (Nat.le_of_ble_eq_true rfl) rfl dX10_init_168 ?_
  clear hw
  intro H locs hw
  refine Exists.elim (show ∃ V : va_W, V = ([(q39, .inl (G.2 0, 8, .inl (fun _ => 0)))] ++ VM38) from ⟨_, rfl⟩) fun VM40 eVM40 => ?_
  replace hw : zz_w G A s ([(h0, .inr (10, [.int 0, .ref q1, .int 0, .ref q3, .int 0, .ref q5, .ref q7, .ref q9, .ref q11, .ref q13, .int 0, .int 0, .int 0, .int 0, .int 0, .int 0, .int 0, .int (-1), .int 0, .int 0, .int 0, .ref q15, .ref q17, .ref q19, .ref q21, .ref q23, .ref q25, .ref q27, .ref q29, .ref q31, .ref q33, .ref q35, .ref q37, .ref q39, .int 0, .null, .null, .null, .null, .null, .int 0, .null, .null, .null, .int 0, .null, .null, .int 0, .null, .null, .int 0, .int 0, .null, .null, .null, .null, .int 0, .null, .null, .null, .null, .int 0, .null, .null, .null, .null, .null]))] ++ VM40) H locs := by rw [eVM40]; exact hw
  refine lv_aload_n hx hb dX10_init_171 rfl (lv_at hl 0 rfl) ?_
  refine lv_sipush (v := 260) hx hb dX10_init_172 (by decide) ?_
  refine zz_newa (at_ := .boolean) (a0 := (260, .inl (fun _ => 0))) 2 S hw zz_ar2 rfl rfl (fun _ _ h => h) (fun _ => rfl) (by decide) (nI_clamp (n := 260) (by decide)) (by decide) (Nat.le_of_ble_eq_true rfl) (Nat.le_of_ble_eq_true rfl) dX10_init_175 ?_
  clear hw
  intro q41 H hw
  replace hw : zz_w G A s ([(h0, .inr (10, [.int 0, .ref q1, .int 0, .ref q3, .int 0, .ref q5, .ref q7, .ref q9, .ref q11, .ref q13, .int 0, .int 0, .int 0, .int 0, .int 0, .int 0, .int 0, .int (-1), .int 0, .int 0, .int 0, .ref q15, .ref q17, .ref q19, .ref q21, .ref q23, .ref q25, .ref q27, .ref q29, .ref q31, .ref q33, .ref q35, .ref q37, .ref q39, .int 0, .null, .null, .null, .null, .null, .int 0, .null, .null, .null, .int 0, .null, .null, .int 0, .null, .null, .int 0, .int 0, .null, .null, .null, .null, .int 0, .null, .null, .null, .null, .int 0, .null, .null, .null, .null, .null])), (q41, .inl (G.2 2, 260, .inl (fun _ => 0)))] ++ VM40) H _ := zz_w.swap hw
  refine zz_putF (ws' := ([(h0, .inr (10, [.int 0, .ref q1, .int 0, .ref q3, .int 0, .ref q5, .ref q7, .ref q9, .ref q11, .ref q13, .int 0, .int 0, .int 0, .int 0, .int 0, .int 0, .int 0, .int (-1), .int 0, .int 0, .int 0, .ref q15, .ref q17, .ref q19, .ref q21, .ref q23, .ref q25, .ref q27, .ref q29, .ref q31, .ref q33, .ref q35, .ref q37, .ref q39, .int 0, .ref q41, .null, .null, .null, .null, .int 0, .null, .null, .null, .int 0, .null, .null, .int 0, .null, .null, .int 0, .int 0, .null, .null, .null, .null, .int 0, .null, .null, .null, .null, .int 0, .null, .null, .null, .null, .null])), (q41, .inl (G.2 2, 260, .inl (fun _ => 0)))] ++ VM40)) (v := .ref q41) S hnm hw fpX10_79 0 rfl rfl rfl (Nat.le_of_ble_eq_true rfl) rfl dX10_init_177 ?_
  clear hw
  intro H locs hw
  refine Exists.elim (show ∃ V : va_W, V = ([(q41, .inl (G.2 2, 260, .inl (fun _ => 0)))] ++ VM40) from ⟨_, rfl⟩) fun VM42 eVM42 => ?_
  replace hw : zz_w G A s ([(h0, .inr (10, [.int 0, .ref q1, .int 0, .ref q3, .int 0, .ref q5, .ref q7, .ref q9, .ref q11, .ref q13, .int 0, .int 0, .int 0, .int 0, .int 0, .int 0, .int 0, .int (-1), .int 0, .int 0, .int 0, .ref q15, .ref q17, .ref q19, .ref q21, .ref q23, .ref q25, .ref q27, .ref q29, .ref q31, .ref q33, .ref q35, .ref q37, .ref q39, .int 0, .ref q41, .null, .null, .null, .null, .int 0, .null, .null, .null, .int 0, .null, .null, .int 0, .null, .null, .int 0, .int 0, .null, .null, .null, .null, .int 0, .null, .null, .null, .null, .int 0, .null, .null, .null, .null, .null]))] ++ VM42) H locs := by rw [eVM42]; exact hw
  refine lv_aload_n hx hb dX10_init_180 rfl (lv_at hl 0 rfl) ?_
  refine lv_sipush (v := 260) hx hb dX10_init_181 (by decide) ?_
  refine zz_newa (at_ := .int) (a0 := (260, .inl (fun _ => 0))) 0 S hw zz_ar0 rfl rfl (fun _ _ h => h) (fun _ => rfl) (by decide) (nI_clamp (n := 260) (by decide)) (by decide) (Nat.le_of_ble_eq_true rfl) (Nat.le_of_ble_eq_true rfl) dX10_init_184 ?_
  clear hw
  intro q43 H hw
  replace hw : zz_w G A s ([(h0, .inr (10, [.int 0, .ref q1, .int 0, .ref q3, .int 0, .ref q5, .ref q7, .ref q9, .ref q11, .ref q13, .int 0, .int 0, .int 0, .int 0, .int 0, .int 0, .int 0, .int (-1), .int 0, .int 0, .int 0, .ref q15, .ref q17, .ref q19, .ref q21, .ref q23, .ref q25, .ref q27, .ref q29, .ref q31, .ref q33, .ref q35, .ref q37, .ref q39, .int 0, .ref q41, .null, .null, .null, .null, .int 0, .null, .null, .null, .int 0, .null, .null, .int 0, .null, .null, .int 0, .int 0, .null, .null, .null, .null, .int 0, .null, .null, .null, .null, .int 0, .null, .null, .null, .null, .null])), (q43, .inl (G.2 0, 260, .inl (fun _ => 0)))] ++ VM42) H _ := zz_w.swap hw
  refine zz_putF (ws' := ([(h0, .inr (10, [.int 0, .ref q1, .int 0, .ref q3, .int 0, .ref q5, .ref q7, .ref q9, .ref q11, .ref q13, .int 0, .int 0, .int 0, .int 0, .int 0, .int 0, .int 0, .int (-1), .int 0, .int 0, .int 0, .ref q15, .ref q17, .ref q19, .ref q21, .ref q23, .ref q25, .ref q27, .ref q29, .ref q31, .ref q33, .ref q35, .ref q37, .ref q39, .int 0, .ref q41, .ref q43, .null, .null, .null, .int 0, .null, .null, .null, .int 0, .null, .null, .int 0, .null, .null, .int 0, .int 0, .null, .null, .null, .null, .int 0, .null, .null, .null, .null, .int 0, .null, .null, .null, .null, .null])), (q43, .inl (G.2 0, 260, .inl (fun _ => 0)))] ++ VM42)) (v := .ref q43) S hnm hw fpX10_83 0 rfl rfl rfl (Nat.le_of_ble_eq_true rfl) rfl dX10_init_186 ?_
  clear hw
  intro H locs hw
  refine Exists.elim (show ∃ V : va_W, V = ([(q43, .inl (G.2 0, 260, .inl (fun _ => 0)))] ++ VM42) from ⟨_, rfl⟩) fun VM44 eVM44 => ?_
  replace hw : zz_w G A s ([(h0, .inr (10, [.int 0, .ref q1, .int 0, .ref q3, .int 0, .ref q5, .ref q7, .ref q9, .ref q11, .ref q13, .int 0, .int 0, .int 0, .int 0, .int 0, .int 0, .int 0, .int (-1), .int 0, .int 0, .int 0, .ref q15, .ref q17, .ref q19, .ref q21, .ref q23, .ref q25, .ref q27, .ref q29, .ref q31, .ref q33, .ref q35, .ref q37, .ref q39, .int 0, .ref q41, .ref q43, .null, .null, .null, .int 0, .null, .null, .null, .int 0, .null, .null, .int 0, .null, .null, .int 0, .int 0, .null, .null, .null, .null, .int 0, .null, .null, .null, .null, .int 0, .null, .null, .null, .null, .null]))] ++ VM44) H locs := by rw [eVM44]; exact hw
  refine lv_aload_n hx hb dX10_init_189 rfl (lv_at hl 0 rfl) ?_
  refine lv_sipush (v := 260) hx hb dX10_init_190 (by decide) ?_
  refine zz_newa (at_ := .int) (a0 := (260, .inl (fun _ => 0))) 0 S hw zz_ar0 rfl rfl (fun _ _ h => h) (fun _ => rfl) (by decide) (nI_clamp (n := 260) (by decide)) (by decide) (Nat.le_of_ble_eq_true rfl) (Nat.le_of_ble_eq_true rfl) dX10_init_193 ?_
  clear hw
  intro q45 H hw
  replace hw : zz_w G A s ([(h0, .inr (10, [.int 0, .ref q1, .int 0, .ref q3, .int 0, .ref q5, .ref q7, .ref q9, .ref q11, .ref q13, .int 0, .int 0, .int 0, .int 0, .int 0, .int 0, .int 0, .int (-1), .int 0, .int 0, .int 0, .ref q15, .ref q17, .ref q19, .ref q21, .ref q23, .ref q25, .ref q27, .ref q29, .ref q31, .ref q33, .ref q35, .ref q37, .ref q39, .int 0, .ref q41, .ref q43, .null, .null, .null, .int 0, .null, .null, .null, .int 0, .null, .null, .int 0, .null, .null, .int 0, .int 0, .null, .null, .null, .null, .int 0, .null, .null, .null, .null, .int 0, .null, .null, .null, .null, .null])), (q45, .inl (G.2 0, 260, .inl (fun _ => 0)))] ++ VM44) H _ := zz_w.swap hw
  refine zz_putF (ws' := ([(h0, .inr (10, [.int 0, .ref q1, .int 0, .ref q3, .int 0, .ref q5, .ref q7, .ref q9, .ref q11, .ref q13, .int 0, .int 0, .int 0, .int 0, .int 0, .int 0, .int 0, .int (-1), .int 0, .int 0, .int 0, .ref q15, .ref q17, .ref q19, .ref q21, .ref q23, .ref q25, .ref q27, .ref q29, .ref q31, .ref q33, .ref q35, .ref q37, .ref q39, .int 0, .ref q41, .ref q43, .ref q45, .null, .null, .int 0, .null, .null, .null, .int 0, .null, .null, .int 0, .null, .null, .int 0, .int 0, .null, .null, .null, .null, .int 0, .null, .null, .null, .null, .int 0, .null, .null, .null, .null, .null])), (q45, .inl (G.2 0, 260, .inl (fun _ => 0)))] ++ VM44)) (v := .ref q45) S hnm hw fpX10_86 0 rfl rfl rfl (Nat.le_of_ble_eq_true rfl) rfl dX10_init_195 ?_
  clear hw
  intro H locs hw
  refine Exists.elim (show ∃ V : va_W, V = ([(q45, .inl (G.2 0, 260, .inl (fun _ => 0)))] ++ VM44) from ⟨_, rfl⟩) fun VM46 eVM46 => ?_
  replace hw : zz_w G A s ([(h0, .inr (10, [.int 0, .ref q1, .int 0, .ref q3, .int 0, .ref q5, .ref q7, .ref q9, .ref q11, .ref q13, .int 0, .int 0, .int 0, .int 0, .int 0, .int 0, .int 0, .int (-1), .int 0, .int 0, .int 0, .ref q15, .ref q17, .ref q19, .ref q21, .ref q23, .ref q25, .ref q27, .ref q29, .ref q31, .ref q33, .ref q35, .ref q37, .ref q39, .int 0, .ref q41, .ref q43, .ref q45, .null, .null, .int 0, .null, .null, .null, .int 0, .null, .null, .int 0, .null, .null, .int 0, .int 0, .null, .null, .null, .null, .int 0, .null, .null, .null, .null, .int 0, .null, .null, .null, .null, .null]))] ++ VM46) H locs := by rw [eVM46]; exact hw
  refine lv_aload_n hx hb dX10_init_198 rfl (lv_at hl 0 rfl) ?_
  refine W.eq (g2 := F0 m 199 ls [.ref h0]) rfl ?_
  refine lv_sipush (v := 260) hx hb dX10_init_199 (by decide) ?_
  refine zz_newa (at_ := .int) (a0 := (260, .inl (fun _ => 0))) 0 S hw zz_ar0 rfl rfl (fun _ _ h => h) (fun _ => rfl) (by decide) (nI_clamp (n := 260) (by decide)) (by decide) (Nat.le_of_ble_eq_true rfl) (Nat.le_of_ble_eq_true rfl) dX10_init_202 ?_
  clear hw
  intro q47 H hw
  replace hw : zz_w G A s ([(h0, .inr (10, [.int 0, .ref q1, .int 0, .ref q3, .int 0, .ref q5, .ref q7, .ref q9, .ref q11, .ref q13, .int 0, .int 0, .int 0, .int 0, .int 0, .int 0, .int 0, .int (-1), .int 0, .int 0, .int 0, .ref q15, .ref q17, .ref q19, .ref q21, .ref q23, .ref q25, .ref q27, .ref q29, .ref q31, .ref q33, .ref q35, .ref q37, .ref q39, .int 0, .ref q41, .ref q43, .ref q45, .null, .null, .int 0, .null, .null, .null, .int 0, .null, .null, .int 0, .null, .null, .int 0, .int 0, .null, .null, .null, .null, .int 0, .null, .null, .null, .null, .int 0, .null, .null, .null, .null, .null])), (q47, .inl (G.2 0, 260, .inl (fun _ => 0)))] ++ VM46) H _ := zz_w.swap hw
  refine zz_putF (ws' := ([(h0, .inr (10, [.int 0, .ref q1, .int 0, .ref q3, .int 0, .ref q5, .ref q7, .ref q9, .ref q11, .ref q13, .int 0, .int 0, .int 0, .int 0, .int 0, .int 0, .int 0, .int (-1), .int 0, .int 0, .int 0, .ref q15, .ref q17, .ref q19, .ref q21, .ref q23, .ref q25, .ref q27, .ref q29, .ref q31, .ref q33, .ref q35, .ref q37, .ref q39, .int 0, .ref q41, .ref q43, .ref q45, .ref q47, .null, .int 0, .null, .null, .null, .int 0, .null, .null, .int 0, .null, .null, .int 0, .int 0, .null, .null, .null, .null, .int 0, .null, .null, .null, .null, .int 0, .null, .null, .null, .null, .null])), (q47, .inl (G.2 0, 260, .inl (fun _ => 0)))] ++ VM46)) (v := .ref q47) S hnm hw fpX10_89 0 rfl rfl rfl (Nat.le_of_ble_eq_true rfl) rfl dX10_init_204 ?_
  clear hw
  intro H locs hw
  refine Exists.elim (show ∃ V : va_W, V = ([(q47, .inl (G.2 0, 260, .inl (fun _ => 0)))] ++ VM46) from ⟨_, rfl⟩) fun VM48 eVM48 => ?_
  replace hw : zz_w G A s ([(h0, .inr (10, [.int 0, .ref q1, .int 0, .ref q3, .int 0, .ref q5, .ref q7, .ref q9, .ref q11, .ref q13, .int 0, .int 0, .int 0, .int 0, .int 0, .int 0, .int 0, .int (-1), .int 0, .int 0, .int 0, .ref q15, .ref q17, .ref q19, .ref q21, .ref q23, .ref q25, .ref q27, .ref q29, .ref q31, .ref q33, .ref q35, .ref q37, .ref q39, .int 0, .ref q41, .ref q43, .ref q45, .ref q47, .null, .int 0, .null, .null, .null, .int 0, .null, .null, .int 0, .null, .null, .int 0, .int 0, .null, .null, .null, .null, .int 0, .null, .null, .null, .null, .int 0, .null, .null, .null, .null, .null]))] ++ VM48) H locs := by rw [eVM48]; exact hw
  refine lv_aload_n hx hb dX10_init_207 rfl (lv_at hl 0 rfl) ?_
  refine lv_sipush (v := 260) hx hb dX10_init_208 (by decide) ?_
  refine zz_newa (at_ := .int) (a0 := (260, .inl (fun _ => 0))) 0 S hw zz_ar0 rfl rfl (fun _ _ h => h) (fun _ => rfl) (by decide) (nI_clamp (n := 260) (by decide)) (by decide) (Nat.le_of_ble_eq_true rfl) (Nat.le_of_ble_eq_true rfl) dX10_init_211 ?_
  clear hw
  intro q49 H hw
  replace hw : zz_w G A s ([(h0, .inr (10, [.int 0, .ref q1, .int 0, .ref q3, .int 0, .ref q5, .ref q7, .ref q9, .ref q11, .ref q13, .int 0, .int 0, .int 0, .int 0, .int 0, .int 0, .int 0, .int (-1), .int 0, .int 0, .int 0, .ref q15, .ref q17, .ref q19, .ref q21, .ref q23, .ref q25, .ref q27, .ref q29, .ref q31, .ref q33, .ref q35, .ref q37, .ref q39, .int 0, .ref q41, .ref q43, .ref q45, .ref q47, .null, .int 0, .null, .null, .null, .int 0, .null, .null, .int 0, .null, .null, .int 0, .int 0, .null, .null, .null, .null, .int 0, .null, .null, .null, .null, .int 0, .null, .null, .null, .null, .null])), (q49, .inl (G.2 0, 260, .inl (fun _ => 0)))] ++ VM48) H _ := zz_w.swap hw
  refine zz_putF (ws' := ([(h0, .inr (10, [.int 0, .ref q1, .int 0, .ref q3, .int 0, .ref q5, .ref q7, .ref q9, .ref q11, .ref q13, .int 0, .int 0, .int 0, .int 0, .int 0, .int 0, .int 0, .int (-1), .int 0, .int 0, .int 0, .ref q15, .ref q17, .ref q19, .ref q21, .ref q23, .ref q25, .ref q27, .ref q29, .ref q31, .ref q33, .ref q35, .ref q37, .ref q39, .int 0, .ref q41, .ref q43, .ref q45, .ref q47, .ref q49, .int 0, .null, .null, .null, .int 0, .null, .null, .int 0, .null, .null, .int 0, .int 0, .null, .null, .null, .null, .int 0, .null, .null, .null, .null, .int 0, .null, .null, .null, .null, .null])), (q49, .inl (G.2 0, 260, .inl (fun _ => 0)))] ++ VM48)) (v := .ref q49) S hnm hw fpX10_92 0 rfl rfl rfl (Nat.le_of_ble_eq_true rfl) rfl dX10_init_213 ?_
  clear hw
  intro H locs hw
  refine Exists.elim (show ∃ V : va_W, V = ([(q49, .inl (G.2 0, 260, .inl (fun _ => 0)))] ++ VM48) from ⟨_, rfl⟩) fun VM50 eVM50 => ?_
  replace hw : zz_w G A s ([(h0, .inr (10, [.int 0, .ref q1, .int 0, .ref q3, .int 0, .ref q5, .ref q7, .ref q9, .ref q11, .ref q13, .int 0, .int 0, .int 0, .int 0, .int 0, .int 0, .int 0, .int (-1), .int 0, .int 0, .int 0, .ref q15, .ref q17, .ref q19, .ref q21, .ref q23, .ref q25, .ref q27, .ref q29, .ref q31, .ref q33, .ref q35, .ref q37, .ref q39, .int 0, .ref q41, .ref q43, .ref q45, .ref q47, .ref q49, .int 0, .null, .null, .null, .int 0, .null, .null, .int 0, .null, .null, .int 0, .int 0, .null, .null, .null, .null, .int 0, .null, .null, .null, .null, .int 0, .null, .null, .null, .null, .null]))] ++ VM50) H locs := by rw [eVM50]; exact hw
  refine lv_aload_n hx hb dX10_init_216 rfl (lv_at hl 0 rfl) ?_
  refine lv_sipush (v := 840) hx hb dX10_init_217 (by decide) ?_
  refine zz_newa (at_ := .int) (a0 := (840, .inl (fun _ => 0))) 0 S hw zz_ar0 rfl rfl (fun _ _ h => h) (fun _ => rfl) (by decide) (nI_clamp (n := 840) (by decide)) (by decide) (Nat.le_of_ble_eq_true rfl) (Nat.le_of_ble_eq_true rfl) dX10_init_220 ?_
  clear hw
  intro q51 H hw
  replace hw : zz_w G A s ([(h0, .inr (10, [.int 0, .ref q1, .int 0, .ref q3, .int 0, .ref q5, .ref q7, .ref q9, .ref q11, .ref q13, .int 0, .int 0, .int 0, .int 0, .int 0, .int 0, .int 0, .int (-1), .int 0, .int 0, .int 0, .ref q15, .ref q17, .ref q19, .ref q21, .ref q23, .ref q25, .ref q27, .ref q29, .ref q31, .ref q33, .ref q35, .ref q37, .ref q39, .int 0, .ref q41, .ref q43, .ref q45, .ref q47, .ref q49, .int 0, .null, .null, .null, .int 0, .null, .null, .int 0, .null, .null, .int 0, .int 0, .null, .null, .null, .null, .int 0, .null, .null, .null, .null, .int 0, .null, .null, .null, .null, .null])), (q51, .inl (G.2 0, 840, .inl (fun _ => 0)))] ++ VM50) H _ := zz_w.swap hw
  refine zz_putF (ws' := ([(h0, .inr (10, [.int 0, .ref q1, .int 0, .ref q3, .int 0, .ref q5, .ref q7, .ref q9, .ref q11, .ref q13, .int 0, .int 0, .int 0, .int 0, .int 0, .int 0, .int 0, .int (-1), .int 0, .int 0, .int 0, .ref q15, .ref q17, .ref q19, .ref q21, .ref q23, .ref q25, .ref q27, .ref q29, .ref q31, .ref q33, .ref q35, .ref q37, .ref q39, .int 0, .ref q41, .ref q43, .ref q45, .ref q47, .ref q49, .int 0, .ref q51, .null, .null, .int 0, .null, .null, .int 0, .null, .null, .int 0, .int 0, .null, .null, .null, .null, .int 0, .null, .null, .null, .null, .int 0, .null, .null, .null, .null, .null])), (q51, .inl (G.2 0, 840, .inl (fun _ => 0)))] ++ VM50)) (v := .ref q51) S hnm hw fpX10_95 0 rfl rfl rfl (Nat.le_of_ble_eq_true rfl) rfl dX10_init_222 ?_
  clear hw
  intro H locs hw
  refine Exists.elim (show ∃ V : va_W, V = ([(q51, .inl (G.2 0, 840, .inl (fun _ => 0)))] ++ VM50) from ⟨_, rfl⟩) fun VM52 eVM52 => ?_
  replace hw : zz_w G A s ([(h0, .inr (10, [.int 0, .ref q1, .int 0, .ref q3, .int 0, .ref q5, .ref q7, .ref q9, .ref q11, .ref q13, .int 0, .int 0, .int 0, .int 0, .int 0, .int 0, .int 0, .int (-1), .int 0, .int 0, .int 0, .ref q15, .ref q17, .ref q19, .ref q21, .ref q23, .ref q25, .ref q27, .ref q29, .ref q31, .ref q33, .ref q35, .ref q37, .ref q39, .int 0, .ref q41, .ref q43, .ref q45, .ref q47, .ref q49, .int 0, .ref q51, .null, .null, .int 0, .null, .null, .int 0, .null, .null, .int 0, .int 0, .null, .null, .null, .null, .int 0, .null, .null, .null, .null, .int 0, .null, .null, .null, .null, .null]))] ++ VM52) H locs := by rw [eVM52]; exact hw
  refine lv_aload_n hx hb dX10_init_225 rfl (lv_at hl 0 rfl) ?_
  refine lv_sipush (v := 840) hx hb dX10_init_226 (by decide) ?_
  refine zz_newa (at_ := .int) (a0 := (840, .inl (fun _ => 0))) 0 S hw zz_ar0 rfl rfl (fun _ _ h => h) (fun _ => rfl) (by decide) (nI_clamp (n := 840) (by decide)) (by decide) (Nat.le_of_ble_eq_true rfl) (Nat.le_of_ble_eq_true rfl) dX10_init_229 ?_
  clear hw
  intro q53 H hw
  replace hw : zz_w G A s ([(h0, .inr (10, [.int 0, .ref q1, .int 0, .ref q3, .int 0, .ref q5, .ref q7, .ref q9, .ref q11, .ref q13, .int 0, .int 0, .int 0, .int 0, .int 0, .int 0, .int 0, .int (-1), .int 0, .int 0, .int 0, .ref q15, .ref q17, .ref q19, .ref q21, .ref q23, .ref q25, .ref q27, .ref q29, .ref q31, .ref q33, .ref q35, .ref q37, .ref q39, .int 0, .ref q41, .ref q43, .ref q45, .ref q47, .ref q49, .int 0, .ref q51, .null, .null, .int 0, .null, .null, .int 0, .null, .null, .int 0, .int 0, .null, .null, .null, .null, .int 0, .null, .null, .null, .null, .int 0, .null, .null, .null, .null, .null])), (q53, .inl (G.2 0, 840, .inl (fun _ => 0)))] ++ VM52) H _ := zz_w.swap hw
  refine W.eq (g2 := F0 m 231 ls [.ref q53, .ref h0]) rfl ?_
  refine zz_putF (ws' := ([(h0, .inr (10, [.int 0, .ref q1, .int 0, .ref q3, .int 0, .ref q5, .ref q7, .ref q9, .ref q11, .ref q13, .int 0, .int 0, .int 0, .int 0, .int 0, .int 0, .int 0, .int (-1), .int 0, .int 0, .int 0, .ref q15, .ref q17, .ref q19, .ref q21, .ref q23, .ref q25, .ref q27, .ref q29, .ref q31, .ref q33, .ref q35, .ref q37, .ref q39, .int 0, .ref q41, .ref q43, .ref q45, .ref q47, .ref q49, .int 0, .ref q51, .ref q53, .null, .int 0, .null, .null, .int 0, .null, .null, .int 0, .int 0, .null, .null, .null, .null, .int 0, .null, .null, .null, .null, .int 0, .null, .null, .null, .null, .null])), (q53, .inl (G.2 0, 840, .inl (fun _ => 0)))] ++ VM52)) (v := .ref q53) S hnm hw fpX10_98 0 rfl rfl rfl (Nat.le_of_ble_eq_true rfl) rfl dX10_init_231 ?_
  clear hw
  intro H locs hw
  refine Exists.elim (show ∃ V : va_W, V = ([(q53, .inl (G.2 0, 840, .inl (fun _ => 0)))] ++ VM52) from ⟨_, rfl⟩) fun VM54 eVM54 => ?_
  replace hw : zz_w G A s ([(h0, .inr (10, [.int 0, .ref q1, .int 0, .ref q3, .int 0, .ref q5, .ref q7, .ref q9, .ref q11, .ref q13, .int 0, .int 0, .int 0, .int 0, .int 0, .int 0, .int 0, .int (-1), .int 0, .int 0, .int 0, .ref q15, .ref q17, .ref q19, .ref q21, .ref q23, .ref q25, .ref q27, .ref q29, .ref q31, .ref q33, .ref q35, .ref q37, .ref q39, .int 0, .ref q41, .ref q43, .ref q45, .ref q47, .ref q49, .int 0, .ref q51, .ref q53, .null, .int 0, .null, .null, .int 0, .null, .null, .int 0, .int 0, .null, .null, .null, .null, .int 0, .null, .null, .null, .null, .int 0, .null, .null, .null, .null, .null]))] ++ VM54) H locs := by rw [eVM54]; exact hw
  refine lv_aload_n hx hb dX10_init_234 rfl (lv_at hl 0 rfl) ?_
  refine lv_bipush (v := 64) hx hb dX10_init_235 (by decide) ?_
  refine zz_newa (at_ := .int) (a0 := (64, .inl (fun _ => 0))) 0 S hw zz_ar0 rfl rfl (fun _ _ h => h) (fun _ => rfl) (by decide) (nI_clamp (n := 64) (by decide)) (by decide) (Nat.le_of_ble_eq_true rfl) (Nat.le_of_ble_eq_true rfl) dX10_init_237 ?_
  clear hw
  intro q55 H hw
  replace hw : zz_w G A s ([(h0, .inr (10, [.int 0, .ref q1, .int 0, .ref q3, .int 0, .ref q5, .ref q7, .ref q9, .ref q11, .ref q13, .int 0, .int 0, .int 0, .int 0, .int 0, .int 0, .int 0, .int (-1), .int 0, .int 0, .int 0, .ref q15, .ref q17, .ref q19, .ref q21, .ref q23, .ref q25, .ref q27, .ref q29, .ref q31, .ref q33, .ref q35, .ref q37, .ref q39, .int 0, .ref q41, .ref q43, .ref q45, .ref q47, .ref q49, .int 0, .ref q51, .ref q53, .null, .int 0, .null, .null, .int 0, .null, .null, .int 0, .int 0, .null, .null, .null, .null, .int 0, .null, .null, .null, .null, .int 0, .null, .null, .null, .null, .null])), (q55, .inl (G.2 0, 64, .inl (fun _ => 0)))] ++ VM54) H _ := zz_w.swap hw
  refine zz_putF (ws' := ([(h0, .inr (10, [.int 0, .ref q1, .int 0, .ref q3, .int 0, .ref q5, .ref q7, .ref q9, .ref q11, .ref q13, .int 0, .int 0, .int 0, .int 0, .int 0, .int 0, .int 0, .int (-1), .int 0, .int 0, .int 0, .ref q15, .ref q17, .ref q19, .ref q21, .ref q23, .ref q25, .ref q27, .ref q29, .ref q31, .ref q33, .ref q35, .ref q37, .ref q39, .int 0, .ref q41, .ref q43, .ref q45, .ref q47, .ref q49, .int 0, .ref q51, .ref q53, .ref q55, .int 0, .null, .null, .int 0, .null, .null, .int 0, .int 0, .null, .null, .null, .null, .int 0, .null, .null, .null, .null, .int 0, .null, .null, .null, .null, .null])), (q55, .inl (G.2 0, 64, .inl (fun _ => 0)))] ++ VM54)) (v := .ref q55) S hnm hw fpX10_101 0 rfl rfl rfl (Nat.le_of_ble_eq_true rfl) rfl dX10_init_239 ?_
  clear hw
  intro H locs hw
  refine Exists.elim (show ∃ V : va_W, V = ([(q55, .inl (G.2 0, 64, .inl (fun _ => 0)))] ++ VM54) from ⟨_, rfl⟩) fun VM56 eVM56 => ?_
  replace hw : zz_w G A s ([(h0, .inr (10, [.int 0, .ref q1, .int 0, .ref q3, .int 0, .ref q5, .ref q7, .ref q9, .ref q11, .ref q13, .int 0, .int 0, .int 0, .int 0, .int 0, .int 0, .int 0, .int (-1), .int 0, .int 0, .int 0, .ref q15, .ref q17, .ref q19, .ref q21, .ref q23, .ref q25, .ref q27, .ref q29, .ref q31, .ref q33, .ref q35, .ref q37, .ref q39, .int 0, .ref q41, .ref q43, .ref q45, .ref q47, .ref q49, .int 0, .ref q51, .ref q53, .ref q55, .int 0, .null, .null, .int 0, .null, .null, .int 0, .int 0, .null, .null, .null, .null, .int 0, .null, .null, .null, .null, .int 0, .null, .null, .null, .null, .null]))] ++ VM56) H locs := by rw [eVM56]; exact hw
  refine lv_aload_n hx hb dX10_init_242 rfl (lv_at hl 0 rfl) ?_
  refine lv_bipush (v := 9) hx hb dX10_init_243 (by decide) ?_
  refine zz_newa (at_ := .int) (a0 := (9, .inl (fun _ => 0))) 0 S hw zz_ar0 rfl rfl (fun _ _ h => h) (fun _ => rfl) (by decide) (nI_clamp (n := 9) (by decide)) (by decide) (Nat.le_of_ble_eq_true rfl) (Nat.le_of_ble_eq_true rfl) dX10_init_245 ?_
  clear hw
  intro q57 H hw
  replace hw : zz_w G A s ([(h0, .inr (10, [.int 0, .ref q1, .int 0, .ref q3, .int 0, .ref q5, .ref q7, .ref q9, .ref q11, .ref q13, .int 0, .int 0, .int 0, .int 0, .int 0, .int 0, .int 0, .int (-1), .int 0, .int 0, .int 0, .ref q15, .ref q17, .ref q19, .ref q21, .ref q23, .ref q25, .ref q27, .ref q29, .ref q31, .ref q33, .ref q35, .ref q37, .ref q39, .int 0, .ref q41, .ref q43, .ref q45, .ref q47, .ref q49, .int 0, .ref q51, .ref q53, .ref q55, .int 0, .null, .null, .int 0, .null, .null, .int 0, .int 0, .null, .null, .null, .null, .int 0, .null, .null, .null, .null, .int 0, .null, .null, .null, .null, .null])), (q57, .inl (G.2 0, 9, .inl (fun _ => 0)))] ++ VM56) H _ := zz_w.swap hw
  refine zz_putF (ws' := ([(h0, .inr (10, [.int 0, .ref q1, .int 0, .ref q3, .int 0, .ref q5, .ref q7, .ref q9, .ref q11, .ref q13, .int 0, .int 0, .int 0, .int 0, .int 0, .int 0, .int 0, .int (-1), .int 0, .int 0, .int 0, .ref q15, .ref q17, .ref q19, .ref q21, .ref q23, .ref q25, .ref q27, .ref q29, .ref q31, .ref q33, .ref q35, .ref q37, .ref q39, .int 0, .ref q41, .ref q43, .ref q45, .ref q47, .ref q49, .int 0, .ref q51, .ref q53, .ref q55, .int 0, .ref q57, .null, .int 0, .null, .null, .int 0, .int 0, .null, .null, .null, .null, .int 0, .null, .null, .null, .null, .int 0, .null, .null, .null, .null, .null])), (q57, .inl (G.2 0, 9, .inl (fun _ => 0)))] ++ VM56)) (v := .ref q57) S hnm hw fpX10_104 0 rfl rfl rfl (Nat.le_of_ble_eq_true rfl) rfl dX10_init_247 ?_
  clear hw
  intro H locs hw
  refine Exists.elim (show ∃ V : va_W, V = ([(q57, .inl (G.2 0, 9, .inl (fun _ => 0)))] ++ VM56) from ⟨_, rfl⟩) fun VM58 eVM58 => ?_
  replace hw : zz_w G A s ([(h0, .inr (10, [.int 0, .ref q1, .int 0, .ref q3, .int 0, .ref q5, .ref q7, .ref q9, .ref q11, .ref q13, .int 0, .int 0, .int 0, .int 0, .int 0, .int 0, .int 0, .int (-1), .int 0, .int 0, .int 0, .ref q15, .ref q17, .ref q19, .ref q21, .ref q23, .ref q25, .ref q27, .ref q29, .ref q31, .ref q33, .ref q35, .ref q37, .ref q39, .int 0, .ref q41, .ref q43, .ref q45, .ref q47, .ref q49, .int 0, .ref q51, .ref q53, .ref q55, .int 0, .ref q57, .null, .int 0, .null, .null, .int 0, .int 0, .null, .null, .null, .null, .int 0, .null, .null, .null, .null, .int 0, .null, .null, .null, .null, .null]))] ++ VM58) H locs := by rw [eVM58]; exact hw
  refine lv_aload_n hx hb dX10_init_250 rfl (lv_at hl 0 rfl) ?_
  refine lv_sipush (v := 400) hx hb dX10_init_251 (by decide) ?_
  refine zz_newa (at_ := .int) (a0 := (400, .inl (fun _ => 0))) 0 S hw zz_ar0 rfl rfl (fun _ _ h => h) (fun _ => rfl) (by decide) (nI_clamp (n := 400) (by decide)) (by decide) (Nat.le_of_ble_eq_true rfl) (Nat.le_of_ble_eq_true rfl) dX10_init_254 ?_
  clear hw
  intro q59 H hw
  replace hw : zz_w G A s ([(h0, .inr (10, [.int 0, .ref q1, .int 0, .ref q3, .int 0, .ref q5, .ref q7, .ref q9, .ref q11, .ref q13, .int 0, .int 0, .int 0, .int 0, .int 0, .int 0, .int 0, .int (-1), .int 0, .int 0, .int 0, .ref q15, .ref q17, .ref q19, .ref q21, .ref q23, .ref q25, .ref q27, .ref q29, .ref q31, .ref q33, .ref q35, .ref q37, .ref q39, .int 0, .ref q41, .ref q43, .ref q45, .ref q47, .ref q49, .int 0, .ref q51, .ref q53, .ref q55, .int 0, .ref q57, .null, .int 0, .null, .null, .int 0, .int 0, .null, .null, .null, .null, .int 0, .null, .null, .null, .null, .int 0, .null, .null, .null, .null, .null])), (q59, .inl (G.2 0, 400, .inl (fun _ => 0)))] ++ VM58) H _ := zz_w.swap hw
  refine zz_putF (ws' := ([(h0, .inr (10, [.int 0, .ref q1, .int 0, .ref q3, .int 0, .ref q5, .ref q7, .ref q9, .ref q11, .ref q13, .int 0, .int 0, .int 0, .int 0, .int 0, .int 0, .int 0, .int (-1), .int 0, .int 0, .int 0, .ref q15, .ref q17, .ref q19, .ref q21, .ref q23, .ref q25, .ref q27, .ref q29, .ref q31, .ref q33, .ref q35, .ref q37, .ref q39, .int 0, .ref q41, .ref q43, .ref q45, .ref q47, .ref q49, .int 0, .ref q51, .ref q53, .ref q55, .int 0, .ref q57, .ref q59, .int 0, .null, .null, .int 0, .int 0, .null, .null, .null, .null, .int 0, .null, .null, .null, .null, .int 0, .null, .null, .null, .null, .null])), (q59, .inl (G.2 0, 400, .inl (fun _ => 0)))] ++ VM58)) (v := .ref q59) S hnm hw fpX10_107 0 rfl rfl rfl (Nat.le_of_ble_eq_true rfl) rfl dX10_init_256 ?_
  clear hw
  intro H locs hw
  refine Exists.elim (show ∃ V : va_W, V = ([(q59, .inl (G.2 0, 400, .inl (fun _ => 0)))] ++ VM58) from ⟨_, rfl⟩) fun VM60 eVM60 => ?_
  replace hw : zz_w G A s ([(h0, .inr (10, [.int 0, .ref q1, .int 0, .ref q3, .int 0, .ref q5, .ref q7, .ref q9, .ref q11, .ref q13, .int 0, .int 0, .int 0, .int 0, .int 0, .int 0, .int 0, .int (-1), .int 0, .int 0, .int 0, .ref q15, .ref q17, .ref q19, .ref q21, .ref q23, .ref q25, .ref q27, .ref q29, .ref q31, .ref q33, .ref q35, .ref q37, .ref q39, .int 0, .ref q41, .ref q43, .ref q45, .ref q47, .ref q49, .int 0, .ref q51, .ref q53, .ref q55, .int 0, .ref q57, .ref q59, .int 0, .null, .null, .int 0, .int 0, .null, .null, .null, .null, .int 0, .null, .null, .null, .null, .int 0, .null, .null, .null, .null, .null]))] ++ VM60) H locs := by rw [eVM60]; exact hw
  refine lv_aload_n hx hb dX10_init_259 rfl (lv_at hl 0 rfl) ?_
  refine W.eq (g2 := F0 m 260 ls [.ref h0]) rfl ?_
  refine lv_bipush (v := 71) hx hb dX10_init_260 (by decide) ?_
  refine zz_newa (at_ := .int) (a0 := (71, .inl (fun _ => 0))) 0 S hw zz_ar0 rfl rfl (fun _ _ h => h) (fun _ => rfl) (by decide) (nI_clamp (n := 71) (by decide)) (by decide) (Nat.le_of_ble_eq_true rfl) (Nat.le_of_ble_eq_true rfl) dX10_init_262 ?_
  clear hw
  intro q61 H hw
  replace hw : zz_w G A s ([(h0, .inr (10, [.int 0, .ref q1, .int 0, .ref q3, .int 0, .ref q5, .ref q7, .ref q9, .ref q11, .ref q13, .int 0, .int 0, .int 0, .int 0, .int 0, .int 0, .int 0, .int (-1), .int 0, .int 0, .int 0, .ref q15, .ref q17, .ref q19, .ref q21, .ref q23, .ref q25, .ref q27, .ref q29, .ref q31, .ref q33, .ref q35, .ref q37, .ref q39, .int 0, .ref q41, .ref q43, .ref q45, .ref q47, .ref q49, .int 0, .ref q51, .ref q53, .ref q55, .int 0, .ref q57, .ref q59, .int 0, .null, .null, .int 0, .int 0, .null, .null, .null, .null, .int 0, .null, .null, .null, .null, .int 0, .null, .null, .null, .null, .null])), (q61, .inl (G.2 0, 71, .inl (fun _ => 0)))] ++ VM60) H _ := zz_w.swap hw
  refine zz_putF (ws' := ([(h0, .inr (10, [.int 0, .ref q1, .int 0, .ref q3, .int 0, .ref q5, .ref q7, .ref q9, .ref q11, .ref q13, .int 0, .int 0, .int 0, .int 0, .int 0, .int 0, .int 0, .int (-1), .int 0, .int 0, .int 0, .ref q15, .ref q17, .ref q19, .ref q21, .ref q23, .ref q25, .ref q27, .ref q29, .ref q31, .ref q33, .ref q35, .ref q37, .ref q39, .int 0, .ref q41, .ref q43, .ref q45, .ref q47, .ref q49, .int 0, .ref q51, .ref q53, .ref q55, .int 0, .ref q57, .ref q59, .int 0, .ref q61, .null, .int 0, .int 0, .null, .null, .null, .null, .int 0, .null, .null, .null, .null, .int 0, .null, .null, .null, .null, .null])), (q61, .inl (G.2 0, 71, .inl (fun _ => 0)))] ++ VM60)) (v := .ref q61) S hnm hw fpX10_110 0 rfl rfl rfl (Nat.le_of_ble_eq_true rfl) rfl dX10_init_264 ?_
  clear hw
  intro H locs hw
  refine Exists.elim (show ∃ V : va_W, V = ([(q61, .inl (G.2 0, 71, .inl (fun _ => 0)))] ++ VM60) from ⟨_, rfl⟩) fun VM62 eVM62 => ?_
  replace hw : zz_w G A s ([(h0, .inr (10, [.int 0, .ref q1, .int 0, .ref q3, .int 0, .ref q5, .ref q7, .ref q9, .ref q11, .ref q13, .int 0, .int 0, .int 0, .int 0, .int 0, .int 0, .int 0, .int (-1), .int 0, .int 0, .int 0, .ref q15, .ref q17, .ref q19, .ref q21, .ref q23, .ref q25, .ref q27, .ref q29, .ref q31, .ref q33, .ref q35, .ref q37, .ref q39, .int 0, .ref q41, .ref q43, .ref q45, .ref q47, .ref q49, .int 0, .ref q51, .ref q53, .ref q55, .int 0, .ref q57, .ref q59, .int 0, .ref q61, .null, .int 0, .int 0, .null, .null, .null, .null, .int 0, .null, .null, .null, .null, .int 0, .null, .null, .null, .null, .null]))] ++ VM62) H locs := by rw [eVM62]; exact hw
  refine lv_aload_n hx hb dX10_init_267 rfl (lv_at hl 0 rfl) ?_
  refine lv_bipush (v := 71) hx hb dX10_init_268 (by decide) ?_
  refine zz_newa (at_ := .int) (a0 := (71, .inl (fun _ => 0))) 0 S hw zz_ar0 rfl rfl (fun _ _ h => h) (fun _ => rfl) (by decide) (nI_clamp (n := 71) (by decide)) (by decide) (Nat.le_of_ble_eq_true rfl) (Nat.le_of_ble_eq_true rfl) dX10_init_270 ?_
  clear hw
  intro q63 H hw
  replace hw : zz_w G A s ([(h0, .inr (10, [.int 0, .ref q1, .int 0, .ref q3, .int 0, .ref q5, .ref q7, .ref q9, .ref q11, .ref q13, .int 0, .int 0, .int 0, .int 0, .int 0, .int 0, .int 0, .int (-1), .int 0, .int 0, .int 0, .ref q15, .ref q17, .ref q19, .ref q21, .ref q23, .ref q25, .ref q27, .ref q29, .ref q31, .ref q33, .ref q35, .ref q37, .ref q39, .int 0, .ref q41, .ref q43, .ref q45, .ref q47, .ref q49, .int 0, .ref q51, .ref q53, .ref q55, .int 0, .ref q57, .ref q59, .int 0, .ref q61, .null, .int 0, .int 0, .null, .null, .null, .null, .int 0, .null, .null, .null, .null, .int 0, .null, .null, .null, .null, .null])), (q63, .inl (G.2 0, 71, .inl (fun _ => 0)))] ++ VM62) H _ := zz_w.swap hw
  refine zz_putF (ws' := ([(h0, .inr (10, [.int 0, .ref q1, .int 0, .ref q3, .int 0, .ref q5, .ref q7, .ref q9, .ref q11, .ref q13, .int 0, .int 0, .int 0, .int 0, .int 0, .int 0, .int 0, .int (-1), .int 0, .int 0, .int 0, .ref q15, .ref q17, .ref q19, .ref q21, .ref q23, .ref q25, .ref q27, .ref q29, .ref q31, .ref q33, .ref q35, .ref q37, .ref q39, .int 0, .ref q41, .ref q43, .ref q45, .ref q47, .ref q49, .int 0, .ref q51, .ref q53, .ref q55, .int 0, .ref q57, .ref q59, .int 0, .ref q61, .ref q63, .int 0, .int 0, .null, .null, .null, .null, .int 0, .null, .null, .null, .null, .int 0, .null, .null, .null, .null, .null])), (q63, .inl (G.2 0, 71, .inl (fun _ => 0)))] ++ VM62)) (v := .ref q63) S hnm hw fpX10_113 0 rfl rfl rfl (Nat.le_of_ble_eq_true rfl) rfl dX10_init_272 ?_
  clear hw
  intro H locs hw
  refine Exists.elim (show ∃ V : va_W, V = ([(q63, .inl (G.2 0, 71, .inl (fun _ => 0)))] ++ VM62) from ⟨_, rfl⟩) fun VM64 eVM64 => ?_
  replace hw : zz_w G A s ([(h0, .inr (10, [.int 0, .ref q1, .int 0, .ref q3, .int 0, .ref q5, .ref q7, .ref q9, .ref q11, .ref q13, .int 0, .int 0, .int 0, .int 0, .int 0, .int 0, .int 0, .int (-1), .int 0, .int 0, .int 0, .ref q15, .ref q17, .ref q19, .ref q21, .ref q23, .ref q25, .ref q27, .ref q29, .ref q31, .ref q33, .ref q35, .ref q37, .ref q39, .int 0, .ref q41, .ref q43, .ref q45, .ref q47, .ref q49, .int 0, .ref q51, .ref q53, .ref q55, .int 0, .ref q57, .ref q59, .int 0, .ref q61, .ref q63, .int 0, .int 0, .null, .null, .null, .null, .int 0, .null, .null, .null, .null, .int 0, .null, .null, .null, .null, .null]))] ++ VM64) H locs := by rw [eVM64]; exact hw
  refine lv_aload_n hx hb dX10_init_275 rfl (lv_at hl 0 rfl) ?_
  refine lv_bipush (v := 6) hx hb dX10_init_276 (by decide) ?_
  refine zz_newa (at_ := .int) (a0 := (6, .inl (fun _ => 0))) 0 S hw zz_ar0 rfl rfl (fun _ _ h => h) (fun _ => rfl) (by decide) (nI_clamp (n := 6) (by decide)) (by decide) (Nat.le_of_ble_eq_true rfl) (Nat.le_of_ble_eq_true rfl) dX10_init_278 ?_
  clear hw
  intro q65 H hw
  replace hw : zz_w G A s ([(h0, .inr (10, [.int 0, .ref q1, .int 0, .ref q3, .int 0, .ref q5, .ref q7, .ref q9, .ref q11, .ref q13, .int 0, .int 0, .int 0, .int 0, .int 0, .int 0, .int 0, .int (-1), .int 0, .int 0, .int 0, .ref q15, .ref q17, .ref q19, .ref q21, .ref q23, .ref q25, .ref q27, .ref q29, .ref q31, .ref q33, .ref q35, .ref q37, .ref q39, .int 0, .ref q41, .ref q43, .ref q45, .ref q47, .ref q49, .int 0, .ref q51, .ref q53, .ref q55, .int 0, .ref q57, .ref q59, .int 0, .ref q61, .ref q63, .int 0, .int 0, .null, .null, .null, .null, .int 0, .null, .null, .null, .null, .int 0, .null, .null, .null, .null, .null])), (q65, .inl (G.2 0, 6, .inl (fun _ => 0)))] ++ VM64) H _ := zz_w.swap hw
  refine zz_putF (ws' := ([(h0, .inr (10, [.int 0, .ref q1, .int 0, .ref q3, .int 0, .ref q5, .ref q7, .ref q9, .ref q11, .ref q13, .int 0, .int 0, .int 0, .int 0, .int 0, .int 0, .int 0, .int (-1), .int 0, .int 0, .int 0, .ref q15, .ref q17, .ref q19, .ref q21, .ref q23, .ref q25, .ref q27, .ref q29, .ref q31, .ref q33, .ref q35, .ref q37, .ref q39, .int 0, .ref q41, .ref q43, .ref q45, .ref q47, .ref q49, .int 0, .ref q51, .ref q53, .ref q55, .int 0, .ref q57, .ref q59, .int 0, .ref q61, .ref q63, .int 0, .int 0, .ref q65, .null, .null, .null, .int 0, .null, .null, .null, .null, .int 0, .null, .null, .null, .null, .null])), (q65, .inl (G.2 0, 6, .inl (fun _ => 0)))] ++ VM64)) (v := .ref q65) S hnm hw fpX10_116 0 rfl rfl rfl (Nat.le_of_ble_eq_true rfl) rfl dX10_init_280 ?_
  clear hw
  intro H locs hw
  refine Exists.elim (show ∃ V : va_W, V = ([(q65, .inl (G.2 0, 6, .inl (fun _ => 0)))] ++ VM64) from ⟨_, rfl⟩) fun VM66 eVM66 => ?_
  replace hw : zz_w G A s ([(h0, .inr (10, [.int 0, .ref q1, .int 0, .ref q3, .int 0, .ref q5, .ref q7, .ref q9, .ref q11, .ref q13, .int 0, .int 0, .int 0, .int 0, .int 0, .int 0, .int 0, .int (-1), .int 0, .int 0, .int 0, .ref q15, .ref q17, .ref q19, .ref q21, .ref q23, .ref q25, .ref q27, .ref q29, .ref q31, .ref q33, .ref q35, .ref q37, .ref q39, .int 0, .ref q41, .ref q43, .ref q45, .ref q47, .ref q49, .int 0, .ref q51, .ref q53, .ref q55, .int 0, .ref q57, .ref q59, .int 0, .ref q61, .ref q63, .int 0, .int 0, .ref q65, .null, .null, .null, .int 0, .null, .null, .null, .null, .int 0, .null, .null, .null, .null, .null]))] ++ VM66) H locs := by rw [eVM66]; exact hw
  refine lv_aload_n hx hb dX10_init_283 rfl (lv_at hl 0 rfl) ?_
  refine lv_bipush (v := 6) hx hb dX10_init_284 (by decide) ?_
  refine zz_newa (at_ := .boolean) (a0 := (6, .inl (fun _ => 0))) 2 S hw zz_ar2 rfl rfl (fun _ _ h => h) (fun _ => rfl) (by decide) (nI_clamp (n := 6) (by decide)) (by decide) (Nat.le_of_ble_eq_true rfl) (Nat.le_of_ble_eq_true rfl) dX10_init_286 ?_
  clear hw
  intro q67 H hw
  replace hw : zz_w G A s ([(h0, .inr (10, [.int 0, .ref q1, .int 0, .ref q3, .int 0, .ref q5, .ref q7, .ref q9, .ref q11, .ref q13, .int 0, .int 0, .int 0, .int 0, .int 0, .int 0, .int 0, .int (-1), .int 0, .int 0, .int 0, .ref q15, .ref q17, .ref q19, .ref q21, .ref q23, .ref q25, .ref q27, .ref q29, .ref q31, .ref q33, .ref q35, .ref q37, .ref q39, .int 0, .ref q41, .ref q43, .ref q45, .ref q47, .ref q49, .int 0, .ref q51, .ref q53, .ref q55, .int 0, .ref q57, .ref q59, .int 0, .ref q61, .ref q63, .int 0, .int 0, .ref q65, .null, .null, .null, .int 0, .null, .null, .null, .null, .int 0, .null, .null, .null, .null, .null])), (q67, .inl (G.2 2, 6, .inl (fun _ => 0)))] ++ VM66) H _ := zz_w.swap hw
  refine W.eq (g2 := F0 m 288 ls [.ref q67, .ref h0]) rfl ?_
  refine zz_putF (ws' := ([(h0, .inr (10, [.int 0, .ref q1, .int 0, .ref q3, .int 0, .ref q5, .ref q7, .ref q9, .ref q11, .ref q13, .int 0, .int 0, .int 0, .int 0, .int 0, .int 0, .int 0, .int (-1), .int 0, .int 0, .int 0, .ref q15, .ref q17, .ref q19, .ref q21, .ref q23, .ref q25, .ref q27, .ref q29, .ref q31, .ref q33, .ref q35, .ref q37, .ref q39, .int 0, .ref q41, .ref q43, .ref q45, .ref q47, .ref q49, .int 0, .ref q51, .ref q53, .ref q55, .int 0, .ref q57, .ref q59, .int 0, .ref q61, .ref q63, .int 0, .int 0, .ref q65, .ref q67, .null, .null, .int 0, .null, .null, .null, .null, .int 0, .null, .null, .null, .null, .null])), (q67, .inl (G.2 2, 6, .inl (fun _ => 0)))] ++ VM66)) (v := .ref q67) S hnm hw fpX10_119 0 rfl rfl rfl (Nat.le_of_ble_eq_true rfl) rfl dX10_init_288 ?_
  clear hw
  intro H locs hw
  refine Exists.elim (show ∃ V : va_W, V = ([(q67, .inl (G.2 2, 6, .inl (fun _ => 0)))] ++ VM66) from ⟨_, rfl⟩) fun VM68 eVM68 => ?_
  replace hw : zz_w G A s ([(h0, .inr (10, [.int 0, .ref q1, .int 0, .ref q3, .int 0, .ref q5, .ref q7, .ref q9, .ref q11, .ref q13, .int 0, .int 0, .int 0, .int 0, .int 0, .int 0, .int 0, .int (-1), .int 0, .int 0, .int 0, .ref q15, .ref q17, .ref q19, .ref q21, .ref q23, .ref q25, .ref q27, .ref q29, .ref q31, .ref q33, .ref q35, .ref q37, .ref q39, .int 0, .ref q41, .ref q43, .ref q45, .ref q47, .ref q49, .int 0, .ref q51, .ref q53, .ref q55, .int 0, .ref q57, .ref q59, .int 0, .ref q61, .ref q63, .int 0, .int 0, .ref q65, .ref q67, .null, .null, .int 0, .null, .null, .null, .null, .int 0, .null, .null, .null, .null, .null]))] ++ VM68) H locs := by rw [eVM68]; exact hw
  refine lv_aload_n hx hb dX10_init_291 rfl (lv_at hl 0 rfl) ?_
  refine lv_bipush (v := 6) hx hb dX10_init_292 (by decide) ?_
  refine zz_newa (at_ := .boolean) (a0 := (6, .inl (fun _ => 0))) 2 S hw zz_ar2 rfl rfl (fun _ _ h => h) (fun _ => rfl) (by decide) (nI_clamp (n := 6) (by decide)) (by decide) (Nat.le_of_ble_eq_true rfl) (Nat.le_of_ble_eq_true rfl) dX10_init_294 ?_
  clear hw
  intro q69 H hw
  replace hw : zz_w G A s ([(h0, .inr (10, [.int 0, .ref q1, .int 0, .ref q3, .int 0, .ref q5, .ref q7, .ref q9, .ref q11, .ref q13, .int 0, .int 0, .int 0, .int 0, .int 0, .int 0, .int 0, .int (-1), .int 0, .int 0, .int 0, .ref q15, .ref q17, .ref q19, .ref q21, .ref q23, .ref q25, .ref q27, .ref q29, .ref q31, .ref q33, .ref q35, .ref q37, .ref q39, .int 0, .ref q41, .ref q43, .ref q45, .ref q47, .ref q49, .int 0, .ref q51, .ref q53, .ref q55, .int 0, .ref q57, .ref q59, .int 0, .ref q61, .ref q63, .int 0, .int 0, .ref q65, .ref q67, .null, .null, .int 0, .null, .null, .null, .null, .int 0, .null, .null, .null, .null, .null])), (q69, .inl (G.2 2, 6, .inl (fun _ => 0)))] ++ VM68) H _ := zz_w.swap hw
  refine zz_putF (ws' := ([(h0, .inr (10, [.int 0, .ref q1, .int 0, .ref q3, .int 0, .ref q5, .ref q7, .ref q9, .ref q11, .ref q13, .int 0, .int 0, .int 0, .int 0, .int 0, .int 0, .int 0, .int (-1), .int 0, .int 0, .int 0, .ref q15, .ref q17, .ref q19, .ref q21, .ref q23, .ref q25, .ref q27, .ref q29, .ref q31, .ref q33, .ref q35, .ref q37, .ref q39, .int 0, .ref q41, .ref q43, .ref q45, .ref q47, .ref q49, .int 0, .ref q51, .ref q53, .ref q55, .int 0, .ref q57, .ref q59, .int 0, .ref q61, .ref q63, .int 0, .int 0, .ref q65, .ref q67, .ref q69, .null, .int 0, .null, .null, .null, .null, .int 0, .null, .null, .null, .null, .null])), (q69, .inl (G.2 2, 6, .inl (fun _ => 0)))] ++ VM68)) (v := .ref q69) S hnm hw fpX10_122 0 rfl rfl rfl (Nat.le_of_ble_eq_true rfl) rfl dX10_init_296 ?_
  clear hw
  intro H locs hw
  refine Exists.elim (show ∃ V : va_W, V = ([(q69, .inl (G.2 2, 6, .inl (fun _ => 0)))] ++ VM68) from ⟨_, rfl⟩) fun VM70 eVM70 => ?_
  replace hw : zz_w G A s ([(h0, .inr (10, [.int 0, .ref q1, .int 0, .ref q3, .int 0, .ref q5, .ref q7, .ref q9, .ref q11, .ref q13, .int 0, .int 0, .int 0, .int 0, .int 0, .int 0, .int 0, .int (-1), .int 0, .int 0, .int 0, .ref q15, .ref q17, .ref q19, .ref q21, .ref q23, .ref q25, .ref q27, .ref q29, .ref q31, .ref q33, .ref q35, .ref q37, .ref q39, .int 0, .ref q41, .ref q43, .ref q45, .ref q47, .ref q49, .int 0, .ref q51, .ref q53, .ref q55, .int 0, .ref q57, .ref q59, .int 0, .ref q61, .ref q63, .int 0, .int 0, .ref q65, .ref q67, .ref q69, .null, .int 0, .null, .null, .null, .null, .int 0, .null, .null, .null, .null, .null]))] ++ VM70) H locs := by rw [eVM70]; exact hw
  refine lv_aload_n hx hb dX10_init_299 rfl (lv_at hl 0 rfl) ?_
  refine lv_bipush (v := 6) hx hb dX10_init_300 (by decide) ?_
  refine zz_newa (at_ := .int) (a0 := (6, .inl (fun _ => 0))) 0 S hw zz_ar0 rfl rfl (fun _ _ h => h) (fun _ => rfl) (by decide) (nI_clamp (n := 6) (by decide)) (by decide) (Nat.le_of_ble_eq_true rfl) (Nat.le_of_ble_eq_true rfl) dX10_init_302 ?_
  clear hw
  intro q71 H hw
  replace hw : zz_w G A s ([(h0, .inr (10, [.int 0, .ref q1, .int 0, .ref q3, .int 0, .ref q5, .ref q7, .ref q9, .ref q11, .ref q13, .int 0, .int 0, .int 0, .int 0, .int 0, .int 0, .int 0, .int (-1), .int 0, .int 0, .int 0, .ref q15, .ref q17, .ref q19, .ref q21, .ref q23, .ref q25, .ref q27, .ref q29, .ref q31, .ref q33, .ref q35, .ref q37, .ref q39, .int 0, .ref q41, .ref q43, .ref q45, .ref q47, .ref q49, .int 0, .ref q51, .ref q53, .ref q55, .int 0, .ref q57, .ref q59, .int 0, .ref q61, .ref q63, .int 0, .int 0, .ref q65, .ref q67, .ref q69, .null, .int 0, .null, .null, .null, .null, .int 0, .null, .null, .null, .null, .null])), (q71, .inl (G.2 0, 6, .inl (fun _ => 0)))] ++ VM70) H _ := zz_w.swap hw
  refine zz_putF (ws' := ([(h0, .inr (10, [.int 0, .ref q1, .int 0, .ref q3, .int 0, .ref q5, .ref q7, .ref q9, .ref q11, .ref q13, .int 0, .int 0, .int 0, .int 0, .int 0, .int 0, .int 0, .int (-1), .int 0, .int 0, .int 0, .ref q15, .ref q17, .ref q19, .ref q21, .ref q23, .ref q25, .ref q27, .ref q29, .ref q31, .ref q33, .ref q35, .ref q37, .ref q39, .int 0, .ref q41, .ref q43, .ref q45, .ref q47, .ref q49, .int 0, .ref q51, .ref q53, .ref q55, .int 0, .ref q57, .ref q59, .int 0, .ref q61, .ref q63, .int 0, .int 0, .ref q65, .ref q67, .ref q69, .ref q71, .int 0, .null, .null, .null, .null, .int 0, .null, .null, .null, .null, .null])), (q71, .inl (G.2 0, 6, .inl (fun _ => 0)))] ++ VM70)) (v := .ref q71) S hnm hw fpX10_125 0 rfl rfl rfl (Nat.le_of_ble_eq_true rfl) rfl dX10_init_304 ?_
  clear hw
  intro H locs hw
  refine Exists.elim (show ∃ V : va_W, V = ([(q71, .inl (G.2 0, 6, .inl (fun _ => 0)))] ++ VM70) from ⟨_, rfl⟩) fun VM72 eVM72 => ?_
  replace hw : zz_w G A s ([(h0, .inr (10, [.int 0, .ref q1, .int 0, .ref q3, .int 0, .ref q5, .ref q7, .ref q9, .ref q11, .ref q13, .int 0, .int 0, .int 0, .int 0, .int 0, .int 0, .int 0, .int (-1), .int 0, .int 0, .int 0, .ref q15, .ref q17, .ref q19, .ref q21, .ref q23, .ref q25, .ref q27, .ref q29, .ref q31, .ref q33, .ref q35, .ref q37, .ref q39, .int 0, .ref q41, .ref q43, .ref q45, .ref q47, .ref q49, .int 0, .ref q51, .ref q53, .ref q55, .int 0, .ref q57, .ref q59, .int 0, .ref q61, .ref q63, .int 0, .int 0, .ref q65, .ref q67, .ref q69, .ref q71, .int 0, .null, .null, .null, .null, .int 0, .null, .null, .null, .null, .null]))] ++ VM72) H locs := by rw [eVM72]; exact hw
  refine lv_aload_n hx hb dX10_init_307 rfl (lv_at hl 0 rfl) ?_
  refine lv_sipush (v := 2840) hx hb dX10_init_308 (by decide) ?_
  refine zz_newa (at_ := .int) (a0 := (2840, .inl (fun _ => 0))) 0 S hw zz_ar0 rfl rfl (fun _ _ h => h) (fun _ => rfl) (by decide) (nI_clamp (n := 2840) (by decide)) (by decide) (Nat.le_of_ble_eq_true rfl) (Nat.le_of_ble_eq_true rfl) dX10_init_311 ?_
  clear hw
  intro q73 H hw
  replace hw : zz_w G A s ([(h0, .inr (10, [.int 0, .ref q1, .int 0, .ref q3, .int 0, .ref q5, .ref q7, .ref q9, .ref q11, .ref q13, .int 0, .int 0, .int 0, .int 0, .int 0, .int 0, .int 0, .int (-1), .int 0, .int 0, .int 0, .ref q15, .ref q17, .ref q19, .ref q21, .ref q23, .ref q25, .ref q27, .ref q29, .ref q31, .ref q33, .ref q35, .ref q37, .ref q39, .int 0, .ref q41, .ref q43, .ref q45, .ref q47, .ref q49, .int 0, .ref q51, .ref q53, .ref q55, .int 0, .ref q57, .ref q59, .int 0, .ref q61, .ref q63, .int 0, .int 0, .ref q65, .ref q67, .ref q69, .ref q71, .int 0, .null, .null, .null, .null, .int 0, .null, .null, .null, .null, .null])), (q73, .inl (G.2 0, 2840, .inl (fun _ => 0)))] ++ VM72) H _ := zz_w.swap hw
  refine zz_putF (ws' := ([(h0, .inr (10, [.int 0, .ref q1, .int 0, .ref q3, .int 0, .ref q5, .ref q7, .ref q9, .ref q11, .ref q13, .int 0, .int 0, .int 0, .int 0, .int 0, .int 0, .int 0, .int (-1), .int 0, .int 0, .int 0, .ref q15, .ref q17, .ref q19, .ref q21, .ref q23, .ref q25, .ref q27, .ref q29, .ref q31, .ref q33, .ref q35, .ref q37, .ref q39, .int 0, .ref q41, .ref q43, .ref q45, .ref q47, .ref q49, .int 0, .ref q51, .ref q53, .ref q55, .int 0, .ref q57, .ref q59, .int 0, .ref q61, .ref q63, .int 0, .int 0, .ref q65, .ref q67, .ref q69, .ref q71, .int 0, .ref q73, .null, .null, .null, .int 0, .null, .null, .null, .null, .null])), (q73, .inl (G.2 0, 2840, .inl (fun _ => 0)))] ++ VM72)) (v := .ref q73) S hnm hw fpX10_128 0 rfl rfl rfl (Nat.le_of_ble_eq_true rfl) rfl dX10_init_313 ?_
  clear hw
  intro H locs hw
  refine Exists.elim (show ∃ V : va_W, V = ([(q73, .inl (G.2 0, 2840, .inl (fun _ => 0)))] ++ VM72) from ⟨_, rfl⟩) fun VM74 eVM74 => ?_
  replace hw : zz_w G A s ([(h0, .inr (10, [.int 0, .ref q1, .int 0, .ref q3, .int 0, .ref q5, .ref q7, .ref q9, .ref q11, .ref q13, .int 0, .int 0, .int 0, .int 0, .int 0, .int 0, .int 0, .int (-1), .int 0, .int 0, .int 0, .ref q15, .ref q17, .ref q19, .ref q21, .ref q23, .ref q25, .ref q27, .ref q29, .ref q31, .ref q33, .ref q35, .ref q37, .ref q39, .int 0, .ref q41, .ref q43, .ref q45, .ref q47, .ref q49, .int 0, .ref q51, .ref q53, .ref q55, .int 0, .ref q57, .ref q59, .int 0, .ref q61, .ref q63, .int 0, .int 0, .ref q65, .ref q67, .ref q69, .ref q71, .int 0, .ref q73, .null, .null, .null, .int 0, .null, .null, .null, .null, .null]))] ++ VM74) H locs := by rw [eVM74]; exact hw
  refine lv_aload_n hx hb dX10_init_316 rfl (lv_at hl 0 rfl) ?_
  refine W.eq (g2 := F0 m 317 ls [.ref h0]) rfl ?_
  refine lv_bipush (v := 42) hx hb dX10_init_317 (by decide) ?_
  refine zz_newa (at_ := .int) (a0 := (42, .inl (fun _ => 0))) 0 S hw zz_ar0 rfl rfl (fun _ _ h => h) (fun _ => rfl) (by decide) (nI_clamp (n := 42) (by decide)) (by decide) (Nat.le_of_ble_eq_true rfl) (Nat.le_of_ble_eq_true rfl) dX10_init_319 ?_
  clear hw
  intro q75 H hw
  replace hw : zz_w G A s ([(h0, .inr (10, [.int 0, .ref q1, .int 0, .ref q3, .int 0, .ref q5, .ref q7, .ref q9, .ref q11, .ref q13, .int 0, .int 0, .int 0, .int 0, .int 0, .int 0, .int 0, .int (-1), .int 0, .int 0, .int 0, .ref q15, .ref q17, .ref q19, .ref q21, .ref q23, .ref q25, .ref q27, .ref q29, .ref q31, .ref q33, .ref q35, .ref q37, .ref q39, .int 0, .ref q41, .ref q43, .ref q45, .ref q47, .ref q49, .int 0, .ref q51, .ref q53, .ref q55, .int 0, .ref q57, .ref q59, .int 0, .ref q61, .ref q63, .int 0, .int 0, .ref q65, .ref q67, .ref q69, .ref q71, .int 0, .ref q73, .null, .null, .null, .int 0, .null, .null, .null, .null, .null])), (q75, .inl (G.2 0, 42, .inl (fun _ => 0)))] ++ VM74) H _ := zz_w.swap hw
  refine zz_putF (ws' := ([(h0, .inr (10, [.int 0, .ref q1, .int 0, .ref q3, .int 0, .ref q5, .ref q7, .ref q9, .ref q11, .ref q13, .int 0, .int 0, .int 0, .int 0, .int 0, .int 0, .int 0, .int (-1), .int 0, .int 0, .int 0, .ref q15, .ref q17, .ref q19, .ref q21, .ref q23, .ref q25, .ref q27, .ref q29, .ref q31, .ref q33, .ref q35, .ref q37, .ref q39, .int 0, .ref q41, .ref q43, .ref q45, .ref q47, .ref q49, .int 0, .ref q51, .ref q53, .ref q55, .int 0, .ref q57, .ref q59, .int 0, .ref q61, .ref q63, .int 0, .int 0, .ref q65, .ref q67, .ref q69, .ref q71, .int 0, .ref q73, .ref q75, .null, .null, .int 0, .null, .null, .null, .null, .null])), (q75, .inl (G.2 0, 42, .inl (fun _ => 0)))] ++ VM74)) (v := .ref q75) S hnm hw fpX10_131 0 rfl rfl rfl (Nat.le_of_ble_eq_true rfl) rfl dX10_init_321 ?_
  clear hw
  intro H locs hw
  refine Exists.elim (show ∃ V : va_W, V = ([(q75, .inl (G.2 0, 42, .inl (fun _ => 0)))] ++ VM74) from ⟨_, rfl⟩) fun VM76 eVM76 => ?_
  replace hw : zz_w G A s ([(h0, .inr (10, [.int 0, .ref q1, .int 0, .ref q3, .int 0, .ref q5, .ref q7, .ref q9, .ref q11, .ref q13, .int 0, .int 0, .int 0, .int 0, .int 0, .int 0, .int 0, .int (-1), .int 0, .int 0, .int 0, .ref q15, .ref q17, .ref q19, .ref q21, .ref q23, .ref q25, .ref q27, .ref q29, .ref q31, .ref q33, .ref q35, .ref q37, .ref q39, .int 0, .ref q41, .ref q43, .ref q45, .ref q47, .ref q49, .int 0, .ref q51, .ref q53, .ref q55, .int 0, .ref q57, .ref q59, .int 0, .ref q61, .ref q63, .int 0, .int 0, .ref q65, .ref q67, .ref q69, .ref q71, .int 0, .ref q73, .ref q75, .null, .null, .int 0, .null, .null, .null, .null, .null]))] ++ VM76) H locs := by rw [eVM76]; exact hw
  refine lv_aload_n hx hb dX10_init_324 rfl (lv_at hl 0 rfl) ?_
  refine lv_sipush (v := 896) hx hb dX10_init_325 (by decide) ?_
  refine zz_newa (at_ := .int) (a0 := (896, .inl (fun _ => 0))) 0 S hw zz_ar0 rfl rfl (fun _ _ h => h) (fun _ => rfl) (by decide) (nI_clamp (n := 896) (by decide)) (by decide) (Nat.le_of_ble_eq_true rfl) (Nat.le_of_ble_eq_true rfl) dX10_init_328 ?_
  clear hw
  intro q77 H hw
  replace hw : zz_w G A s ([(h0, .inr (10, [.int 0, .ref q1, .int 0, .ref q3, .int 0, .ref q5, .ref q7, .ref q9, .ref q11, .ref q13, .int 0, .int 0, .int 0, .int 0, .int 0, .int 0, .int 0, .int (-1), .int 0, .int 0, .int 0, .ref q15, .ref q17, .ref q19, .ref q21, .ref q23, .ref q25, .ref q27, .ref q29, .ref q31, .ref q33, .ref q35, .ref q37, .ref q39, .int 0, .ref q41, .ref q43, .ref q45, .ref q47, .ref q49, .int 0, .ref q51, .ref q53, .ref q55, .int 0, .ref q57, .ref q59, .int 0, .ref q61, .ref q63, .int 0, .int 0, .ref q65, .ref q67, .ref q69, .ref q71, .int 0, .ref q73, .ref q75, .null, .null, .int 0, .null, .null, .null, .null, .null])), (q77, .inl (G.2 0, 896, .inl (fun _ => 0)))] ++ VM76) H _ := zz_w.swap hw
  refine zz_putF (ws' := ([(h0, .inr (10, [.int 0, .ref q1, .int 0, .ref q3, .int 0, .ref q5, .ref q7, .ref q9, .ref q11, .ref q13, .int 0, .int 0, .int 0, .int 0, .int 0, .int 0, .int 0, .int (-1), .int 0, .int 0, .int 0, .ref q15, .ref q17, .ref q19, .ref q21, .ref q23, .ref q25, .ref q27, .ref q29, .ref q31, .ref q33, .ref q35, .ref q37, .ref q39, .int 0, .ref q41, .ref q43, .ref q45, .ref q47, .ref q49, .int 0, .ref q51, .ref q53, .ref q55, .int 0, .ref q57, .ref q59, .int 0, .ref q61, .ref q63, .int 0, .int 0, .ref q65, .ref q67, .ref q69, .ref q71, .int 0, .ref q73, .ref q75, .ref q77, .null, .int 0, .null, .null, .null, .null, .null])), (q77, .inl (G.2 0, 896, .inl (fun _ => 0)))] ++ VM76)) (v := .ref q77) S hnm hw fpX10_134 0 rfl rfl rfl (Nat.le_of_ble_eq_true rfl) rfl dX10_init_330 ?_
  clear hw
  intro H locs hw
  refine Exists.elim (show ∃ V : va_W, V = ([(q77, .inl (G.2 0, 896, .inl (fun _ => 0)))] ++ VM76) from ⟨_, rfl⟩) fun VM78 eVM78 => ?_
  replace hw : zz_w G A s ([(h0, .inr (10, [.int 0, .ref q1, .int 0, .ref q3, .int 0, .ref q5, .ref q7, .ref q9, .ref q11, .ref q13, .int 0, .int 0, .int 0, .int 0, .int 0, .int 0, .int 0, .int (-1), .int 0, .int 0, .int 0, .ref q15, .ref q17, .ref q19, .ref q21, .ref q23, .ref q25, .ref q27, .ref q29, .ref q31, .ref q33, .ref q35, .ref q37, .ref q39, .int 0, .ref q41, .ref q43, .ref q45, .ref q47, .ref q49, .int 0, .ref q51, .ref q53, .ref q55, .int 0, .ref q57, .ref q59, .int 0, .ref q61, .ref q63, .int 0, .int 0, .ref q65, .ref q67, .ref q69, .ref q71, .int 0, .ref q73, .ref q75, .ref q77, .null, .int 0, .null, .null, .null, .null, .null]))] ++ VM78) H locs := by rw [eVM78]; exact hw
  refine lv_aload_n hx hb dX10_init_333 rfl (lv_at hl 0 rfl) ?_
  refine lv_bipush (v := 6) hx hb dX10_init_334 (by decide) ?_
  refine zz_newa (at_ := .int) (a0 := (6, .inl (fun _ => 0))) 0 S hw zz_ar0 rfl rfl (fun _ _ h => h) (fun _ => rfl) (by decide) (nI_clamp (n := 6) (by decide)) (by decide) (Nat.le_of_ble_eq_true rfl) (Nat.le_of_ble_eq_true rfl) dX10_init_336 ?_
  clear hw
  intro q79 H hw
  replace hw : zz_w G A s ([(h0, .inr (10, [.int 0, .ref q1, .int 0, .ref q3, .int 0, .ref q5, .ref q7, .ref q9, .ref q11, .ref q13, .int 0, .int 0, .int 0, .int 0, .int 0, .int 0, .int 0, .int (-1), .int 0, .int 0, .int 0, .ref q15, .ref q17, .ref q19, .ref q21, .ref q23, .ref q25, .ref q27, .ref q29, .ref q31, .ref q33, .ref q35, .ref q37, .ref q39, .int 0, .ref q41, .ref q43, .ref q45, .ref q47, .ref q49, .int 0, .ref q51, .ref q53, .ref q55, .int 0, .ref q57, .ref q59, .int 0, .ref q61, .ref q63, .int 0, .int 0, .ref q65, .ref q67, .ref q69, .ref q71, .int 0, .ref q73, .ref q75, .ref q77, .null, .int 0, .null, .null, .null, .null, .null])), (q79, .inl (G.2 0, 6, .inl (fun _ => 0)))] ++ VM78) H _ := zz_w.swap hw
  refine zz_putF (ws' := ([(h0, .inr (10, [.int 0, .ref q1, .int 0, .ref q3, .int 0, .ref q5, .ref q7, .ref q9, .ref q11, .ref q13, .int 0, .int 0, .int 0, .int 0, .int 0, .int 0, .int 0, .int (-1), .int 0, .int 0, .int 0, .ref q15, .ref q17, .ref q19, .ref q21, .ref q23, .ref q25, .ref q27, .ref q29, .ref q31, .ref q33, .ref q35, .ref q37, .ref q39, .int 0, .ref q41, .ref q43, .ref q45, .ref q47, .ref q49, .int 0, .ref q51, .ref q53, .ref q55, .int 0, .ref q57, .ref q59, .int 0, .ref q61, .ref q63, .int 0, .int 0, .ref q65, .ref q67, .ref q69, .ref q71, .int 0, .ref q73, .ref q75, .ref q77, .ref q79, .int 0, .null, .null, .null, .null, .null])), (q79, .inl (G.2 0, 6, .inl (fun _ => 0)))] ++ VM78)) (v := .ref q79) S hnm hw fpX10_137 0 rfl rfl rfl (Nat.le_of_ble_eq_true rfl) rfl dX10_init_338 ?_
  clear hw
  intro H locs hw
  refine Exists.elim (show ∃ V : va_W, V = ([(q79, .inl (G.2 0, 6, .inl (fun _ => 0)))] ++ VM78) from ⟨_, rfl⟩) fun VM80 eVM80 => ?_
  replace hw : zz_w G A s ([(h0, .inr (10, [.int 0, .ref q1, .int 0, .ref q3, .int 0, .ref q5, .ref q7, .ref q9, .ref q11, .ref q13, .int 0, .int 0, .int 0, .int 0, .int 0, .int 0, .int 0, .int (-1), .int 0, .int 0, .int 0, .ref q15, .ref q17, .ref q19, .ref q21, .ref q23, .ref q25, .ref q27, .ref q29, .ref q31, .ref q33, .ref q35, .ref q37, .ref q39, .int 0, .ref q41, .ref q43, .ref q45, .ref q47, .ref q49, .int 0, .ref q51, .ref q53, .ref q55, .int 0, .ref q57, .ref q59, .int 0, .ref q61, .ref q63, .int 0, .int 0, .ref q65, .ref q67, .ref q69, .ref q71, .int 0, .ref q73, .ref q75, .ref q77, .ref q79, .int 0, .null, .null, .null, .null, .null]))] ++ VM80) H locs := by rw [eVM80]; exact hw
  refine lv_aload_n hx hb dX10_init_341 rfl (lv_at hl 0 rfl) ?_
  refine lv_bipush (v := 20) hx hb dX10_init_342 (by decide) ?_
  refine zz_newa (at_ := .int) (a0 := (20, .inl (fun _ => 0))) 0 S hw zz_ar0 rfl rfl (fun _ _ h => h) (fun _ => rfl) (by decide) (nI_clamp (n := 20) (by decide)) (by decide) (Nat.le_of_ble_eq_true rfl) (Nat.le_of_ble_eq_true rfl) dX10_init_344 ?_
  clear hw
  intro q81 H hw
  replace hw : zz_w G A s ([(h0, .inr (10, [.int 0, .ref q1, .int 0, .ref q3, .int 0, .ref q5, .ref q7, .ref q9, .ref q11, .ref q13, .int 0, .int 0, .int 0, .int 0, .int 0, .int 0, .int 0, .int (-1), .int 0, .int 0, .int 0, .ref q15, .ref q17, .ref q19, .ref q21, .ref q23, .ref q25, .ref q27, .ref q29, .ref q31, .ref q33, .ref q35, .ref q37, .ref q39, .int 0, .ref q41, .ref q43, .ref q45, .ref q47, .ref q49, .int 0, .ref q51, .ref q53, .ref q55, .int 0, .ref q57, .ref q59, .int 0, .ref q61, .ref q63, .int 0, .int 0, .ref q65, .ref q67, .ref q69, .ref q71, .int 0, .ref q73, .ref q75, .ref q77, .ref q79, .int 0, .null, .null, .null, .null, .null])), (q81, .inl (G.2 0, 20, .inl (fun _ => 0)))] ++ VM80) H _ := zz_w.swap hw
  refine W.eq (g2 := F0 m 346 ls [.ref q81, .ref h0]) rfl ?_
  refine zz_putF (ws' := ([(h0, .inr (10, [.int 0, .ref q1, .int 0, .ref q3, .int 0, .ref q5, .ref q7, .ref q9, .ref q11, .ref q13, .int 0, .int 0, .int 0, .int 0, .int 0, .int 0, .int 0, .int (-1), .int 0, .int 0, .int 0, .ref q15, .ref q17, .ref q19, .ref q21, .ref q23, .ref q25, .ref q27, .ref q29, .ref q31, .ref q33, .ref q35, .ref q37, .ref q39, .int 0, .ref q41, .ref q43, .ref q45, .ref q47, .ref q49, .int 0, .ref q51, .ref q53, .ref q55, .int 0, .ref q57, .ref q59, .int 0, .ref q61, .ref q63, .int 0, .int 0, .ref q65, .ref q67, .ref q69, .ref q71, .int 0, .ref q73, .ref q75, .ref q77, .ref q79, .int 0, .ref q81, .null, .null, .null, .null])), (q81, .inl (G.2 0, 20, .inl (fun _ => 0)))] ++ VM80)) (v := .ref q81) S hnm hw fpX10_140 0 rfl rfl rfl (Nat.le_of_ble_eq_true rfl) rfl dX10_init_346 ?_
  clear hw
  intro H locs hw
  refine Exists.elim (show ∃ V : va_W, V = ([(q81, .inl (G.2 0, 20, .inl (fun _ => 0)))] ++ VM80) from ⟨_, rfl⟩) fun VM82 eVM82 => ?_
  replace hw : zz_w G A s ([(h0, .inr (10, [.int 0, .ref q1, .int 0, .ref q3, .int 0, .ref q5, .ref q7, .ref q9, .ref q11, .ref q13, .int 0, .int 0, .int 0, .int 0, .int 0, .int 0, .int 0, .int (-1), .int 0, .int 0, .int 0, .ref q15, .ref q17, .ref q19, .ref q21, .ref q23, .ref q25, .ref q27, .ref q29, .ref q31, .ref q33, .ref q35, .ref q37, .ref q39, .int 0, .ref q41, .ref q43, .ref q45, .ref q47, .ref q49, .int 0, .ref q51, .ref q53, .ref q55, .int 0, .ref q57, .ref q59, .int 0, .ref q61, .ref q63, .int 0, .int 0, .ref q65, .ref q67, .ref q69, .ref q71, .int 0, .ref q73, .ref q75, .ref q77, .ref q79, .int 0, .ref q81, .null, .null, .null, .null]))] ++ VM82) H locs := by rw [eVM82]; exact hw
  refine lv_aload_n hx hb dX10_init_349 rfl (lv_at hl 0 rfl) ?_
  refine lv_bipush (v := 20) hx hb dX10_init_350 (by decide) ?_
  refine zz_newa (at_ := .int) (a0 := (20, .inl (fun _ => 0))) 0 S hw zz_ar0 rfl rfl (fun _ _ h => h) (fun _ => rfl) (by decide) (nI_clamp (n := 20) (by decide)) (by decide) (Nat.le_of_ble_eq_true rfl) (Nat.le_of_ble_eq_true rfl) dX10_init_352 ?_
  clear hw
  intro q83 H hw
  replace hw : zz_w G A s ([(h0, .inr (10, [.int 0, .ref q1, .int 0, .ref q3, .int 0, .ref q5, .ref q7, .ref q9, .ref q11, .ref q13, .int 0, .int 0, .int 0, .int 0, .int 0, .int 0, .int 0, .int (-1), .int 0, .int 0, .int 0, .ref q15, .ref q17, .ref q19, .ref q21, .ref q23, .ref q25, .ref q27, .ref q29, .ref q31, .ref q33, .ref q35, .ref q37, .ref q39, .int 0, .ref q41, .ref q43, .ref q45, .ref q47, .ref q49, .int 0, .ref q51, .ref q53, .ref q55, .int 0, .ref q57, .ref q59, .int 0, .ref q61, .ref q63, .int 0, .int 0, .ref q65, .ref q67, .ref q69, .ref q71, .int 0, .ref q73, .ref q75, .ref q77, .ref q79, .int 0, .ref q81, .null, .null, .null, .null])), (q83, .inl (G.2 0, 20, .inl (fun _ => 0)))] ++ VM82) H _ := zz_w.swap hw
  refine zz_putF (ws' := ([(h0, .inr (10, [.int 0, .ref q1, .int 0, .ref q3, .int 0, .ref q5, .ref q7, .ref q9, .ref q11, .ref q13, .int 0, .int 0, .int 0, .int 0, .int 0, .int 0, .int 0, .int (-1), .int 0, .int 0, .int 0, .ref q15, .ref q17, .ref q19, .ref q21, .ref q23, .ref q25, .ref q27, .ref q29, .ref q31, .ref q33, .ref q35, .ref q37, .ref q39, .int 0, .ref q41, .ref q43, .ref q45, .ref q47, .ref q49, .int 0, .ref q51, .ref q53, .ref q55, .int 0, .ref q57, .ref q59, .int 0, .ref q61, .ref q63, .int 0, .int 0, .ref q65, .ref q67, .ref q69, .ref q71, .int 0, .ref q73, .ref q75, .ref q77, .ref q79, .int 0, .ref q81, .ref q83, .null, .null, .null])), (q83, .inl (G.2 0, 20, .inl (fun _ => 0)))] ++ VM82)) (v := .ref q83) S hnm hw fpX10_143 0 rfl rfl rfl (Nat.le_of_ble_eq_true rfl) rfl dX10_init_354 ?_
  clear hw
  intro H locs hw
  refine Exists.elim (show ∃ V : va_W, V = ([(q83, .inl (G.2 0, 20, .inl (fun _ => 0)))] ++ VM82) from ⟨_, rfl⟩) fun VM84 eVM84 => ?_
  replace hw : zz_w G A s ([(h0, .inr (10, [.int 0, .ref q1, .int 0, .ref q3, .int 0, .ref q5, .ref q7, .ref q9, .ref q11, .ref q13, .int 0, .int 0, .int 0, .int 0, .int 0, .int 0, .int 0, .int (-1), .int 0, .int 0, .int 0, .ref q15, .ref q17, .ref q19, .ref q21, .ref q23, .ref q25, .ref q27, .ref q29, .ref q31, .ref q33, .ref q35, .ref q37, .ref q39, .int 0, .ref q41, .ref q43, .ref q45, .ref q47, .ref q49, .int 0, .ref q51, .ref q53, .ref q55, .int 0, .ref q57, .ref q59, .int 0, .ref q61, .ref q63, .int 0, .int 0, .ref q65, .ref q67, .ref q69, .ref q71, .int 0, .ref q73, .ref q75, .ref q77, .ref q79, .int 0, .ref q81, .ref q83, .null, .null, .null]))] ++ VM84) H locs := by rw [eVM84]; exact hw
  refine lv_aload_n hx hb dX10_init_357 rfl (lv_at hl 0 rfl) ?_
  refine lv_bipush (v := 20) hx hb dX10_init_358 (by decide) ?_
  refine zz_newa (at_ := .boolean) (a0 := (20, .inl (fun _ => 0))) 2 S hw zz_ar2 rfl rfl (fun _ _ h => h) (fun _ => rfl) (by decide) (nI_clamp (n := 20) (by decide)) (by decide) (Nat.le_of_ble_eq_true rfl) (Nat.le_of_ble_eq_true rfl) dX10_init_360 ?_
  clear hw
  intro q85 H hw
  replace hw : zz_w G A s ([(h0, .inr (10, [.int 0, .ref q1, .int 0, .ref q3, .int 0, .ref q5, .ref q7, .ref q9, .ref q11, .ref q13, .int 0, .int 0, .int 0, .int 0, .int 0, .int 0, .int 0, .int (-1), .int 0, .int 0, .int 0, .ref q15, .ref q17, .ref q19, .ref q21, .ref q23, .ref q25, .ref q27, .ref q29, .ref q31, .ref q33, .ref q35, .ref q37, .ref q39, .int 0, .ref q41, .ref q43, .ref q45, .ref q47, .ref q49, .int 0, .ref q51, .ref q53, .ref q55, .int 0, .ref q57, .ref q59, .int 0, .ref q61, .ref q63, .int 0, .int 0, .ref q65, .ref q67, .ref q69, .ref q71, .int 0, .ref q73, .ref q75, .ref q77, .ref q79, .int 0, .ref q81, .ref q83, .null, .null, .null])), (q85, .inl (G.2 2, 20, .inl (fun _ => 0)))] ++ VM84) H _ := zz_w.swap hw
  refine zz_putF (ws' := ([(h0, .inr (10, [.int 0, .ref q1, .int 0, .ref q3, .int 0, .ref q5, .ref q7, .ref q9, .ref q11, .ref q13, .int 0, .int 0, .int 0, .int 0, .int 0, .int 0, .int 0, .int (-1), .int 0, .int 0, .int 0, .ref q15, .ref q17, .ref q19, .ref q21, .ref q23, .ref q25, .ref q27, .ref q29, .ref q31, .ref q33, .ref q35, .ref q37, .ref q39, .int 0, .ref q41, .ref q43, .ref q45, .ref q47, .ref q49, .int 0, .ref q51, .ref q53, .ref q55, .int 0, .ref q57, .ref q59, .int 0, .ref q61, .ref q63, .int 0, .int 0, .ref q65, .ref q67, .ref q69, .ref q71, .int 0, .ref q73, .ref q75, .ref q77, .ref q79, .int 0, .ref q81, .ref q83, .ref q85, .null, .null])), (q85, .inl (G.2 2, 20, .inl (fun _ => 0)))] ++ VM84)) (v := .ref q85) S hnm hw fpX10_146 0 rfl rfl rfl (Nat.le_of_ble_eq_true rfl) rfl dX10_init_362 ?_
  clear hw
  intro H locs hw
  refine Exists.elim (show ∃ V : va_W, V = ([(q85, .inl (G.2 2, 20, .inl (fun _ => 0)))] ++ VM84) from ⟨_, rfl⟩) fun VM86 eVM86 => ?_
  replace hw : zz_w G A s ([(h0, .inr (10, [.int 0, .ref q1, .int 0, .ref q3, .int 0, .ref q5, .ref q7, .ref q9, .ref q11, .ref q13, .int 0, .int 0, .int 0, .int 0, .int 0, .int 0, .int 0, .int (-1), .int 0, .int 0, .int 0, .ref q15, .ref q17, .ref q19, .ref q21, .ref q23, .ref q25, .ref q27, .ref q29, .ref q31, .ref q33, .ref q35, .ref q37, .ref q39, .int 0, .ref q41, .ref q43, .ref q45, .ref q47, .ref q49, .int 0, .ref q51, .ref q53, .ref q55, .int 0, .ref q57, .ref q59, .int 0, .ref q61, .ref q63, .int 0, .int 0, .ref q65, .ref q67, .ref q69, .ref q71, .int 0, .ref q73, .ref q75, .ref q77, .ref q79, .int 0, .ref q81, .ref q83, .ref q85, .null, .null]))] ++ VM86) H locs := by rw [eVM86]; exact hw
  refine lv_aload_n hx hb dX10_init_365 rfl (lv_at hl 0 rfl) ?_
  refine lv_iconst (v := 3) hx hb dX10_init_366 (by decide) ?_
  refine zz_newa (at_ := .boolean) (a0 := (3, .inl (fun _ => 0))) 2 S hw zz_ar2 rfl rfl (fun _ _ h => h) (fun _ => rfl) (by decide) (nI_clamp (n := 3) (by decide)) (by decide) (Nat.le_of_ble_eq_true rfl) (Nat.le_of_ble_eq_true rfl) dX10_init_367 ?_
  clear hw
  intro q87 H hw
  replace hw : zz_w G A s ([(h0, .inr (10, [.int 0, .ref q1, .int 0, .ref q3, .int 0, .ref q5, .ref q7, .ref q9, .ref q11, .ref q13, .int 0, .int 0, .int 0, .int 0, .int 0, .int 0, .int 0, .int (-1), .int 0, .int 0, .int 0, .ref q15, .ref q17, .ref q19, .ref q21, .ref q23, .ref q25, .ref q27, .ref q29, .ref q31, .ref q33, .ref q35, .ref q37, .ref q39, .int 0, .ref q41, .ref q43, .ref q45, .ref q47, .ref q49, .int 0, .ref q51, .ref q53, .ref q55, .int 0, .ref q57, .ref q59, .int 0, .ref q61, .ref q63, .int 0, .int 0, .ref q65, .ref q67, .ref q69, .ref q71, .int 0, .ref q73, .ref q75, .ref q77, .ref q79, .int 0, .ref q81, .ref q83, .ref q85, .null, .null])), (q87, .inl (G.2 2, 3, .inl (fun _ => 0)))] ++ VM86) H _ := zz_w.swap hw
  refine zz_putF (ws' := ([(h0, .inr (10, [.int 0, .ref q1, .int 0, .ref q3, .int 0, .ref q5, .ref q7, .ref q9, .ref q11, .ref q13, .int 0, .int 0, .int 0, .int 0, .int 0, .int 0, .int 0, .int (-1), .int 0, .int 0, .int 0, .ref q15, .ref q17, .ref q19, .ref q21, .ref q23, .ref q25, .ref q27, .ref q29, .ref q31, .ref q33, .ref q35, .ref q37, .ref q39, .int 0, .ref q41, .ref q43, .ref q45, .ref q47, .ref q49, .int 0, .ref q51, .ref q53, .ref q55, .int 0, .ref q57, .ref q59, .int 0, .ref q61, .ref q63, .int 0, .int 0, .ref q65, .ref q67, .ref q69, .ref q71, .int 0, .ref q73, .ref q75, .ref q77, .ref q79, .int 0, .ref q81, .ref q83, .ref q85, .ref q87, .null])), (q87, .inl (G.2 2, 3, .inl (fun _ => 0)))] ++ VM86)) (v := .ref q87) S hnm hw fpX10_149 0 rfl rfl rfl (Nat.le_of_ble_eq_true rfl) rfl dX10_init_369 ?_
  clear hw
  intro H locs hw
  refine Exists.elim (show ∃ V : va_W, V = ([(q87, .inl (G.2 2, 3, .inl (fun _ => 0)))] ++ VM86) from ⟨_, rfl⟩) fun VM88 eVM88 => ?_
  replace hw : zz_w G A s ([(h0, .inr (10, [.int 0, .ref q1, .int 0, .ref q3, .int 0, .ref q5, .ref q7, .ref q9, .ref q11, .ref q13, .int 0, .int 0, .int 0, .int 0, .int 0, .int 0, .int 0, .int (-1), .int 0, .int 0, .int 0, .ref q15, .ref q17, .ref q19, .ref q21, .ref q23, .ref q25, .ref q27, .ref q29, .ref q31, .ref q33, .ref q35, .ref q37, .ref q39, .int 0, .ref q41, .ref q43, .ref q45, .ref q47, .ref q49, .int 0, .ref q51, .ref q53, .ref q55, .int 0, .ref q57, .ref q59, .int 0, .ref q61, .ref q63, .int 0, .int 0, .ref q65, .ref q67, .ref q69, .ref q71, .int 0, .ref q73, .ref q75, .ref q77, .ref q79, .int 0, .ref q81, .ref q83, .ref q85, .ref q87, .null]))] ++ VM88) H locs := by rw [eVM88]; exact hw
  refine lv_aload_n hx hb dX10_init_372 rfl (lv_at hl 0 rfl) ?_
  refine W.eq (g2 := F0 m 373 ls [.ref h0]) rfl ?_
  refine lv_sipush (v := 213) hx hb dX10_init_373 (by decide) ?_
  refine zz_newa (at_ := .int) (a0 := (213, .inl (fun _ => 0))) 0 S hw zz_ar0 rfl rfl (fun _ _ h => h) (fun _ => rfl) (by decide) (nI_clamp (n := 213) (by decide)) (by decide) (Nat.le_of_ble_eq_true rfl) (Nat.le_of_ble_eq_true rfl) dX10_init_376 ?_
  clear hw
  intro q89 H hw
  replace hw : zz_w G A s ([(h0, .inr (10, [.int 0, .ref q1, .int 0, .ref q3, .int 0, .ref q5, .ref q7, .ref q9, .ref q11, .ref q13, .int 0, .int 0, .int 0, .int 0, .int 0, .int 0, .int 0, .int (-1), .int 0, .int 0, .int 0, .ref q15, .ref q17, .ref q19, .ref q21, .ref q23, .ref q25, .ref q27, .ref q29, .ref q31, .ref q33, .ref q35, .ref q37, .ref q39, .int 0, .ref q41, .ref q43, .ref q45, .ref q47, .ref q49, .int 0, .ref q51, .ref q53, .ref q55, .int 0, .ref q57, .ref q59, .int 0, .ref q61, .ref q63, .int 0, .int 0, .ref q65, .ref q67, .ref q69, .ref q71, .int 0, .ref q73, .ref q75, .ref q77, .ref q79, .int 0, .ref q81, .ref q83, .ref q85, .ref q87, .null])), (q89, .inl (G.2 0, 213, .inl (fun _ => 0)))] ++ VM88) H _ := zz_w.swap hw
  refine zz_putF (ws' := ([(h0, .inr (10, [.int 0, .ref q1, .int 0, .ref q3, .int 0, .ref q5, .ref q7, .ref q9, .ref q11, .ref q13, .int 0, .int 0, .int 0, .int 0, .int 0, .int 0, .int 0, .int (-1), .int 0, .int 0, .int 0, .ref q15, .ref q17, .ref q19, .ref q21, .ref q23, .ref q25, .ref q27, .ref q29, .ref q31, .ref q33, .ref q35, .ref q37, .ref q39, .int 0, .ref q41, .ref q43, .ref q45, .ref q47, .ref q49, .int 0, .ref q51, .ref q53, .ref q55, .int 0, .ref q57, .ref q59, .int 0, .ref q61, .ref q63, .int 0, .int 0, .ref q65, .ref q67, .ref q69, .ref q71, .int 0, .ref q73, .ref q75, .ref q77, .ref q79, .int 0, .ref q81, .ref q83, .ref q85, .ref q87, .ref q89])), (q89, .inl (G.2 0, 213, .inl (fun _ => 0)))] ++ VM88)) (v := .ref q89) S hnm hw fpX10_152 0 rfl rfl rfl (Nat.le_of_ble_eq_true rfl) rfl dX10_init_378 ?_
  clear hw
  intro H locs hw
  rw [eVM88, eVM86, eVM84, eVM82, eVM80, eVM78, eVM76, eVM74, eVM72, eVM70, eVM68, eVM66, eVM64, eVM62, eVM60, eVM58, eVM56, eVM54, eVM52, eVM50, eVM48, eVM46, eVM44, eVM42, eVM40, eVM38, eVM36, eVM34, eVM32, eVM30, eVM28, eVM26, eVM24, eVM22, eVM20, eVM18, eVM16, eVM14, eVM12, eVM10, eVM8, eVM6, eVM4, eVM2] at hw
  replace hw : zz_w G A s [(h0, .inr (10, [.int 0, .ref q1, .int 0, .ref q3, .int 0, .ref q5, .ref q7, .ref q9, .ref q11, .ref q13, .int 0, .int 0, .int 0, .int 0, .int 0, .int 0, .int 0, .int (-1), .int 0, .int 0, .int 0, .ref q15, .ref q17, .ref q19, .ref q21, .ref q23, .ref q25, .ref q27, .ref q29, .ref q31, .ref q33, .ref q35, .ref q37, .ref q39, .int 0, .ref q41, .ref q43, .ref q45, .ref q47, .ref q49, .int 0, .ref q51, .ref q53, .ref q55, .int 0, .ref q57, .ref q59, .int 0, .ref q61, .ref q63, .int 0, .int 0, .ref q65, .ref q67, .ref q69, .ref q71, .int 0, .ref q73, .ref q75, .ref q77, .ref q79, .int 0, .ref q81, .ref q83, .ref q85, .ref q87, .ref q89])), (q89, .inl (G.2 0, 213, .inl (fun _ => 0))), (q87, .inl (G.2 2, 3, .inl (fun _ => 0))), (q85, .inl (G.2 2, 20, .inl (fun _ => 0))), (q83, .inl (G.2 0, 20, .inl (fun _ => 0))), (q81, .inl (G.2 0, 20, .inl (fun _ => 0))), (q79, .inl (G.2 0, 6, .inl (fun _ => 0))), (q77, .inl (G.2 0, 896, .inl (fun _ => 0))), (q75, .inl (G.2 0, 42, .inl (fun _ => 0))), (q73, .inl (G.2 0, 2840, .inl (fun _ => 0))), (q71, .inl (G.2 0, 6, .inl (fun _ => 0))), (q69, .inl (G.2 2, 6, .inl (fun _ => 0))), (q67, .inl (G.2 2, 6, .inl (fun _ => 0))), (q65, .inl (G.2 0, 6, .inl (fun _ => 0))), (q63, .inl (G.2 0, 71, .inl (fun _ => 0))), (q61, .inl (G.2 0, 71, .inl (fun _ => 0))), (q59, .inl (G.2 0, 400, .inl (fun _ => 0))), (q57, .inl (G.2 0, 9, .inl (fun _ => 0))), (q55, .inl (G.2 0, 64, .inl (fun _ => 0))), (q53, .inl (G.2 0, 840, .inl (fun _ => 0))), (q51, .inl (G.2 0, 840, .inl (fun _ => 0))), (q49, .inl (G.2 0, 260, .inl (fun _ => 0))), (q47, .inl (G.2 0, 260, .inl (fun _ => 0))), (q45, .inl (G.2 0, 260, .inl (fun _ => 0))), (q43, .inl (G.2 0, 260, .inl (fun _ => 0))), (q41, .inl (G.2 2, 260, .inl (fun _ => 0))), (q39, .inl (G.2 0, 8, .inl (fun _ => 0))), (q37, .inl (G.2 0, 8, .inl (fun _ => 0))), (q35, .inl (G.2 0, 2, .inl (fun _ => 0))), (q33, .inl (G.2 0, 2, .inl (fun _ => 0))), (q31, .inl (G.2 0, 12, .inl (fun _ => 0))), (q29, .inl (G.2 0, 12, .inl (fun _ => 0))), (q27, .inl (G.2 0, 12, .inl (fun _ => 0))), (q25, .inl (G.2 0, 2, .inl (fun _ => 0))), (q23, .inl (G.2 0, 14, .inl (fun _ => 0))), (q21, .inl (G.2 0, 14, .inl (fun _ => 0))), (q19, .inl (G.2 0, 14, .inl (fun _ => 0))), (q17, .inl (G.2 0, 2, .inl (fun _ => 0))), (q15, .inl (G.2 3, 13, .inr (.inl (fun _ => 0)))), (q13, .inl (G.2 3, 20, .inr (.inl (fun _ => 0)))), (q11, .inl (G.2 3, 403, .inr (.inl (fun _ => 0)))), (q9, .inl (G.2 0, 403, .inl (fun _ => 0))), (q7, .inl (G.2 0, 403, .inl (fun _ => 0))), (q5, .inl (G.2 0, 403, .inl (fun _ => 0))), (q3, .inl (G.2 1, 2000, .inl (fun _ => 0))), (q1, .inl (G.2 1, 2000, .inl (fun _ => 0)))] H locs := hw
  obtain ⟨r, hr⟩ : ∃ r : Nat → Nat, r = (fun (kk9 : Nat) => cond (Nat.ble kk9 36) (cond (Nat.ble kk9 23) (cond (Nat.ble kk9 6) (cond (Nat.ble kk9 1) (cond (Nat.ble kk9 0) (h0) (q1)) (cond (Nat.ble kk9 3) (q3) (cond (Nat.ble kk9 5) (q5) (q7)))) (cond (Nat.ble kk9 9) (cond (Nat.ble kk9 7) (q9) (cond (Nat.ble kk9 8) (q11) (q13))) (cond (Nat.ble kk9 21) (q15) (cond (Nat.ble kk9 22) (q17) (q19))))) (cond (Nat.ble kk9 29) (cond (Nat.ble kk9 26) (cond (Nat.ble kk9 24) (q21) (cond (Nat.ble kk9 25) (q23) (q25))) (cond (Nat.ble kk9 27) (q27) (cond (Nat.ble kk9 28) (q29) (q31)))) (cond (Nat.ble kk9 32) (cond (Nat.ble kk9 30) (q33) (cond (Nat.ble kk9 31) (q35) (q37))) (cond (Nat.ble kk9 33) (q39) (cond (Nat.ble kk9 35) (q41) (q43)))))) (cond (Nat.ble kk9 52) (cond (Nat.ble kk9 42) (cond (Nat.ble kk9 38) (cond (Nat.ble kk9 37) (q45) (q47)) (cond (Nat.ble kk9 39) (q49) (cond (Nat.ble kk9 41) (q51) (q53)))) (cond (Nat.ble kk9 46) (cond (Nat.ble kk9 43) (q55) (cond (Nat.ble kk9 45) (q57) (q59))) (cond (Nat.ble kk9 48) (q61) (cond (Nat.ble kk9 49) (q63) (q65))))) (cond (Nat.ble kk9 59) (cond (Nat.ble kk9 55) (cond (Nat.ble kk9 53) (q67) (cond (Nat.ble kk9 54) (q69) (q71))) (cond (Nat.ble kk9 57) (q73) (cond (Nat.ble kk9 58) (q75) (q77)))) (cond (Nat.ble kk9 63) (cond (Nat.ble kk9 60) (q79) (cond (Nat.ble kk9 62) (q81) (q83))) (cond (Nat.ble kk9 64) (q85) (cond (Nat.ble kk9 65) (q87) (q89))))))) := ⟨_, rfl⟩
  have e0 : r 0 = h0 := by rw [hr] <;> rfl
  replace hw : zz_w G A s [((r 0), .inr (10, (zz_mo r []))), ((r 66), .inl (G.2 0, 213, .inl (fun _ => 0))), ((r 65), .inl (G.2 2, 3, .inl (fun _ => 0))), ((r 64), .inl (G.2 2, 20, .inl (fun _ => 0))), ((r 63), .inl (G.2 0, 20, .inl (fun _ => 0))), ((r 62), .inl (G.2 0, 20, .inl (fun _ => 0))), ((r 60), .inl (G.2 0, 6, .inl (fun _ => 0))), ((r 59), .inl (G.2 0, 896, .inl (fun _ => 0))), ((r 58), .inl (G.2 0, 42, .inl (fun _ => 0))), ((r 57), .inl (G.2 0, 2840, .inl (fun _ => 0))), ((r 55), .inl (G.2 0, 6, .inl (fun _ => 0))), ((r 54), .inl (G.2 2, 6, .inl (fun _ => 0))), ((r 53), .inl (G.2 2, 6, .inl (fun _ => 0))), ((r 52), .inl (G.2 0, 6, .inl (fun _ => 0))), ((r 49), .inl (G.2 0, 71, .inl (fun _ => 0))), ((r 48), .inl (G.2 0, 71, .inl (fun _ => 0))), ((r 46), .inl (G.2 0, 400, .inl (fun _ => 0))), ((r 45), .inl (G.2 0, 9, .inl (fun _ => 0))), ((r 43), .inl (G.2 0, 64, .inl (fun _ => 0))), ((r 42), .inl (G.2 0, 840, .inl (fun _ => 0))), ((r 41), .inl (G.2 0, 840, .inl (fun _ => 0))), ((r 39), .inl (G.2 0, 260, .inl (fun _ => 0))), ((r 38), .inl (G.2 0, 260, .inl (fun _ => 0))), ((r 37), .inl (G.2 0, 260, .inl (fun _ => 0))), ((r 36), .inl (G.2 0, 260, .inl (fun _ => 0))), ((r 35), .inl (G.2 2, 260, .inl (fun _ => 0))), ((r 33), .inl (G.2 0, 8, .inl (fun _ => 0))), ((r 32), .inl (G.2 0, 8, .inl (fun _ => 0))), ((r 31), .inl (G.2 0, 2, .inl (fun _ => 0))), ((r 30), .inl (G.2 0, 2, .inl (fun _ => 0))), ((r 29), .inl (G.2 0, 12, .inl (fun _ => 0))), ((r 28), .inl (G.2 0, 12, .inl (fun _ => 0))), ((r 27), .inl (G.2 0, 12, .inl (fun _ => 0))), ((r 26), .inl (G.2 0, 2, .inl (fun _ => 0))), ((r 25), .inl (G.2 0, 14, .inl (fun _ => 0))), ((r 24), .inl (G.2 0, 14, .inl (fun _ => 0))), ((r 23), .inl (G.2 0, 14, .inl (fun _ => 0))), ((r 22), .inl (G.2 0, 2, .inl (fun _ => 0))), ((r 21), .inl (G.2 3, 13, .inr (.inl (fun _ => 0)))), ((r 9), .inl (G.2 3, 20, .inr (.inl (fun _ => 0)))), ((r 8), .inl (G.2 3, 403, .inr (.inl (fun _ => 0)))), ((r 7), .inl (G.2 0, 403, .inl (fun _ => 0))), ((r 6), .inl (G.2 0, 403, .inl (fun _ => 0))), ((r 5), .inl (G.2 0, 403, .inl (fun _ => 0))), ((r 3), .inl (G.2 1, 2000, .inl (fun _ => 0))), ((r 1), .inl (G.2 1, 2000, .inl (fun _ => 0)))] H locs := by rw [hr]; exact hw.sub [0, 1, 2, 3, 4, 5, 6, 7, 8, 9, 10, 11, 12, 13, 14, 15, 16, 17, 18, 19, 20, 21, 22, 23, 24, 25, 26, 27, 28, 29, 30, 31, 32, 33, 34, 35, 36, 37, 38, 39, 40, 41, 42, 43, 44, 45] (by decide +kernel) rfl
  have hl : lv_has ls 1 [(0, .ref (r 0))] := by rw [e0]; exact hl
  refine lv_aload_n hx hb dX10_init_381 rfl (lv_at hl 0 rfl) ?_
  refine lv_iconst (v := 0) hx hb dX10_init_382 (by decide) ?_
  refine zz_callV (qb := 0) (As := [.int 0]) (rest := []) (wr := [((r 66), .inl (G.2 0, 213, .inl (fun _ => 0))), ((r 65), .inl (G.2 2, 3, .inl (fun _ => 0))), ((r 64), .inl (G.2 2, 20, .inl (fun _ => 0))), ((r 63), .inl (G.2 0, 20, .inl (fun _ => 0))), ((r 62), .inl (G.2 0, 20, .inl (fun _ => 0))), ((r 60), .inl (G.2 0, 6, .inl (fun _ => 0))), ((r 59), .inl (G.2 0, 896, .inl (fun _ => 0))), ((r 58), .inl (G.2 0, 42, .inl (fun _ => 0))), ((r 57), .inl (G.2 0, 2840, .inl (fun _ => 0))), ((r 55), .inl (G.2 0, 6, .inl (fun _ => 0))), ((r 54), .inl (G.2 2, 6, .inl (fun _ => 0))), ((r 53), .inl (G.2 2, 6, .inl (fun _ => 0))), ((r 52), .inl (G.2 0, 6, .inl (fun _ => 0))), ((r 49), .inl (G.2 0, 71, .inl (fun _ => 0))), ((r 48), .inl (G.2 0, 71, .inl (fun _ => 0))), ((r 46), .inl (G.2 0, 400, .inl (fun _ => 0))), ((r 45), .inl (G.2 0, 9, .inl (fun _ => 0))), ((r 43), .inl (G.2 0, 64, .inl (fun _ => 0))), ((r 42), .inl (G.2 0, 840, .inl (fun _ => 0))), ((r 41), .inl (G.2 0, 840, .inl (fun _ => 0))), ((r 39), .inl (G.2 0, 260, .inl (fun _ => 0))), ((r 38), .inl (G.2 0, 260, .inl (fun _ => 0))), ((r 37), .inl (G.2 0, 260, .inl (fun _ => 0))), ((r 36), .inl (G.2 0, 260, .inl (fun _ => 0))), ((r 35), .inl (G.2 2, 260, .inl (fun _ => 0))), ((r 29), .inl (G.2 0, 12, .inl (fun _ => 0))), ((r 28), .inl (G.2 0, 12, .inl (fun _ => 0))), ((r 27), .inl (G.2 0, 12, .inl (fun _ => 0))), ((r 25), .inl (G.2 0, 14, .inl (fun _ => 0))), ((r 24), .inl (G.2 0, 14, .inl (fun _ => 0))), ((r 23), .inl (G.2 0, 14, .inl (fun _ => 0))), ((r 21), .inl (G.2 3, 13, .inr (.inl (fun _ => 0)))), ((r 9), .inl (G.2 3, 20, .inr (.inl (fun _ => 0)))), ((r 8), .inl (G.2 3, 403, .inr (.inl (fun _ => 0)))), ((r 7), .inl (G.2 0, 403, .inl (fun _ => 0))), ((r 6), .inl (G.2 0, 403, .inl (fun _ => 0))), ((r 5), .inl (G.2 0, 403, .inl (fun _ => 0))), ((r 3), .inl (G.2 1, 2000, .inl (fun _ => 0))), ((r 1), .inl (G.2 1, 2000, .inl (fun _ => 0)))]) S hw hl.1 lX10_155 (c_x_plain l G r 0 0 0 0 0 0 0 0 0 0 (-1) 0 0 0 0 0 0 0 0 0 0 0 (fun _ => 0) (fun _ => 0) (fun _ => 0) (fun _ => 0) (fun _ => 0) (fun _ => 0) 0 (by decide)) ⟨Nat.le_of_ble_eq_true rfl, Nat.le_of_ble_eq_true rfl⟩ ⟨Nat.le_of_ble_eq_true rfl, Nat.le_of_ble_eq_true rfl⟩ [0, 37, 33, 29, 28, 27, 26] [1, 2, 3, 4, 5, 6, 7, 8, 9, 10, 11, 12, 13, 14, 15, 16, 17, 18, 19, 20, 21, 22, 23, 24, 25, 30, 31, 32, 34, 35, 36, 38, 39, 40, 41, 42, 43, 44, 45] (by decide +kernel) rfl rfl (by decide +kernel) (by decide +kernel) rfl rfl rfl rfl (Nat.le_of_ble_eq_true rfl) dX10_init_383 ?_
  clear hw
  intro rr u H locs hp hw
  refine hp.elim fun d22_90 zg0 => zg0.elim fun d26_91 zg1 => zg1.elim fun d30_92 zg2 => zg2.elim fun d31_93 zg3 => zg3.elim fun d32_94 zg4 => zg4.elim fun d33_95 zg5 => zg5.elim fun zee1 zg6 => zg6.elim fun zee2 zg7 => zg7.elim fun hq383_0 zg8 => zg8.elim fun hq383_1 zg9 => zg9.elim fun hq383_2 zg10 => zg10.elim fun hq383_3 zg11 => zg11.elim fun hq383_4 hq383_5 => ?_
  clear hp zg0 zg1 zg2 zg3 zg4 zg5 zg6 zg7 zg8 zg9 zg10 zg11
  subst zee1
  subst zee2
  replace hw : zz_w G A s [((r 66), .inl (G.2 0, 213, .inl (fun _ => 0))), ((r 65), .inl (G.2 2, 3, .inl (fun _ => 0))), ((r 64), .inl (G.2 2, 20, .inl (fun _ => 0))), ((r 63), .inl (G.2 0, 20, .inl (fun _ => 0))), ((r 62), .inl (G.2 0, 20, .inl (fun _ => 0))), ((r 60), .inl (G.2 0, 6, .inl (fun _ => 0))), ((r 59), .inl (G.2 0, 896, .inl (fun _ => 0))), ((r 58), .inl (G.2 0, 42, .inl (fun _ => 0))), ((r 57), .inl (G.2 0, 2840, .inl (fun _ => 0))), ((r 55), .inl (G.2 0, 6, .inl (fun _ => 0))), ((r 54), .inl (G.2 2, 6, .inl (fun _ => 0))), ((r 53), .inl (G.2 2, 6, .inl (fun _ => 0))), ((r 52), .inl (G.2 0, 6, .inl (fun _ => 0))), ((r 49), .inl (G.2 0, 71, .inl (fun _ => 0))), ((r 48), .inl (G.2 0, 71, .inl (fun _ => 0))), ((r 46), .inl (G.2 0, 400, .inl (fun _ => 0))), ((r 45), .inl (G.2 0, 9, .inl (fun _ => 0))), ((r 43), .inl (G.2 0, 64, .inl (fun _ => 0))), ((r 42), .inl (G.2 0, 840, .inl (fun _ => 0))), ((r 41), .inl (G.2 0, 840, .inl (fun _ => 0))), ((r 39), .inl (G.2 0, 260, .inl (fun _ => 0))), ((r 38), .inl (G.2 0, 260, .inl (fun _ => 0))), ((r 37), .inl (G.2 0, 260, .inl (fun _ => 0))), ((r 36), .inl (G.2 0, 260, .inl (fun _ => 0))), ((r 35), .inl (G.2 2, 260, .inl (fun _ => 0))), ((r 29), .inl (G.2 0, 12, .inl (fun _ => 0))), ((r 28), .inl (G.2 0, 12, .inl (fun _ => 0))), ((r 27), .inl (G.2 0, 12, .inl (fun _ => 0))), ((r 25), .inl (G.2 0, 14, .inl (fun _ => 0))), ((r 24), .inl (G.2 0, 14, .inl (fun _ => 0))), ((r 23), .inl (G.2 0, 14, .inl (fun _ => 0))), ((r 21), .inl (G.2 3, 13, .inr (.inl (fun _ => 0)))), ((r 9), .inl (G.2 3, 20, .inr (.inl (fun _ => 0)))), ((r 8), .inl (G.2 3, 403, .inr (.inl (fun _ => 0)))), ((r 7), .inl (G.2 0, 403, .inl (fun _ => 0))), ((r 6), .inl (G.2 0, 403, .inl (fun _ => 0))), ((r 5), .inl (G.2 0, 403, .inl (fun _ => 0))), ((r 3), .inl (G.2 1, 2000, .inl (fun _ => 0))), ((r 1), .inl (G.2 1, 2000, .inl (fun _ => 0))), ((r 0), .inr (10, (zz_mo r []))), ((r 22), .inl (G.2 0, 2, .inl d22_90)), ((r 26), .inl (G.2 0, 2, .inl d26_91)), ((r 30), .inl (G.2 0, 2, .inl d30_92)), ((r 31), .inl (G.2 0, 2, .inl d31_93)), ((r 32), .inl (G.2 0, 8, .inl d32_94)), ((r 33), .inl (G.2 0, 8, .inl d33_95))] H _ := hw
  refine W.eq (g2 := F0 m 386 ls []) rfl ?_
  refine lv_aload_n hx hb dX10_init_386 rfl (lv_at hl 0 rfl) ?_
  refine lv_iconst (v := 1) hx hb dX10_init_387 (by decide) ?_
  refine zz_callV (qb := 39) (As := [.int 1]) (rest := []) (wr := [((r 66), .inl (G.2 0, 213, .inl (fun _ => 0))), ((r 65), .inl (G.2 2, 3, .inl (fun _ => 0))), ((r 64), .inl (G.2 2, 20, .inl (fun _ => 0))), ((r 63), .inl (G.2 0, 20, .inl (fun _ => 0))), ((r 62), .inl (G.2 0, 20, .inl (fun _ => 0))), ((r 60), .inl (G.2 0, 6, .inl (fun _ => 0))), ((r 59), .inl (G.2 0, 896, .inl (fun _ => 0))), ((r 58), .inl (G.2 0, 42, .inl (fun _ => 0))), ((r 57), .inl (G.2 0, 2840, .inl (fun _ => 0))), ((r 55), .inl (G.2 0, 6, .inl (fun _ => 0))), ((r 54), .inl (G.2 2, 6, .inl (fun _ => 0))), ((r 53), .inl (G.2 2, 6, .inl (fun _ => 0))), ((r 52), .inl (G.2 0, 6, .inl (fun _ => 0))), ((r 49), .inl (G.2 0, 71, .inl (fun _ => 0))), ((r 48), .inl (G.2 0, 71, .inl (fun _ => 0))), ((r 46), .inl (G.2 0, 400, .inl (fun _ => 0))), ((r 45), .inl (G.2 0, 9, .inl (fun _ => 0))), ((r 43), .inl (G.2 0, 64, .inl (fun _ => 0))), ((r 42), .inl (G.2 0, 840, .inl (fun _ => 0))), ((r 41), .inl (G.2 0, 840, .inl (fun _ => 0))), ((r 39), .inl (G.2 0, 260, .inl (fun _ => 0))), ((r 38), .inl (G.2 0, 260, .inl (fun _ => 0))), ((r 37), .inl (G.2 0, 260, .inl (fun _ => 0))), ((r 36), .inl (G.2 0, 260, .inl (fun _ => 0))), ((r 35), .inl (G.2 2, 260, .inl (fun _ => 0))), ((r 29), .inl (G.2 0, 12, .inl (fun _ => 0))), ((r 28), .inl (G.2 0, 12, .inl (fun _ => 0))), ((r 27), .inl (G.2 0, 12, .inl (fun _ => 0))), ((r 25), .inl (G.2 0, 14, .inl (fun _ => 0))), ((r 24), .inl (G.2 0, 14, .inl (fun _ => 0))), ((r 23), .inl (G.2 0, 14, .inl (fun _ => 0))), ((r 21), .inl (G.2 3, 13, .inr (.inl (fun _ => 0)))), ((r 9), .inl (G.2 3, 20, .inr (.inl (fun _ => 0)))), ((r 8), .inl (G.2 3, 403, .inr (.inl (fun _ => 0)))), ((r 7), .inl (G.2 0, 403, .inl (fun _ => 0))), ((r 6), .inl (G.2 0, 403, .inl (fun _ => 0))), ((r 5), .inl (G.2 0, 403, .inl (fun _ => 0))), ((r 3), .inl (G.2 1, 2000, .inl (fun _ => 0))), ((r 1), .inl (G.2 1, 2000, .inl (fun _ => 0)))]) S hw hl.1 lX10_155 (c_x_plain l G r 0 0 0 0 0 0 0 0 0 0 (-1) 0 0 0 0 0 0 0 0 0 0 0 d22_90 d26_91 d30_92 d31_93 d32_94 d33_95 1 (by decide)) ⟨Nat.le_of_ble_eq_true rfl, Nat.le_of_ble_eq_true rfl⟩ ⟨Nat.le_of_ble_eq_true rfl, Nat.le_of_ble_eq_true rfl⟩ [39, 40, 41, 42, 43, 44, 45] [0, 1, 2, 3, 4, 5, 6, 7, 8, 9, 10, 11, 12, 13, 14, 15, 16, 17, 18, 19, 20, 21, 22, 23, 24, 25, 26, 27, 28, 29, 30, 31, 32, 33, 34, 35, 36, 37, 38] (by decide +kernel) rfl rfl (by decide +kernel) (by decide +kernel) rfl rfl rfl rfl (Nat.le_of_ble_eq_true rfl) dX10_init_388 ?_
  clear hw
  intro rr u H locs hp hw
  refine hp.elim fun d22_96 zg0 => zg0.elim fun d26_97 zg1 => zg1.elim fun d30_98 zg2 => zg2.elim fun d31_99 zg3 => zg3.elim fun d32_100 zg4 => zg4.elim fun d33_101 zg5 => zg5.elim fun zee1 zg6 => zg6.elim fun zee2 zg7 => zg7.elim fun hq388_0 zg8 => zg8.elim fun hq388_1 zg9 => zg9.elim fun hq388_2 zg10 => zg10.elim fun hq388_3 zg11 => zg11.elim fun hq388_4 hq388_5 => ?_
  clear hp zg0 zg1 zg2 zg3 zg4 zg5 zg6 zg7 zg8 zg9 zg10 zg11
  subst zee1
  subst zee2
  replace hw : zz_w G A s [((r 66), .inl (G.2 0, 213, .inl (fun _ => 0))), ((r 65), .inl (G.2 2, 3, .inl (fun _ => 0))), ((r 64), .inl (G.2 2, 20, .inl (fun _ => 0))), ((r 63), .inl (G.2 0, 20, .inl (fun _ => 0))), ((r 62), .inl (G.2 0, 20, .inl (fun _ => 0))), ((r 60), .inl (G.2 0, 6, .inl (fun _ => 0))), ((r 59), .inl (G.2 0, 896, .inl (fun _ => 0))), ((r 58), .inl (G.2 0, 42, .inl (fun _ => 0))), ((r 57), .inl (G.2 0, 2840, .inl (fun _ => 0))), ((r 55), .inl (G.2 0, 6, .inl (fun _ => 0))), ((r 54), .inl (G.2 2, 6, .inl (fun _ => 0))), ((r 53), .inl (G.2 2, 6, .inl (fun _ => 0))), ((r 52), .inl (G.2 0, 6, .inl (fun _ => 0))), ((r 49), .inl (G.2 0, 71, .inl (fun _ => 0))), ((r 48), .inl (G.2 0, 71, .inl (fun _ => 0))), ((r 46), .inl (G.2 0, 400, .inl (fun _ => 0))), ((r 45), .inl (G.2 0, 9, .inl (fun _ => 0))), ((r 43), .inl (G.2 0, 64, .inl (fun _ => 0))), ((r 42), .inl (G.2 0, 840, .inl (fun _ => 0))), ((r 41), .inl (G.2 0, 840, .inl (fun _ => 0))), ((r 39), .inl (G.2 0, 260, .inl (fun _ => 0))), ((r 38), .inl (G.2 0, 260, .inl (fun _ => 0))), ((r 37), .inl (G.2 0, 260, .inl (fun _ => 0))), ((r 36), .inl (G.2 0, 260, .inl (fun _ => 0))), ((r 35), .inl (G.2 2, 260, .inl (fun _ => 0))), ((r 29), .inl (G.2 0, 12, .inl (fun _ => 0))), ((r 28), .inl (G.2 0, 12, .inl (fun _ => 0))), ((r 27), .inl (G.2 0, 12, .inl (fun _ => 0))), ((r 25), .inl (G.2 0, 14, .inl (fun _ => 0))), ((r 24), .inl (G.2 0, 14, .inl (fun _ => 0))), ((r 23), .inl (G.2 0, 14, .inl (fun _ => 0))), ((r 21), .inl (G.2 3, 13, .inr (.inl (fun _ => 0)))), ((r 9), .inl (G.2 3, 20, .inr (.inl (fun _ => 0)))), ((r 8), .inl (G.2 3, 403, .inr (.inl (fun _ => 0)))), ((r 7), .inl (G.2 0, 403, .inl (fun _ => 0))), ((r 6), .inl (G.2 0, 403, .inl (fun _ => 0))), ((r 5), .inl (G.2 0, 403, .inl (fun _ => 0))), ((r 3), .inl (G.2 1, 2000, .inl (fun _ => 0))), ((r 1), .inl (G.2 1, 2000, .inl (fun _ => 0))), ((r 0), .inr (10, (zz_mo r []))), ((r 22), .inl (G.2 0, 2, .inl d22_96)), ((r 26), .inl (G.2 0, 2, .inl d26_97)), ((r 30), .inl (G.2 0, 2, .inl d30_98)), ((r 31), .inl (G.2 0, 2, .inl d31_99)), ((r 32), .inl (G.2 0, 8, .inl d32_100)), ((r 33), .inl (G.2 0, 8, .inl d33_101))] H _ := hw
  refine W.eq (g2 := F0 m 391 ls []) rfl ?_
  refine Exists.elim (show ∃ V : va_W, V = [((r 66), .inl (G.2 0, 213, .inl (fun _ => 0))), ((r 65), .inl (G.2 2, 3, .inl (fun _ => 0))), ((r 64), .inl (G.2 2, 20, .inl (fun _ => 0))), ((r 63), .inl (G.2 0, 20, .inl (fun _ => 0))), ((r 62), .inl (G.2 0, 20, .inl (fun _ => 0))), ((r 60), .inl (G.2 0, 6, .inl (fun _ => 0))), ((r 59), .inl (G.2 0, 896, .inl (fun _ => 0))), ((r 58), .inl (G.2 0, 42, .inl (fun _ => 0))), ((r 57), .inl (G.2 0, 2840, .inl (fun _ => 0))), ((r 55), .inl (G.2 0, 6, .inl (fun _ => 0))), ((r 54), .inl (G.2 2, 6, .inl (fun _ => 0))), ((r 53), .inl (G.2 2, 6, .inl (fun _ => 0))), ((r 52), .inl (G.2 0, 6, .inl (fun _ => 0))), ((r 49), .inl (G.2 0, 71, .inl (fun _ => 0))), ((r 48), .inl (G.2 0, 71, .inl (fun _ => 0))), ((r 46), .inl (G.2 0, 400, .inl (fun _ => 0))), ((r 45), .inl (G.2 0, 9, .inl (fun _ => 0))), ((r 43), .inl (G.2 0, 64, .inl (fun _ => 0))), ((r 42), .inl (G.2 0, 840, .inl (fun _ => 0))), ((r 41), .inl (G.2 0, 840, .inl (fun _ => 0))), ((r 39), .inl (G.2 0, 260, .inl (fun _ => 0))), ((r 38), .inl (G.2 0, 260, .inl (fun _ => 0))), ((r 37), .inl (G.2 0, 260, .inl (fun _ => 0))), ((r 36), .inl (G.2 0, 260, .inl (fun _ => 0))), ((r 35), .inl (G.2 2, 260, .inl (fun _ => 0))), ((r 29), .inl (G.2 0, 12, .inl (fun _ => 0))), ((r 28), .inl (G.2 0, 12, .inl (fun _ => 0))), ((r 27), .inl (G.2 0, 12, .inl (fun _ => 0))), ((r 25), .inl (G.2 0, 14, .inl (fun _ => 0))), ((r 24), .inl (G.2 0, 14, .inl (fun _ => 0))), ((r 23), .inl (G.2 0, 14, .inl (fun _ => 0))), ((r 21), .inl (G.2 3, 13, .inr (.inl (fun _ => 0)))), ((r 8), .inl (G.2 3, 403, .inr (.inl (fun _ => 0)))), ((r 7), .inl (G.2 0, 403, .inl (fun _ => 0))), ((r 6), .inl (G.2 0, 403, .inl (fun _ => 0))), ((r 5), .inl (G.2 0, 403, .inl (fun _ => 0))), ((r 3), .inl (G.2 1, 2000, .inl (fun _ => 0))), ((r 1), .inl (G.2 1, 2000, .inl (fun _ => 0))), ((r 22), .inl (G.2 0, 2, .inl d22_96)), ((r 26), .inl (G.2 0, 2, .inl d26_97)), ((r 30), .inl (G.2 0, 2, .inl d30_98)), ((r 31), .inl (G.2 0, 2, .inl d31_99)), ((r 32), .inl (G.2 0, 8, .inl d32_100)), ((r 33), .inl (G.2 0, 8, .inl d33_101))] from ⟨_, rfl⟩) fun VM102 eVM102 => ?_
  replace hw : zz_w G A s ([((r 9), .inl (G.2 3, 20, .inr (.inl (fun _ => 0)))), ((r 0), .inr (10, (zz_mo r [])))] ++ VM102) H locs := by rw [eVM102]; exact hw.sub [32, 39, 0, 1, 2, 3, 4, 5, 6, 7, 8, 9, 10, 11, 12, 13, 14, 15, 16, 17, 18, 19, 20, 21, 22, 23, 24, 25, 26, 27, 28, 29, 30, 31, 33, 34, 35, 36, 37, 38, 40, 41, 42, 43, 44, 45] (by decide +kernel) rfl
  refine lv_aload_n hx hb dX10_init_391 rfl (lv_at hl 0 rfl) ?_
  refine zz_get (v := .ref (r 9)) S hw fgX10_34 1 rfl rfl dX10_init_392 ?_
  refine lv_iconst (v := 0) hx hb dX10_init_395 (by decide) ?_
  refine lv_bipush (v := 112) hx hb dX10_init_396 (by decide) ?_
  refine lv_bipush (v := 101) hx hb dX10_init_398 (by decide) ?_
  refine W.eq (g2 := F0 m 400 ls [.int 101, .int 112, .int 0, .ref (r 9)]) rfl ?_
  refine lv_bipush (v := 114) hx hb dX10_init_400 (by decide) ?_
  refine lv_bipush (v := 115) hx hb dX10_init_402 (by decide) ?_
  refine lv_bipush (v := 111) hx hb dX10_init_404 (by decide) ?_
  refine lv_bipush (v := 110) hx hb dX10_init_406 (by decide) ?_
  refine lv_iconst (v := 0) hx hb dX10_init_408 (by decide) ?_
  refine zz_callSQ (As := [.int 112, .int 101, .int 114, .int 115, .int 111, .int 110, .int 0]) (rest := [.int 0, .ref (r 9)]) (wr := [((r 9), .inl (G.2 3, 20, .inr (.inl (fun _ => 0)))), ((r 0), .inr (10, (zz_mo r [])))]) S hw hl.1 lX10_159 (c_x_word l G 112 101 114 115 111 110 0) ⟨Nat.le_of_ble_eq_true rfl, Nat.le_of_ble_eq_true rfl⟩ ⟨Nat.le_of_ble_eq_true rfl, Nat.le_of_ble_eq_true rfl⟩ [] [0, 1] (by decide) rfl rfl (by decide) (by decide) rfl rfl (Nat.le_of_ble_eq_true rfl) dX10_init_409 ?_
  clear hw
  intro rr u H locs hp hw
  refine hp.elim fun rv_103 zg0 => zg0.elim fun zee1 zg1 => zg1.elim fun zee2 hq409_0 => ?_
  clear hp zg0 zg1
  subst zee1
  subst zee2
  replace hw : zz_w G A s ([((r 9), .inl (G.2 3, 20, .inr (.inl (fun _ => 0)))), ((r 0), .inr (10, (zz_mo r [])))] ++ VM102) H _ := hw
  refine W.eq (g2 := F0 m 412 ls [.long rv_103, .int 0, .ref (r 9)]) rfl ?_
  have hky0 : ∀ k, k < 0 → ((fun _ => 0) : Nat → Int64) k = zl_L 27 (zl_wd k) := fun k hk => absurd hk (by omega)
  obtain ⟨zk104, ezk104⟩ : ∃ z : Nat → Int64, vp_updL (fun _ => 0) (0 : Int32).toNatClampNeg rv_103 = z := ⟨_, rfl⟩
  have hky1 := zz_kyS (j := 0) hky0 ezk104 (by decide) (hq409_0.trans (by decide +kernel))
  refine zz_last (ws' := ([((r 9), .inl (G.2 3, 20, .inr (.inl zk104))), ((r 0), .inr (10, (zz_mo r [])))] ++ VM102)) (g := zk104) S hw 0 rfl (vp_in_nI (n := 0) (by decide) (by decide)) (ezk104) rfl dX10_init_412 ?_
  clear hw
  intro H locs hw
  refine lv_aload_n hx hb dX10_init_413 rfl (lv_at hl 0 rfl) ?_
  refine zz_get (v := .ref (r 9)) S hw fgX10_34 1 rfl rfl dX10_init_414 ?_
  refine lv_iconst (v := 1) hx hb dX10_init_417 (by decide) ?_
  refine lv_bipush (v := 112) hx hb dX10_init_418 (by decide) ?_
  refine lv_bipush (v := 97) hx hb dX10_init_420 (by decide) ?_
  refine lv_bipush (v := 114) hx hb dX10_init_422 (by decide) ?_
  refine lv_bipush (v := 116) hx hb dX10_init_424 (by decide) ?_
  refine W.eq (g2 := F0 m 426 ls [.int 116, .int 114, .int 97, .int 112, .int 1, .ref (r 9)]) rfl ?_
  refine lv_iconst (v := 0) hx hb dX10_init_426 (by decide) ?_
  refine lv_iconst (v := 0) hx hb dX10_init_427 (by decide) ?_
  refine lv_iconst (v := 0) hx hb dX10_init_428 (by decide) ?_
  refine zz_callSQ (As := [.int 112, .int 97, .int 114, .int 116, .int 0, .int 0, .int 0]) (rest := [.int 1, .ref (r 9)]) (wr := [((r 9), .inl (G.2 3, 20, .inr (.inl zk104))), ((r 0), .inr (10, (zz_mo r [])))]) S hw hl.1 lX10_159 (c_x_word l G 112 97 114 116 0 0 0) ⟨Nat.le_of_ble_eq_true rfl, Nat.le_of_ble_eq_true rfl⟩ ⟨Nat.le_of_ble_eq_true rfl, Nat.le_of_ble_eq_true rfl⟩ [] [0, 1] (by decide) rfl rfl (by decide) (by decide) rfl rfl (Nat.le_of_ble_eq_true rfl) dX10_init_429 ?_
  clear hw
  intro rr u H locs hp hw
  refine hp.elim fun rv_105 zg0 => zg0.elim fun zee1 zg1 => zg1.elim fun zee2 hq429_0 => ?_
  clear hp zg0 zg1
  subst zee1
  subst zee2
  replace hw : zz_w G A s ([((r 9), .inl (G.2 3, 20, .inr (.inl zk104))), ((r 0), .inr (10, (zz_mo r [])))] ++ VM102) H _ := hw
  refine W.eq (g2 := F0 m 432 ls [.long rv_105, .int 1, .ref (r 9)]) rfl ?_
  obtain ⟨zk106, ezk106⟩ : ∃ z : Nat → Int64, vp_updL zk104 (1 : Int32).toNatClampNeg rv_105 = z := ⟨_, rfl⟩
  have hky2 := zz_kyS (j := 1) hky1 ezk106 (by decide) (hq429_0.trans (by decide +kernel))
  refine zz_last (ws' := ([((r 9), .inl (G.2 3, 20, .inr (.inl zk106))), ((r 0), .inr (10, (zz_mo r [])))] ++ VM102)) (g := zk106) S hw 0 rfl (vp_in_nI (n := 1) (by decide) (by decide)) (ezk106) rfl dX10_init_432 ?_
  clear hw
  intro H locs hw
  refine lv_aload_n hx hb dX10_init_433 rfl (lv_at hl 0 rfl) ?_
  refine zz_get (v := .ref (r 9)) S hw fgX10_34 1 rfl rfl dX10_init_434 ?_
  refine lv_iconst (v := 2) hx hb dX10_init_437 (by decide) ?_
  refine lv_bipush (v := 115) hx hb dX10_init_438 (by decide) ?_
  refine lv_bipush (v := 116) hx hb dX10_init_440 (by decide) ?_
  refine lv_bipush (v := 97) hx hb dX10_init_442 (by decide) ?_
  refine lv_bipush (v := 110) hx hb dX10_init_444 (by decide) ?_
  refine lv_bipush (v := 100) hx hb dX10_init_446 (by decide) ?_
  refine lv_bipush (v := 115) hx hb dX10_init_448 (by decide) ?_
  refine W.eq (g2 := F0 m 450 ls [.int 115, .int 100, .int 110, .int 97, .int 116, .int 115, .int 2, .ref (r 9)]) rfl ?_
  refine lv_iconst (v := 0) hx hb dX10_init_450 (by decide) ?_
  refine zz_callSQ (As := [.int 115, .int 116, .int 97, .int 110, .int 100, .int 115, .int 0]) (rest := [.int 2, .ref (r 9)]) (wr := [((r 9), .inl (G.2 3, 20, .inr (.inl zk106))), ((r 0), .inr (10, (zz_mo r [])))]) S hw hl.1 lX10_159 (c_x_word l G 115 116 97 110 100 115 0) ⟨Nat.le_of_ble_eq_true rfl, Nat.le_of_ble_eq_true rfl⟩ ⟨Nat.le_of_ble_eq_true rfl, Nat.le_of_ble_eq_true rfl⟩ [] [0, 1] (by decide) rfl rfl (by decide) (by decide) rfl rfl (Nat.le_of_ble_eq_true rfl) dX10_init_451 ?_
  clear hw
  intro rr u H locs hp hw
  refine hp.elim fun rv_107 zg0 => zg0.elim fun zee1 zg1 => zg1.elim fun zee2 hq451_0 => ?_
  clear hp zg0 zg1
  subst zee1
  subst zee2
  replace hw : zz_w G A s ([((r 9), .inl (G.2 3, 20, .inr (.inl zk106))), ((r 0), .inr (10, (zz_mo r [])))] ++ VM102) H _ := hw
  refine W.eq (g2 := F0 m 454 ls [.long rv_107, .int 2, .ref (r 9)]) rfl ?_
  obtain ⟨zk108, ezk108⟩ : ∃ z : Nat → Int64, vp_updL zk106 (2 : Int32).toNatClampNeg rv_107 = z := ⟨_, rfl⟩
  have hky3 := zz_kyS (j := 2) hky2 ezk108 (by decide) (hq451_0.trans (by decide +kernel))
  refine zz_last (ws' := ([((r 9), .inl (G.2 3, 20, .inr (.inl zk108))), ((r 0), .inr (10, (zz_mo r [])))] ++ VM102)) (g := zk108) S hw 0 rfl (vp_in_nI (n := 2) (by decide) (by decide)) (ezk108) rfl dX10_init_454 ?_
  clear hw
  intro H locs hw
  refine lv_aload_n hx hb dX10_init_455 rfl (lv_at hl 0 rfl) ?_
  refine zz_get (v := .ref (r 9)) S hw fgX10_34 1 rfl rfl dX10_init_456 ?_
  refine lv_iconst (v := 3) hx hb dX10_init_459 (by decide) ?_
  refine lv_bipush (v := 119) hx hb dX10_init_460 (by decide) ?_
  refine lv_bipush (v := 114) hx hb dX10_init_462 (by decide) ?_
  refine lv_bipush (v := 105) hx hb dX10_init_464 (by decide) ?_
  refine lv_bipush (v := 116) hx hb dX10_init_466 (by decide) ?_
  refine lv_bipush (v := 101) hx hb dX10_init_468 (by decide) ?_
  refine lv_bipush (v := 115) hx hb dX10_init_470 (by decide) ?_
  refine lv_iconst (v := 0) hx hb dX10_init_472 (by decide) ?_
  refine zz_callSQ (As := [.int 119, .int 114, .int 105, .int 116, .int 101, .int 115, .int 0]) (rest := [.int 3, .ref (r 9)]) (wr := [((r 9), .inl (G.2 3, 20, .inr (.inl zk108))), ((r 0), .inr (10, (zz_mo r [])))]) S hw hl.1 lX10_159 (c_x_word l G 119 114 105 116 101 115 0) ⟨Nat.le_of_ble_eq_true rfl, Nat.le_of_ble_eq_true rfl⟩ ⟨Nat.le_of_ble_eq_true rfl, Nat.le_of_ble_eq_true rfl⟩ [] [0, 1] (by decide) rfl rfl (by decide) (by decide) rfl rfl (Nat.le_of_ble_eq_true rfl) dX10_init_473 ?_
  clear hw
  intro rr u H locs hp hw
  refine hp.elim fun rv_109 zg0 => zg0.elim fun zee1 zg1 => zg1.elim fun zee2 hq473_0 => ?_
  clear hp zg0 zg1
  subst zee1
  subst zee2
  replace hw : zz_w G A s ([((r 9), .inl (G.2 3, 20, .inr (.inl zk108))), ((r 0), .inr (10, (zz_mo r [])))] ++ VM102) H _ := hw
  refine W.eq (g2 := F0 m 476 ls [.long rv_109, .int 3, .ref (r 9)]) rfl ?_
  refine W.eq (g2 := F0 m 476 ls [.long rv_109, .int 3, .ref (r 9)]) rfl ?_
  obtain ⟨zk110, ezk110⟩ : ∃ z : Nat → Int64, vp_updL zk108 (3 : Int32).toNatClampNeg rv_109 = z := ⟨_, rfl⟩
  have hky4 := zz_kyS (j := 3) hky3 ezk110 (by decide) (hq473_0.trans (by decide +kernel))
  refine zz_last (ws' := ([((r 9), .inl (G.2 3, 20, .inr (.inl zk110))), ((r 0), .inr (10, (zz_mo r [])))] ++ VM102)) (g := zk110) S hw 0 rfl (vp_in_nI (n := 3) (by decide) (by decide)) (ezk110) rfl dX10_init_476 ?_
  clear hw
  intro H locs hw
  refine lv_aload_n hx hb dX10_init_477 rfl (lv_at hl 0 rfl) ?_
  refine zz_get (v := .ref (r 9)) S hw fgX10_34 1 rfl rfl dX10_init_478 ?_
  refine lv_iconst (v := 4) hx hb dX10_init_481 (by decide) ?_
  refine lv_bipush (v := 109) hx hb dX10_init_482 (by decide) ?_
  refine lv_bipush (v := 97) hx hb dX10_init_484 (by decide) ?_
  refine lv_bipush (v := 114) hx hb dX10_init_486 (by decide) ?_
  refine lv_bipush (v := 107) hx hb dX10_init_488 (by decide) ?_
  refine lv_bipush (v := 115) hx hb dX10_init_490 (by decide) ?_
  refine lv_iconst (v := 0) hx hb dX10_init_492 (by decide) ?_
  refine lv_iconst (v := 0) hx hb dX10_init_493 (by decide) ?_
  refine zz_callSQ (As := [.int 109, .int 97, .int 114, .int 107, .int 115, .int 0, .int 0]) (rest := [.int 4, .ref (r 9)]) (wr := [((r 9), .inl (G.2 3, 20, .inr (.inl zk110))), ((r 0), .inr (10, (zz_mo r [])))]) S hw hl.1 lX10_159 (c_x_word l G 109 97 114 107 115 0 0) ⟨Nat.le_of_ble_eq_true rfl, Nat.le_of_ble_eq_true rfl⟩ ⟨Nat.le_of_ble_eq_true rfl, Nat.le_of_ble_eq_true rfl⟩ [] [0, 1] (by decide) rfl rfl (by decide) (by decide) rfl rfl (Nat.le_of_ble_eq_true rfl) dX10_init_494 ?_
  clear hw
  intro rr u H locs hp hw
  refine hp.elim fun rv_111 zg0 => zg0.elim fun zee1 zg1 => zg1.elim fun zee2 hq494_0 => ?_
  clear hp zg0 zg1
  subst zee1
  subst zee2
  replace hw : zz_w G A s ([((r 9), .inl (G.2 3, 20, .inr (.inl zk110))), ((r 0), .inr (10, (zz_mo r [])))] ++ VM102) H _ := hw
  refine W.eq (g2 := F0 m 497 ls [.long rv_111, .int 4, .ref (r 9)]) rfl ?_
  obtain ⟨zk112, ezk112⟩ : ∃ z : Nat → Int64, vp_updL zk110 (4 : Int32).toNatClampNeg rv_111 = z := ⟨_, rfl⟩
  have hky5 := zz_kyS (j := 4) hky4 ezk112 (by decide) (hq494_0.trans (by decide +kernel))
  refine zz_last (ws' := ([((r 9), .inl (G.2 3, 20, .inr (.inl zk112))), ((r 0), .inr (10, (zz_mo r [])))] ++ VM102)) (g := zk112) S hw 0 rfl (vp_in_nI (n := 4) (by decide) (by decide)) (ezk112) rfl dX10_init_497 ?_
  clear hw
  intro H locs hw
  refine lv_aload_n hx hb dX10_init_498 rfl (lv_at hl 0 rfl) ?_
  refine W.eq (g2 := F0 m 499 ls [.ref (r 0)]) rfl ?_
  refine zz_get (v := .ref (r 9)) S hw fgX10_34 1 rfl rfl dX10_init_499 ?_
  refine lv_iconst (v := 5) hx hb dX10_init_502 (by decide) ?_
  refine lv_bipush (v := 100) hx hb dX10_init_503 (by decide) ?_
  refine lv_bipush (v := 111) hx hb dX10_init_505 (by decide) ?_
  refine lv_bipush (v := 103) hx hb dX10_init_507 (by decide) ?_
  refine lv_bipush (v := 115) hx hb dX10_init_509 (by decide) ?_
  refine lv_iconst (v := 0) hx hb dX10_init_511 (by decide) ?_
  refine lv_iconst (v := 0) hx hb dX10_init_512 (by decide) ?_
  refine lv_iconst (v := 0) hx hb dX10_init_513 (by decide) ?_
  refine zz_callSQ (As := [.int 100, .int 111, .int 103, .int 115, .int 0, .int 0, .int 0]) (rest := [.int 5, .ref (r 9)]) (wr := [((r 9), .inl (G.2 3, 20, .inr (.inl zk112))), ((r 0), .inr (10, (zz_mo r [])))]) S hw hl.1 lX10_159 (c_x_word l G 100 111 103 115 0 0 0) ⟨Nat.le_of_ble_eq_true rfl, Nat.le_of_ble_eq_true rfl⟩ ⟨Nat.le_of_ble_eq_true rfl, Nat.le_of_ble_eq_true rfl⟩ [] [0, 1] (by decide) rfl rfl (by decide) (by decide) rfl rfl (Nat.le_of_ble_eq_true rfl) dX10_init_514 ?_
  clear hw
  intro rr u H locs hp hw
  refine hp.elim fun rv_113 zg0 => zg0.elim fun zee1 zg1 => zg1.elim fun zee2 hq514_0 => ?_
  clear hp zg0 zg1
  subst zee1
  subst zee2
  replace hw : zz_w G A s ([((r 9), .inl (G.2 3, 20, .inr (.inl zk112))), ((r 0), .inr (10, (zz_mo r [])))] ++ VM102) H _ := hw
  refine W.eq (g2 := F0 m 517 ls [.long rv_113, .int 5, .ref (r 9)]) rfl ?_
  obtain ⟨zk114, ezk114⟩ : ∃ z : Nat → Int64, vp_updL zk112 (5 : Int32).toNatClampNeg rv_113 = z := ⟨_, rfl⟩
  have hky6 := zz_kyS (j := 5) hky5 ezk114 (by decide) (hq514_0.trans (by decide +kernel))
  refine zz_last (ws' := ([((r 9), .inl (G.2 3, 20, .inr (.inl zk114))), ((r 0), .inr (10, (zz_mo r [])))] ++ VM102)) (g := zk114) S hw 0 rfl (vp_in_nI (n := 5) (by decide) (by decide)) (ezk114) rfl dX10_init_517 ?_
  clear hw
  intro H locs hw
  refine lv_aload_n hx hb dX10_init_518 rfl (lv_at hl 0 rfl) ?_
  refine zz_get (v := .ref (r 9)) S hw fgX10_34 1 rfl rfl dX10_init_519 ?_
  refine lv_bipush (v := 6) hx hb dX10_init_522 (by decide) ?_
  refine W.eq (g2 := F0 m 524 ls [.int 6, .ref (r 9)]) rfl ?_
  refine lv_bipush (v := 108) hx hb dX10_init_524 (by decide) ?_
  refine lv_bipush (v := 101) hx hb dX10_init_526 (by decide) ?_
  refine lv_bipush (v := 97) hx hb dX10_init_528 (by decide) ?_
  refine lv_bipush (v := 115) hx hb dX10_init_530 (by decide) ?_
  refine lv_bipush (v := 116) hx hb dX10_init_532 (by decide) ?_
  refine lv_iconst (v := 0) hx hb dX10_init_534 (by decide) ?_
  refine lv_iconst (v := 0) hx hb dX10_init_535 (by decide) ?_
  refine zz_callSQ (As := [.int 108, .int 101, .int 97, .int 115, .int 116, .int 0, .int 0]) (rest := [.int 6, .ref (r 9)]) (wr := [((r 9), .inl (G.2 3, 20, .inr (.inl zk114))), ((r 0), .inr (10, (zz_mo r [])))]) S hw hl.1 lX10_159 (c_x_word l G 108 101 97 115 116 0 0) ⟨Nat.le_of_ble_eq_true rfl, Nat.le_of_ble_eq_true rfl⟩ ⟨Nat.le_of_ble_eq_true rfl, Nat.le_of_ble_eq_true rfl⟩ [] [0, 1] (by decide) rfl rfl (by decide) (by decide) rfl rfl (Nat.le_of_ble_eq_true rfl) dX10_init_536 ?_
  clear hw
  intro rr u H locs hp hw
  refine hp.elim fun rv_115 zg0 => zg0.elim fun zee1 zg1 => zg1.elim fun zee2 hq536_0 => ?_
  clear hp zg0 zg1
  subst zee1
  subst zee2
  replace hw : zz_w G A s ([((r 9), .inl (G.2 3, 20, .inr (.inl zk114))), ((r 0), .inr (10, (zz_mo r [])))] ++ VM102) H _ := hw
  refine W.eq (g2 := F0 m 539 ls [.long rv_115, .int 6, .ref (r 9)]) rfl ?_
  obtain ⟨zk116, ezk116⟩ : ∃ z : Nat → Int64, vp_updL zk114 (6 : Int32).toNatClampNeg rv_115 = z := ⟨_, rfl⟩
  have hky7 := zz_kyS (j := 6) hky6 ezk116 (by decide) (hq536_0.trans (by decide +kernel))
  refine zz_last (ws' := ([((r 9), .inl (G.2 3, 20, .inr (.inl zk116))), ((r 0), .inr (10, (zz_mo r [])))] ++ VM102)) (g := zk116) S hw 0 rfl (vp_in_nI (n := 6) (by decide) (by decide)) (ezk116) rfl dX10_init_539 ?_
  clear hw
  intro H locs hw
  refine lv_aload_n hx hb dX10_init_540 rfl (lv_at hl 0 rfl) ?_
  refine zz_get (v := .ref (r 9)) S hw fgX10_34 1 rfl rfl dX10_init_541 ?_
  refine lv_bipush (v := 7) hx hb dX10_init_544 (by decide) ?_
  refine lv_bipush (v := 115) hx hb dX10_init_546 (by decide) ?_
  refine lv_bipush (v := 101) hx hb dX10_init_548 (by decide) ?_
  refine W.eq (g2 := F0 m 550 ls [.int 101, .int 115, .int 7, .ref (r 9)]) rfl ?_
  refine lv_bipush (v := 101) hx hb dX10_init_550 (by decide) ?_
  refine lv_bipush (v := 100) hx hb dX10_init_552 (by decide) ?_
  refine lv_iconst (v := 0) hx hb dX10_init_554 (by decide) ?_
  refine lv_iconst (v := 0) hx hb dX10_init_555 (by decide) ?_
  refine lv_iconst (v := 0) hx hb dX10_init_556 (by decide) ?_
  refine zz_callSQ (As := [.int 115, .int 101, .int 101, .int 100, .int 0, .int 0, .int 0]) (rest := [.int 7, .ref (r 9)]) (wr := [((r 9), .inl (G.2 3, 20, .inr (.inl zk116))), ((r 0), .inr (10, (zz_mo r [])))]) S hw hl.1 lX10_159 (c_x_word l G 115 101 101 100 0 0 0) ⟨Nat.le_of_ble_eq_true rfl, Nat.le_of_ble_eq_true rfl⟩ ⟨Nat.le_of_ble_eq_true rfl, Nat.le_of_ble_eq_true rfl⟩ [] [0, 1] (by decide) rfl rfl (by decide) (by decide) rfl rfl (Nat.le_of_ble_eq_true rfl) dX10_init_557 ?_
  clear hw
  intro rr u H locs hp hw
  refine hp.elim fun rv_117 zg0 => zg0.elim fun zee1 zg1 => zg1.elim fun zee2 hq557_0 => ?_
  clear hp zg0 zg1
  subst zee1
  subst zee2
  replace hw : zz_w G A s ([((r 9), .inl (G.2 3, 20, .inr (.inl zk116))), ((r 0), .inr (10, (zz_mo r [])))] ++ VM102) H _ := hw
  refine W.eq (g2 := F0 m 560 ls [.long rv_117, .int 7, .ref (r 9)]) rfl ?_
  obtain ⟨zk118, ezk118⟩ : ∃ z : Nat → Int64, vp_updL zk116 (7 : Int32).toNatClampNeg rv_117 = z := ⟨_, rfl⟩
  have hky8 := zz_kyS (j := 7) hky7 ezk118 (by decide) (hq557_0.trans (by decide +kernel))
  refine zz_last (ws' := ([((r 9), .inl (G.2 3, 20, .inr (.inl zk118))), ((r 0), .inr (10, (zz_mo r [])))] ++ VM102)) (g := zk118) S hw 0 rfl (vp_in_nI (n := 7) (by decide) (by decide)) (ezk118) rfl dX10_init_560 ?_
  clear hw
  intro H locs hw
  refine lv_aload_n hx hb dX10_init_561 rfl (lv_at hl 0 rfl) ?_
  refine zz_get (v := .ref (r 9)) S hw fgX10_34 1 rfl rfl dX10_init_562 ?_
  refine lv_bipush (v := 8) hx hb dX10_init_565 (by decide) ?_
  refine lv_bipush (v := 105) hx hb dX10_init_567 (by decide) ?_
  refine lv_bipush (v := 102) hx hb dX10_init_569 (by decide) ?_
  refine lv_iconst (v := 0) hx hb dX10_init_571 (by decide) ?_
  refine lv_iconst (v := 0) hx hb dX10_init_572 (by decide) ?_
  refine W.eq (g2 := F0 m 573 ls [.int 0, .int 0, .int 102, .int 105, .int 8, .ref (r 9)]) rfl ?_
  refine lv_iconst (v := 0) hx hb dX10_init_573 (by decide) ?_
  refine lv_iconst (v := 0) hx hb dX10_init_574 (by decide) ?_
  refine lv_iconst (v := 0) hx hb dX10_init_575 (by decide) ?_
  refine zz_callSQ (As := [.int 105, .int 102, .int 0, .int 0, .int 0, .int 0, .int 0]) (rest := [.int 8, .ref (r 9)]) (wr := [((r 9), .inl (G.2 3, 20, .inr (.inl zk118))), ((r 0), .inr (10, (zz_mo r [])))]) S hw hl.1 lX10_159 (c_x_word l G 105 102 0 0 0 0 0) ⟨Nat.le_of_ble_eq_true rfl, Nat.le_of_ble_eq_true rfl⟩ ⟨Nat.le_of_ble_eq_true rfl, Nat.le_of_ble_eq_true rfl⟩ [] [0, 1] (by decide) rfl rfl (by decide) (by decide) rfl rfl (Nat.le_of_ble_eq_true rfl) dX10_init_576 ?_
  clear hw
  intro rr u H locs hp hw
  refine hp.elim fun rv_119 zg0 => zg0.elim fun zee1 zg1 => zg1.elim fun zee2 hq576_0 => ?_
  clear hp zg0 zg1
  subst zee1
  subst zee2
  replace hw : zz_w G A s ([((r 9), .inl (G.2 3, 20, .inr (.inl zk118))), ((r 0), .inr (10, (zz_mo r [])))] ++ VM102) H _ := hw
  refine W.eq (g2 := F0 m 579 ls [.long rv_119, .int 8, .ref (r 9)]) rfl ?_
  obtain ⟨zk120, ezk120⟩ : ∃ z : Nat → Int64, vp_updL zk118 (8 : Int32).toNatClampNeg rv_119 = z := ⟨_, rfl⟩
  have hky9 := zz_kyS (j := 8) hky8 ezk120 (by decide) (hq576_0.trans (by decide +kernel))
  refine zz_last (ws' := ([((r 9), .inl (G.2 3, 20, .inr (.inl zk120))), ((r 0), .inr (10, (zz_mo r [])))] ++ VM102)) (g := zk120) S hw 0 rfl (vp_in_nI (n := 8) (by decide) (by decide)) (ezk120) rfl dX10_init_579 ?_
  clear hw
  intro H locs hw
  refine lv_aload_n hx hb dX10_init_580 rfl (lv_at hl 0 rfl) ?_
  refine zz_get (v := .ref (r 9)) S hw fgX10_34 1 rfl rfl dX10_init_581 ?_
  refine lv_bipush (v := 9) hx hb dX10_init_584 (by decide) ?_
  refine lv_bipush (v := 116) hx hb dX10_init_586 (by decide) ?_
  refine lv_bipush (v := 104) hx hb dX10_init_588 (by decide) ?_
  refine lv_bipush (v := 101) hx hb dX10_init_590 (by decide) ?_
  refine lv_bipush (v := 110) hx hb dX10_init_592 (by decide) ?_
  refine lv_iconst (v := 0) hx hb dX10_init_594 (by decide) ?_
  refine lv_iconst (v := 0) hx hb dX10_init_595 (by decide) ?_
  refine W.eq (g2 := F0 m 596 ls [.int 0, .int 0, .int 110, .int 101, .int 104, .int 116, .int 9, .ref (r 9)]) rfl ?_
  refine lv_iconst (v := 0) hx hb dX10_init_596 (by decide) ?_
  refine zz_callSQ (As := [.int 116, .int 104, .int 101, .int 110, .int 0, .int 0, .int 0]) (rest := [.int 9, .ref (r 9)]) (wr := [((r 9), .inl (G.2 3, 20, .inr (.inl zk120))), ((r 0), .inr (10, (zz_mo r [])))]) S hw hl.1 lX10_159 (c_x_word l G 116 104 101 110 0 0 0) ⟨Nat.le_of_ble_eq_true rfl, Nat.le_of_ble_eq_true rfl⟩ ⟨Nat.le_of_ble_eq_true rfl, Nat.le_of_ble_eq_true rfl⟩ [] [0, 1] (by decide) rfl rfl (by decide) (by decide) rfl rfl (Nat.le_of_ble_eq_true rfl) dX10_init_597 ?_
  clear hw
  intro rr u H locs hp hw
  refine hp.elim fun rv_121 zg0 => zg0.elim fun zee1 zg1 => zg1.elim fun zee2 hq597_0 => ?_
  clear hp zg0 zg1
  subst zee1
  subst zee2
  replace hw : zz_w G A s ([((r 9), .inl (G.2 3, 20, .inr (.inl zk120))), ((r 0), .inr (10, (zz_mo r [])))] ++ VM102) H _ := hw
  refine W.eq (g2 := F0 m 600 ls [.long rv_121, .int 9, .ref (r 9)]) rfl ?_
  obtain ⟨zk122, ezk122⟩ : ∃ z : Nat → Int64, vp_updL zk120 (9 : Int32).toNatClampNeg rv_121 = z := ⟨_, rfl⟩
  have hky10 := zz_kyS (j := 9) hky9 ezk122 (by decide) (hq597_0.trans (by decide +kernel))
  refine zz_last (ws' := ([((r 9), .inl (G.2 3, 20, .inr (.inl zk122))), ((r 0), .inr (10, (zz_mo r [])))] ++ VM102)) (g := zk122) S hw 0 rfl (vp_in_nI (n := 9) (by decide) (by decide)) (ezk122) rfl dX10_init_600 ?_
  clear hw
  intro H locs hw
  refine lv_aload_n hx hb dX10_init_601 rfl (lv_at hl 0 rfl) ?_
  refine zz_get (v := .ref (r 9)) S hw fgX10_34 1 rfl rfl dX10_init_602 ?_
  refine lv_bipush (v := 10) hx hb dX10_init_605 (by decide) ?_
  refine lv_bipush (v := 101) hx hb dX10_init_607 (by decide) ?_
  refine lv_bipush (v := 108) hx hb dX10_init_609 (by decide) ?_
  refine lv_bipush (v := 115) hx hb dX10_init_611 (by decide) ?_
  refine lv_bipush (v := 101) hx hb dX10_init_613 (by decide) ?_
  refine lv_iconst (v := 0) hx hb dX10_init_615 (by decide) ?_
  refine lv_iconst (v := 0) hx hb dX10_init_616 (by decide) ?_
  refine lv_iconst (v := 0) hx hb dX10_init_617 (by decide) ?_
  refine zz_callSQ (As := [.int 101, .int 108, .int 115, .int 101, .int 0, .int 0, .int 0]) (rest := [.int 10, .ref (r 9)]) (wr := [((r 9), .inl (G.2 3, 20, .inr (.inl zk122))), ((r 0), .inr (10, (zz_mo r [])))]) S hw hl.1 lX10_159 (c_x_word l G 101 108 115 101 0 0 0) ⟨Nat.le_of_ble_eq_true rfl, Nat.le_of_ble_eq_true rfl⟩ ⟨Nat.le_of_ble_eq_true rfl, Nat.le_of_ble_eq_true rfl⟩ [] [0, 1] (by decide) rfl rfl (by decide) (by decide) rfl rfl (Nat.le_of_ble_eq_true rfl) dX10_init_618 ?_
  clear hw
  intro rr u H locs hp hw
  refine hp.elim fun rv_123 zg0 => zg0.elim fun zee1 zg1 => zg1.elim fun zee2 hq618_0 => ?_
  clear hp zg0 zg1
  subst zee1
  subst zee2
  replace hw : zz_w G A s ([((r 9), .inl (G.2 3, 20, .inr (.inl zk122))), ((r 0), .inr (10, (zz_mo r [])))] ++ VM102) H _ := hw
  refine W.eq (g2 := F0 m 621 ls [.long rv_123, .int 10, .ref (r 9)]) rfl ?_
  refine W.eq (g2 := F0 m 621 ls [.long rv_123, .int 10, .ref (r 9)]) rfl ?_
  obtain ⟨zk124, ezk124⟩ : ∃ z : Nat → Int64, vp_updL zk122 (10 : Int32).toNatClampNeg rv_123 = z := ⟨_, rfl⟩
  have hky11 := zz_kyS (j := 10) hky10 ezk124 (by decide) (hq618_0.trans (by decide +kernel))
  refine zz_last (ws' := ([((r 9), .inl (G.2 3, 20, .inr (.inl zk124))), ((r 0), .inr (10, (zz_mo r [])))] ++ VM102)) (g := zk124) S hw 0 rfl (vp_in_nI (n := 10) (by decide) (by decide)) (ezk124) rfl dX10_init_621 ?_
  clear hw
  intro H locs hw
  refine lv_aload_n hx hb dX10_init_622 rfl (lv_at hl 0 rfl) ?_
  refine zz_get (v := .ref (r 9)) S hw fgX10_34 1 rfl rfl dX10_init_623 ?_
  refine lv_bipush (v := 11) hx hb dX10_init_626 (by decide) ?_
  refine lv_bipush (v := 97) hx hb dX10_init_628 (by decide) ?_
  refine lv_bipush (v := 112) hx hb dX10_init_630 (by decide) ?_
  refine lv_bipush (v := 97) hx hb dX10_init_632 (by decide) ?_
  refine lv_bipush (v := 114) hx hb dX10_init_634 (by decide) ?_
  refine lv_bipush (v := 116) hx hb dX10_init_636 (by decide) ?_
  refine lv_iconst (v := 0) hx hb dX10_init_638 (by decide) ?_
  refine lv_iconst (v := 0) hx hb dX10_init_639 (by decide) ?_
  refine zz_callSQ (As := [.int 97, .int 112, .int 97, .int 114, .int 116, .int 0, .int 0]) (rest := [.int 11, .ref (r 9)]) (wr := [((r 9), .inl (G.2 3, 20, .inr (.inl zk124))), ((r 0), .inr (10, (zz_mo r [])))]) S hw hl.1 lX10_159 (c_x_word l G 97 112 97 114 116 0 0) ⟨Nat.le_of_ble_eq_true rfl, Nat.le_of_ble_eq_true rfl⟩ ⟨Nat.le_of_ble_eq_true rfl, Nat.le_of_ble_eq_true rfl⟩ [] [0, 1] (by decide) rfl rfl (by decide) (by decide) rfl rfl (Nat.le_of_ble_eq_true rfl) dX10_init_640 ?_
  clear hw
  intro rr u H locs hp hw
  refine hp.elim fun rv_125 zg0 => zg0.elim fun zee1 zg1 => zg1.elim fun zee2 hq640_0 => ?_
  clear hp zg0 zg1
  subst zee1
  subst zee2
  replace hw : zz_w G A s ([((r 9), .inl (G.2 3, 20, .inr (.inl zk124))), ((r 0), .inr (10, (zz_mo r [])))] ++ VM102) H _ := hw
  refine W.eq (g2 := F0 m 643 ls [.long rv_125, .int 11, .ref (r 9)]) rfl ?_
  obtain ⟨zk126, ezk126⟩ : ∃ z : Nat → Int64, vp_updL zk124 (11 : Int32).toNatClampNeg rv_125 = z := ⟨_, rfl⟩
  have hky12 := zz_kyS (j := 11) hky11 ezk126 (by decide) (hq640_0.trans (by decide +kernel))
  refine zz_last (ws' := ([((r 9), .inl (G.2 3, 20, .inr (.inl zk126))), ((r 0), .inr (10, (zz_mo r [])))] ++ VM102)) (g := zk126) S hw 0 rfl (vp_in_nI (n := 11) (by decide) (by decide)) (ezk126) rfl dX10_init_643 ?_
  clear hw
  intro H locs hw
  refine lv_aload_n hx hb dX10_init_644 rfl (lv_at hl 0 rfl) ?_
  refine W.eq (g2 := F0 m 645 ls [.ref (r 0)]) rfl ?_
  refine zz_get (v := .ref (r 9)) S hw fgX10_34 1 rfl rfl dX10_init_645 ?_
  refine lv_bipush (v := 12) hx hb dX10_init_648 (by decide) ?_
  refine lv_bipush (v := 117) hx hb dX10_init_650 (by decide) ?_
  refine lv_bipush (v := 110) hx hb dX10_init_652 (by decide) ?_
  refine lv_bipush (v := 108) hx hb dX10_init_654 (by decide) ?_
  refine lv_bipush (v := 105) hx hb dX10_init_656 (by decide) ?_
  refine lv_bipush (v := 107) hx hb dX10_init_658 (by decide) ?_
  refine lv_bipush (v := 101) hx hb dX10_init_660 (by decide) ?_
  refine lv_iconst (v := 0) hx hb dX10_init_662 (by decide) ?_
  refine zz_callSQ (As := [.int 117, .int 110, .int 108, .int 105, .int 107, .int 101, .int 0]) (rest := [.int 12, .ref (r 9)]) (wr := [((r 9), .inl (G.2 3, 20, .inr (.inl zk126))), ((r 0), .inr (10, (zz_mo r [])))]) S hw hl.1 lX10_159 (c_x_word l G 117 110 108 105 107 101 0) ⟨Nat.le_of_ble_eq_true rfl, Nat.le_of_ble_eq_true rfl⟩ ⟨Nat.le_of_ble_eq_true rfl, Nat.le_of_ble_eq_true rfl⟩ [] [0, 1] (by decide) rfl rfl (by decide) (by decide) rfl rfl (Nat.le_of_ble_eq_true rfl) dX10_init_663 ?_
  clear hw
  intro rr u H locs hp hw
  refine hp.elim fun rv_127 zg0 => zg0.elim fun zee1 zg1 => zg1.elim fun zee2 hq663_0 => ?_
  clear hp zg0 zg1
  subst zee1
  subst zee2
  replace hw : zz_w G A s ([((r 9), .inl (G.2 3, 20, .inr (.inl zk126))), ((r 0), .inr (10, (zz_mo r [])))] ++ VM102) H _ := hw
  refine W.eq (g2 := F0 m 666 ls [.long rv_127, .int 12, .ref (r 9)]) rfl ?_
  obtain ⟨zk128, ezk128⟩ : ∃ z : Nat → Int64, vp_updL zk126 (12 : Int32).toNatClampNeg rv_127 = z := ⟨_, rfl⟩
  have hky13 := zz_kyS (j := 12) hky12 ezk128 (by decide) (hq663_0.trans (by decide +kernel))
  refine zz_last (ws' := ([((r 9), .inl (G.2 3, 20, .inr (.inl zk128))), ((r 0), .inr (10, (zz_mo r [])))] ++ VM102)) (g := zk128) S hw 0 rfl (vp_in_nI (n := 12) (by decide) (by decide)) (ezk128) rfl dX10_init_666 ?_
  clear hw
  intro H locs hw
  refine lv_aload_n hx hb dX10_init_667 rfl (lv_at hl 0 rfl) ?_
  refine zz_get (v := .ref (r 9)) S hw fgX10_34 1 rfl rfl dX10_init_668 ?_
  refine lv_bipush (v := 13) hx hb dX10_init_671 (by decide) ?_
  refine W.eq (g2 := F0 m 673 ls [.int 13, .ref (r 9)]) rfl ?_
  refine lv_bipush (v := 111) hx hb dX10_init_673 (by decide) ?_
  refine lv_bipush (v := 100) hx hb dX10_init_675 (by decide) ?_
  refine lv_bipush (v := 100) hx hb dX10_init_677 (by decide) ?_
  refine lv_iconst (v := 0) hx hb dX10_init_679 (by decide) ?_
  refine lv_iconst (v := 0) hx hb dX10_init_680 (by decide) ?_
  refine lv_iconst (v := 0) hx hb dX10_init_681 (by decide) ?_
  refine lv_iconst (v := 0) hx hb dX10_init_682 (by decide) ?_
  refine zz_callSQ (As := [.int 111, .int 100, .int 100, .int 0, .int 0, .int 0, .int 0]) (rest := [.int 13, .ref (r 9)]) (wr := [((r 9), .inl (G.2 3, 20, .inr (.inl zk128))), ((r 0), .inr (10, (zz_mo r [])))]) S hw hl.1 lX10_159 (c_x_word l G 111 100 100 0 0 0 0) ⟨Nat.le_of_ble_eq_true rfl, Nat.le_of_ble_eq_true rfl⟩ ⟨Nat.le_of_ble_eq_true rfl, Nat.le_of_ble_eq_true rfl⟩ [] [0, 1] (by decide) rfl rfl (by decide) (by decide) rfl rfl (Nat.le_of_ble_eq_true rfl) dX10_init_683 ?_
  clear hw
  intro rr u H locs hp hw
  refine hp.elim fun rv_129 zg0 => zg0.elim fun zee1 zg1 => zg1.elim fun zee2 hq683_0 => ?_
  clear hp zg0 zg1
  subst zee1
  subst zee2
  replace hw : zz_w G A s ([((r 9), .inl (G.2 3, 20, .inr (.inl zk128))), ((r 0), .inr (10, (zz_mo r [])))] ++ VM102) H _ := hw
  refine W.eq (g2 := F0 m 686 ls [.long rv_129, .int 13, .ref (r 9)]) rfl ?_
  obtain ⟨zk130, ezk130⟩ : ∃ z : Nat → Int64, vp_updL zk128 (13 : Int32).toNatClampNeg rv_129 = z := ⟨_, rfl⟩
  have hky14 := zz_kyS (j := 13) hky13 ezk130 (by decide) (hq683_0.trans (by decide +kernel))
  refine zz_last (ws' := ([((r 9), .inl (G.2 3, 20, .inr (.inl zk130))), ((r 0), .inr (10, (zz_mo r [])))] ++ VM102)) (g := zk130) S hw 0 rfl (vp_in_nI (n := 13) (by decide) (by decide)) (ezk130) rfl dX10_init_686 ?_
  clear hw
  intro H locs hw
  refine lv_aload_n hx hb dX10_init_687 rfl (lv_at hl 0 rfl) ?_
  refine zz_get (v := .ref (r 9)) S hw fgX10_34 1 rfl rfl dX10_init_688 ?_
  refine lv_bipush (v := 14) hx hb dX10_init_691 (by decide) ?_
  refine lv_bipush (v := 100) hx hb dX10_init_693 (by decide) ?_
  refine lv_bipush (v := 97) hx hb dX10_init_695 (by decide) ?_
  refine W.eq (g2 := F0 m 697 ls [.int 97, .int 100, .int 14, .ref (r 9)]) rfl ?_
  refine lv_bipush (v := 121) hx hb dX10_init_697 (by decide) ?_
  refine lv_iconst (v := 0) hx hb dX10_init_699 (by decide) ?_
  refine lv_iconst (v := 0) hx hb dX10_init_700 (by decide) ?_
  refine lv_iconst (v := 0) hx hb dX10_init_701 (by decide) ?_
  refine lv_iconst (v := 0) hx hb dX10_init_702 (by decide) ?_
  refine zz_callSQ (As := [.int 100, .int 97, .int 121, .int 0, .int 0, .int 0, .int 0]) (rest := [.int 14, .ref (r 9)]) (wr := [((r 9), .inl (G.2 3, 20, .inr (.inl zk130))), ((r 0), .inr (10, (zz_mo r [])))]) S hw hl.1 lX10_159 (c_x_word l G 100 97 121 0 0 0 0) ⟨Nat.le_of_ble_eq_true rfl, Nat.le_of_ble_eq_true rfl⟩ ⟨Nat.le_of_ble_eq_true rfl, Nat.le_of_ble_eq_true rfl⟩ [] [0, 1] (by decide) rfl rfl (by decide) (by decide) rfl rfl (Nat.le_of_ble_eq_true rfl) dX10_init_703 ?_
  clear hw
  intro rr u H locs hp hw
  refine hp.elim fun rv_131 zg0 => zg0.elim fun zee1 zg1 => zg1.elim fun zee2 hq703_0 => ?_
  clear hp zg0 zg1
  subst zee1
  subst zee2
  replace hw : zz_w G A s ([((r 9), .inl (G.2 3, 20, .inr (.inl zk130))), ((r 0), .inr (10, (zz_mo r [])))] ++ VM102) H _ := hw
  refine W.eq (g2 := F0 m 706 ls [.long rv_131, .int 14, .ref (r 9)]) rfl ?_
  obtain ⟨zk132, ezk132⟩ : ∃ z : Nat → Int64, vp_updL zk130 (14 : Int32).toNatClampNeg rv_131 = z := ⟨_, rfl⟩
  have hky15 := zz_kyS (j := 14) hky14 ezk132 (by decide) (hq703_0.trans (by decide +kernel))
  refine zz_last (ws' := ([((r 9), .inl (G.2 3, 20, .inr (.inl zk132))), ((r 0), .inr (10, (zz_mo r [])))] ++ VM102)) (g := zk132) S hw 0 rfl (vp_in_nI (n := 14) (by decide) (by decide)) (ezk132) rfl dX10_init_706 ?_
  clear hw
  intro H locs hw
  refine lv_aload_n hx hb dX10_init_707 rfl (lv_at hl 0 rfl) ?_
  refine zz_get (v := .ref (r 9)) S hw fgX10_34 1 rfl rfl dX10_init_708 ?_
  refine lv_bipush (v := 15) hx hb dX10_init_711 (by decide) ?_
  refine lv_bipush (v := 115) hx hb dX10_init_713 (by decide) ?_
  refine lv_bipush (v := 101) hx hb dX10_init_715 (by decide) ?_
  refine lv_bipush (v := 101) hx hb dX10_init_717 (by decide) ?_
  refine lv_bipush (v := 110) hx hb dX10_init_719 (by decide) ?_
  refine W.eq (g2 := F0 m 721 ls [.int 110, .int 101, .int 101, .int 115, .int 15, .ref (r 9)]) rfl ?_
  refine lv_iconst (v := 0) hx hb dX10_init_721 (by decide) ?_
  refine lv_iconst (v := 0) hx hb dX10_init_722 (by decide) ?_
  refine lv_iconst (v := 0) hx hb dX10_init_723 (by decide) ?_
  refine zz_callSQ (As := [.int 115, .int 101, .int 101, .int 110, .int 0, .int 0, .int 0]) (rest := [.int 15, .ref (r 9)]) (wr := [((r 9), .inl (G.2 3, 20, .inr (.inl zk132))), ((r 0), .inr (10, (zz_mo r [])))]) S hw hl.1 lX10_159 (c_x_word l G 115 101 101 110 0 0 0) ⟨Nat.le_of_ble_eq_true rfl, Nat.le_of_ble_eq_true rfl⟩ ⟨Nat.le_of_ble_eq_true rfl, Nat.le_of_ble_eq_true rfl⟩ [] [0, 1] (by decide) rfl rfl (by decide) (by decide) rfl rfl (Nat.le_of_ble_eq_true rfl) dX10_init_724 ?_
  clear hw
  intro rr u H locs hp hw
  refine hp.elim fun rv_133 zg0 => zg0.elim fun zee1 zg1 => zg1.elim fun zee2 hq724_0 => ?_
  clear hp zg0 zg1
  subst zee1
  subst zee2
  replace hw : zz_w G A s ([((r 9), .inl (G.2 3, 20, .inr (.inl zk132))), ((r 0), .inr (10, (zz_mo r [])))] ++ VM102) H _ := hw
  refine W.eq (g2 := F0 m 727 ls [.long rv_133, .int 15, .ref (r 9)]) rfl ?_
  obtain ⟨zk134, ezk134⟩ : ∃ z : Nat → Int64, vp_updL zk132 (15 : Int32).toNatClampNeg rv_133 = z := ⟨_, rfl⟩
  have hky16 := zz_kyS (j := 15) hky15 ezk134 (by decide) (hq724_0.trans (by decide +kernel))
  refine zz_last (ws' := ([((r 9), .inl (G.2 3, 20, .inr (.inl zk134))), ((r 0), .inr (10, (zz_mo r [])))] ++ VM102)) (g := zk134) S hw 0 rfl (vp_in_nI (n := 15) (by decide) (by decide)) (ezk134) rfl dX10_init_727 ?_
  clear hw
  intro H locs hw
  refine lv_aload_n hx hb dX10_init_728 rfl (lv_at hl 0 rfl) ?_
  refine zz_get (v := .ref (r 9)) S hw fgX10_34 1 rfl rfl dX10_init_729 ?_
  refine lv_bipush (v := 16) hx hb dX10_init_732 (by decide) ?_
  refine lv_bipush (v := 104) hx hb dX10_init_734 (by decide) ?_
  refine lv_bipush (v := 111) hx hb dX10_init_736 (by decide) ?_
  refine lv_bipush (v := 117) hx hb dX10_init_738 (by decide) ?_
  refine lv_bipush (v := 114) hx hb dX10_init_740 (by decide) ?_
  refine lv_iconst (v := 0) hx hb dX10_init_742 (by decide) ?_
  refine lv_iconst (v := 0) hx hb dX10_init_743 (by decide) ?_
  refine W.eq (g2 := F0 m 744 ls [.int 0, .int 0, .int 114, .int 117, .int 111, .int 104, .int 16, .ref (r 9)]) rfl ?_
  refine lv_iconst (v := 0) hx hb dX10_init_744 (by decide) ?_
  refine zz_callSQ (As := [.int 104, .int 111, .int 117, .int 114, .int 0, .int 0, .int 0]) (rest := [.int 16, .ref (r 9)]) (wr := [((r 9), .inl (G.2 3, 20, .inr (.inl zk134))), ((r 0), .inr (10, (zz_mo r [])))]) S hw hl.1 lX10_159 (c_x_word l G 104 111 117 114 0 0 0) ⟨Nat.le_of_ble_eq_true rfl, Nat.le_of_ble_eq_true rfl⟩ ⟨Nat.le_of_ble_eq_true rfl, Nat.le_of_ble_eq_true rfl⟩ [] [0, 1] (by decide) rfl rfl (by decide) (by decide) rfl rfl (Nat.le_of_ble_eq_true rfl) dX10_init_745 ?_
  clear hw
  intro rr u H locs hp hw
  refine hp.elim fun rv_135 zg0 => zg0.elim fun zee1 zg1 => zg1.elim fun zee2 hq745_0 => ?_
  clear hp zg0 zg1
  subst zee1
  subst zee2
  replace hw : zz_w G A s ([((r 9), .inl (G.2 3, 20, .inr (.inl zk134))), ((r 0), .inr (10, (zz_mo r [])))] ++ VM102) H _ := hw
  refine W.eq (g2 := F0 m 748 ls [.long rv_135, .int 16, .ref (r 9)]) rfl ?_
  obtain ⟨zk136, ezk136⟩ : ∃ z : Nat → Int64, vp_updL zk134 (16 : Int32).toNatClampNeg rv_135 = z := ⟨_, rfl⟩
  have hky17 := zz_kyS (j := 16) hky16 ezk136 (by decide) (hq745_0.trans (by decide +kernel))
  refine zz_last (ws' := ([((r 9), .inl (G.2 3, 20, .inr (.inl zk136))), ((r 0), .inr (10, (zz_mo r [])))] ++ VM102)) (g := zk136) S hw 0 rfl (vp_in_nI (n := 16) (by decide) (by decide)) (ezk136) rfl dX10_init_748 ?_
  clear hw
  intro H locs hw
  refine lv_aload_n hx hb dX10_init_749 rfl (lv_at hl 0 rfl) ?_
  refine zz_get (v := .ref (r 9)) S hw fgX10_34 1 rfl rfl dX10_init_750 ?_
  refine lv_bipush (v := 17) hx hb dX10_init_753 (by decide) ?_
  refine lv_bipush (v := 107) hx hb dX10_init_755 (by decide) ?_
  refine lv_bipush (v := 105) hx hb dX10_init_757 (by decide) ?_
  refine lv_bipush (v := 110) hx hb dX10_init_759 (by decide) ?_
  refine lv_bipush (v := 100) hx hb dX10_init_761 (by decide) ?_
  refine lv_iconst (v := 0) hx hb dX10_init_763 (by decide) ?_
  refine lv_iconst (v := 0) hx hb dX10_init_764 (by decide) ?_
  refine lv_iconst (v := 0) hx hb dX10_init_765 (by decide) ?_
  refine zz_callSQ (As := [.int 107, .int 105, .int 110, .int 100, .int 0, .int 0, .int 0]) (rest := [.int 17, .ref (r 9)]) (wr := [((r 9), .inl (G.2 3, 20, .inr (.inl zk136))), ((r 0), .inr (10, (zz_mo r [])))]) S hw hl.1 lX10_159 (c_x_word l G 107 105 110 100 0 0 0) ⟨Nat.le_of_ble_eq_true rfl, Nat.le_of_ble_eq_true rfl⟩ ⟨Nat.le_of_ble_eq_true rfl, Nat.le_of_ble_eq_true rfl⟩ [] [0, 1] (by decide) rfl rfl (by decide) (by decide) rfl rfl (Nat.le_of_ble_eq_true rfl) dX10_init_766 ?_
  clear hw
  intro rr u H locs hp hw
  refine hp.elim fun rv_137 zg0 => zg0.elim fun zee1 zg1 => zg1.elim fun zee2 hq766_0 => ?_
  clear hp zg0 zg1
  subst zee1
  subst zee2
  replace hw : zz_w G A s ([((r 9), .inl (G.2 3, 20, .inr (.inl zk136))), ((r 0), .inr (10, (zz_mo r [])))] ++ VM102) H _ := hw
  refine W.eq (g2 := F0 m 769 ls [.long rv_137, .int 17, .ref (r 9)]) rfl ?_
  refine W.eq (g2 := F0 m 769 ls [.long rv_137, .int 17, .ref (r 9)]) rfl ?_
  obtain ⟨zk138, ezk138⟩ : ∃ z : Nat → Int64, vp_updL zk136 (17 : Int32).toNatClampNeg rv_137 = z := ⟨_, rfl⟩
  have hky18 := zz_kyS (j := 17) hky17 ezk138 (by decide) (hq766_0.trans (by decide +kernel))
  refine zz_last (ws' := ([((r 9), .inl (G.2 3, 20, .inr (.inl zk138))), ((r 0), .inr (10, (zz_mo r [])))] ++ VM102)) (g := zk138) S hw 0 rfl (vp_in_nI (n := 17) (by decide) (by decide)) (ezk138) rfl dX10_init_769 ?_
  clear hw
  intro H locs hw
  refine lv_aload_n hx hb dX10_init_770 rfl (lv_at hl 0 rfl) ?_
  refine zz_get (v := .ref (r 9)) S hw fgX10_34 1 rfl rfl dX10_init_771 ?_
  refine lv_bipush (v := 18) hx hb dX10_init_774 (by decide) ?_
  refine lv_bipush (v := 115) hx hb dX10_init_776 (by decide) ?_
  refine lv_bipush (v := 105) hx hb dX10_init_778 (by decide) ?_
  refine lv_bipush (v := 122) hx hb dX10_init_780 (by decide) ?_
  refine lv_bipush (v := 101) hx hb dX10_init_782 (by decide) ?_
  refine lv_iconst (v := 0) hx hb dX10_init_784 (by decide) ?_
  refine lv_iconst (v := 0) hx hb dX10_init_785 (by decide) ?_
  refine lv_iconst (v := 0) hx hb dX10_init_786 (by decide) ?_
  refine zz_callSQ (As := [.int 115, .int 105, .int 122, .int 101, .int 0, .int 0, .int 0]) (rest := [.int 18, .ref (r 9)]) (wr := [((r 9), .inl (G.2 3, 20, .inr (.inl zk138))), ((r 0), .inr (10, (zz_mo r [])))]) S hw hl.1 lX10_159 (c_x_word l G 115 105 122 101 0 0 0) ⟨Nat.le_of_ble_eq_true rfl, Nat.le_of_ble_eq_true rfl⟩ ⟨Nat.le_of_ble_eq_true rfl, Nat.le_of_ble_eq_true rfl⟩ [] [0, 1] (by decide) rfl rfl (by decide) (by decide) rfl rfl (Nat.le_of_ble_eq_true rfl) dX10_init_787 ?_
  clear hw
  intro rr u H locs hp hw
  refine hp.elim fun rv_139 zg0 => zg0.elim fun zee1 zg1 => zg1.elim fun zee2 hq787_0 => ?_
  clear hp zg0 zg1
  subst zee1
  subst zee2
  replace hw : zz_w G A s ([((r 9), .inl (G.2 3, 20, .inr (.inl zk138))), ((r 0), .inr (10, (zz_mo r [])))] ++ VM102) H _ := hw
  refine W.eq (g2 := F0 m 790 ls [.long rv_139, .int 18, .ref (r 9)]) rfl ?_
  obtain ⟨zk140, ezk140⟩ : ∃ z : Nat → Int64, vp_updL zk138 (18 : Int32).toNatClampNeg rv_139 = z := ⟨_, rfl⟩
  have hky19 := zz_kyS (j := 18) hky18 ezk140 (by decide) (hq787_0.trans (by decide +kernel))
  refine zz_last (ws' := ([((r 9), .inl (G.2 3, 20, .inr (.inl zk140))), ((r 0), .inr (10, (zz_mo r [])))] ++ VM102)) (g := zk140) S hw 0 rfl (vp_in_nI (n := 18) (by decide) (by decide)) (ezk140) rfl dX10_init_790 ?_
  clear hw
  intro H locs hw
  refine lv_aload_n hx hb dX10_init_791 rfl (lv_at hl 0 rfl) ?_
  refine W.eq (g2 := F0 m 792 ls [.ref (r 0)]) rfl ?_
  refine zz_get (v := .ref (r 9)) S hw fgX10_34 1 rfl rfl dX10_init_792 ?_
  refine lv_bipush (v := 19) hx hb dX10_init_795 (by decide) ?_
  refine lv_bipush (v := 119) hx hb dX10_init_797 (by decide) ?_
  refine lv_bipush (v := 104) hx hb dX10_init_799 (by decide) ?_
  refine lv_bipush (v := 105) hx hb dX10_init_801 (by decide) ?_
  refine lv_bipush (v := 99) hx hb dX10_init_803 (by decide) ?_
  refine lv_bipush (v := 104) hx hb dX10_init_805 (by decide) ?_
  refine lv_iconst (v := 0) hx hb dX10_init_807 (by decide) ?_
  refine lv_iconst (v := 0) hx hb dX10_init_808 (by decide) ?_
  refine zz_callSQ (As := [.int 119, .int 104, .int 105, .int 99, .int 104, .int 0, .int 0]) (rest := [.int 19, .ref (r 9)]) (wr := [((r 9), .inl (G.2 3, 20, .inr (.inl zk140))), ((r 0), .inr (10, (zz_mo r [])))]) S hw hl.1 lX10_159 (c_x_word l G 119 104 105 99 104 0 0) ⟨Nat.le_of_ble_eq_true rfl, Nat.le_of_ble_eq_true rfl⟩ ⟨Nat.le_of_ble_eq_true rfl, Nat.le_of_ble_eq_true rfl⟩ [] [0, 1] (by decide) rfl rfl (by decide) (by decide) rfl rfl (Nat.le_of_ble_eq_true rfl) dX10_init_809 ?_
  clear hw
  intro rr u H locs hp hw
  refine hp.elim fun rv_141 zg0 => zg0.elim fun zee1 zg1 => zg1.elim fun zee2 hq809_0 => ?_
  clear hp zg0 zg1
  subst zee1
  subst zee2
  replace hw : zz_w G A s ([((r 9), .inl (G.2 3, 20, .inr (.inl zk140))), ((r 0), .inr (10, (zz_mo r [])))] ++ VM102) H _ := hw
  refine W.eq (g2 := F0 m 812 ls [.long rv_141, .int 19, .ref (r 9)]) rfl ?_
  obtain ⟨zk142, ezk142⟩ : ∃ z : Nat → Int64, vp_updL zk140 (19 : Int32).toNatClampNeg rv_141 = z := ⟨_, rfl⟩
  have hky20 := zz_kyS (j := 19) hky19 ezk142 (by decide) (hq809_0.trans (by decide +kernel))
  refine zz_last (ws' := ([((r 9), .inl (G.2 3, 20, .inr (.inl zk142))), ((r 0), .inr (10, (zz_mo r [])))] ++ VM102)) (g := zk142) S hw 0 rfl (vp_in_nI (n := 19) (by decide) (by decide)) (ezk142) rfl dX10_init_812 ?_
  clear hw
  intro H locs hw
  rw [eVM102] at hw
  replace hw : zz_w G A s [((r 9), .inl (G.2 3, 20, .inr (.inl zk142))), ((r 0), .inr (10, (zz_mo r []))), ((r 66), .inl (G.2 0, 213, .inl (fun _ => 0))), ((r 65), .inl (G.2 2, 3, .inl (fun _ => 0))), ((r 64), .inl (G.2 2, 20, .inl (fun _ => 0))), ((r 63), .inl (G.2 0, 20, .inl (fun _ => 0))), ((r 62), .inl (G.2 0, 20, .inl (fun _ => 0))), ((r 60), .inl (G.2 0, 6, .inl (fun _ => 0))), ((r 59), .inl (G.2 0, 896, .inl (fun _ => 0))), ((r 58), .inl (G.2 0, 42, .inl (fun _ => 0))), ((r 57), .inl (G.2 0, 2840, .inl (fun _ => 0))), ((r 55), .inl (G.2 0, 6, .inl (fun _ => 0))), ((r 54), .inl (G.2 2, 6, .inl (fun _ => 0))), ((r 53), .inl (G.2 2, 6, .inl (fun _ => 0))), ((r 52), .inl (G.2 0, 6, .inl (fun _ => 0))), ((r 49), .inl (G.2 0, 71, .inl (fun _ => 0))), ((r 48), .inl (G.2 0, 71, .inl (fun _ => 0))), ((r 46), .inl (G.2 0, 400, .inl (fun _ => 0))), ((r 45), .inl (G.2 0, 9, .inl (fun _ => 0))), ((r 43), .inl (G.2 0, 64, .inl (fun _ => 0))), ((r 42), .inl (G.2 0, 840, .inl (fun _ => 0))), ((r 41), .inl (G.2 0, 840, .inl (fun _ => 0))), ((r 39), .inl (G.2 0, 260, .inl (fun _ => 0))), ((r 38), .inl (G.2 0, 260, .inl (fun _ => 0))), ((r 37), .inl (G.2 0, 260, .inl (fun _ => 0))), ((r 36), .inl (G.2 0, 260, .inl (fun _ => 0))), ((r 35), .inl (G.2 2, 260, .inl (fun _ => 0))), ((r 29), .inl (G.2 0, 12, .inl (fun _ => 0))), ((r 28), .inl (G.2 0, 12, .inl (fun _ => 0))), ((r 27), .inl (G.2 0, 12, .inl (fun _ => 0))), ((r 25), .inl (G.2 0, 14, .inl (fun _ => 0))), ((r 24), .inl (G.2 0, 14, .inl (fun _ => 0))), ((r 23), .inl (G.2 0, 14, .inl (fun _ => 0))), ((r 21), .inl (G.2 3, 13, .inr (.inl (fun _ => 0)))), ((r 8), .inl (G.2 3, 403, .inr (.inl (fun _ => 0)))), ((r 7), .inl (G.2 0, 403, .inl (fun _ => 0))), ((r 6), .inl (G.2 0, 403, .inl (fun _ => 0))), ((r 5), .inl (G.2 0, 403, .inl (fun _ => 0))), ((r 3), .inl (G.2 1, 2000, .inl (fun _ => 0))), ((r 1), .inl (G.2 1, 2000, .inl (fun _ => 0))), ((r 22), .inl (G.2 0, 2, .inl d22_96)), ((r 26), .inl (G.2 0, 2, .inl d26_97)), ((r 30), .inl (G.2 0, 2, .inl d30_98)), ((r 31), .inl (G.2 0, 2, .inl d31_99)), ((r 32), .inl (G.2 0, 8, .inl d32_100)), ((r 33), .inl (G.2 0, 8, .inl d33_101))] H locs := hw
  refine lv_aload_n hx hb dX10_init_813 rfl (lv_at hl 0 rfl) ?_
  refine zz_callV (qb := 1) (As := []) (rest := []) (wr := [((r 9), .inl (G.2 3, 20, .inr (.inl zk142))), ((r 66), .inl (G.2 0, 213, .inl (fun _ => 0))), ((r 65), .inl (G.2 2, 3, .inl (fun _ => 0))), ((r 64), .inl (G.2 2, 20, .inl (fun _ => 0))), ((r 63), .inl (G.2 0, 20, .inl (fun _ => 0))), ((r 62), .inl (G.2 0, 20, .inl (fun _ => 0))), ((r 60), .inl (G.2 0, 6, .inl (fun _ => 0))), ((r 59), .inl (G.2 0, 896, .inl (fun _ => 0))), ((r 58), .inl (G.2 0, 42, .inl (fun _ => 0))), ((r 57), .inl (G.2 0, 2840, .inl (fun _ => 0))), ((r 55), .inl (G.2 0, 6, .inl (fun _ => 0))), ((r 54), .inl (G.2 2, 6, .inl (fun _ => 0))), ((r 53), .inl (G.2 2, 6, .inl (fun _ => 0))), ((r 52), .inl (G.2 0, 6, .inl (fun _ => 0))), ((r 48), .inl (G.2 0, 71, .inl (fun _ => 0))), ((r 46), .inl (G.2 0, 400, .inl (fun _ => 0))), ((r 45), .inl (G.2 0, 9, .inl (fun _ => 0))), ((r 43), .inl (G.2 0, 64, .inl (fun _ => 0))), ((r 42), .inl (G.2 0, 840, .inl (fun _ => 0))), ((r 41), .inl (G.2 0, 840, .inl (fun _ => 0))), ((r 39), .inl (G.2 0, 260, .inl (fun _ => 0))), ((r 38), .inl (G.2 0, 260, .inl (fun _ => 0))), ((r 37), .inl (G.2 0, 260, .inl (fun _ => 0))), ((r 36), .inl (G.2 0, 260, .inl (fun _ => 0))), ((r 35), .inl (G.2 2, 260, .inl (fun _ => 0))), ((r 29), .inl (G.2 0, 12, .inl (fun _ => 0))), ((r 28), .inl (G.2 0, 12, .inl (fun _ => 0))), ((r 25), .inl (G.2 0, 14, .inl (fun _ => 0))), ((r 24), .inl (G.2 0, 14, .inl (fun _ => 0))), ((r 21), .inl (G.2 3, 13, .inr (.inl (fun _ => 0)))), ((r 8), .inl (G.2 3, 403, .inr (.inl (fun _ => 0)))), ((r 7), .inl (G.2 0, 403, .inl (fun _ => 0))), ((r 6), .inl (G.2 0, 403, .inl (fun _ => 0))), ((r 5), .inl (G.2 0, 403, .inl (fun _ => 0))), ((r 3), .inl (G.2 1, 2000, .inl (fun _ => 0))), ((r 1), .inl (G.2 1, 2000, .inl (fun _ => 0))), ((r 30), .inl (G.2 0, 2, .inl d30_98)), ((r 32), .inl (G.2 0, 8, .inl d32_100)), ((r 33), .inl (G.2 0, 8, .inl d33_101))]) S hw hl.1 lX10_163 (c_x_begins l G r 0 0 0 0 0 0 0 0 0 0 (-1) 0 0 0 0 0 0 0 0 0 0 0 0 0 d22_96 (fun _ => 0) d26_97 (fun _ => 0) d31_99 (fun _ => 0) (by decide) (by rw [hq388_0, hq383_0]; rfl) (by decide) (by rw [hq388_1, hq383_1]; rfl) (by decide)) ⟨Nat.le_of_ble_eq_true rfl, Nat.le_of_ble_eq_true rfl⟩ ⟨Nat.le_of_ble_eq_true rfl, Nat.le_of_ble_eq_true rfl⟩ [1, 40, 32, 41, 29, 43, 15] [0, 2, 3, 4, 5, 6, 7, 8, 9, 10, 11, 12, 13, 14, 16, 17, 18, 19, 20, 21, 22, 23, 24, 25, 26, 27, 28, 30, 31, 33, 34, 35, 36, 37, 38, 39, 42, 44, 45] (by decide +kernel) rfl rfl (by decide +kernel) (by decide +kernel) rfl rfl rfl rfl (Nat.le_of_ble_eq_true rfl) dX10_init_814 ?_
  clear hw
  intro rr u H locs hp hw
  refine hp.elim fun k50_143 zg0 => zg0.elim fun k51_144 zg1 => zg1.elim fun d49_145 zg2 => zg2.elim fun zee1 zg3 => zg3.elim fun zee2 zg4 => zg4.elim fun hq814_0 zg5 => zg5.elim fun hq814_1 hq814_2 => ?_
  clear hp zg0 zg1 zg2 zg3 zg4 zg5
  subst zee1
  subst zee2
  replace hw : zz_w G A s [((r 9), .inl (G.2 3, 20, .inr (.inl zk142))), ((r 66), .inl (G.2 0, 213, .inl (fun _ => 0))), ((r 65), .inl (G.2 2, 3, .inl (fun _ => 0))), ((r 64), .inl (G.2 2, 20, .inl (fun _ => 0))), ((r 63), .inl (G.2 0, 20, .inl (fun _ => 0))), ((r 62), .inl (G.2 0, 20, .inl (fun _ => 0))), ((r 60), .inl (G.2 0, 6, .inl (fun _ => 0))), ((r 59), .inl (G.2 0, 896, .inl (fun _ => 0))), ((r 58), .inl (G.2 0, 42, .inl (fun _ => 0))), ((r 57), .inl (G.2 0, 2840, .inl (fun _ => 0))), ((r 55), .inl (G.2 0, 6, .inl (fun _ => 0))), ((r 54), .inl (G.2 2, 6, .inl (fun _ => 0))), ((r 53), .inl (G.2 2, 6, .inl (fun _ => 0))), ((r 52), .inl (G.2 0, 6, .inl (fun _ => 0))), ((r 48), .inl (G.2 0, 71, .inl (fun _ => 0))), ((r 46), .inl (G.2 0, 400, .inl (fun _ => 0))), ((r 45), .inl (G.2 0, 9, .inl (fun _ => 0))), ((r 43), .inl (G.2 0, 64, .inl (fun _ => 0))), ((r 42), .inl (G.2 0, 840, .inl (fun _ => 0))), ((r 41), .inl (G.2 0, 840, .inl (fun _ => 0))), ((r 39), .inl (G.2 0, 260, .inl (fun _ => 0))), ((r 38), .inl (G.2 0, 260, .inl (fun _ => 0))), ((r 37), .inl (G.2 0, 260, .inl (fun _ => 0))), ((r 36), .inl (G.2 0, 260, .inl (fun _ => 0))), ((r 35), .inl (G.2 2, 260, .inl (fun _ => 0))), ((r 29), .inl (G.2 0, 12, .inl (fun _ => 0))), ((r 28), .inl (G.2 0, 12, .inl (fun _ => 0))), ((r 25), .inl (G.2 0, 14, .inl (fun _ => 0))), ((r 24), .inl (G.2 0, 14, .inl (fun _ => 0))), ((r 21), .inl (G.2 3, 13, .inr (.inl (fun _ => 0)))), ((r 8), .inl (G.2 3, 403, .inr (.inl (fun _ => 0)))), ((r 7), .inl (G.2 0, 403, .inl (fun _ => 0))), ((r 6), .inl (G.2 0, 403, .inl (fun _ => 0))), ((r 5), .inl (G.2 0, 403, .inl (fun _ => 0))), ((r 3), .inl (G.2 1, 2000, .inl (fun _ => 0))), ((r 1), .inl (G.2 1, 2000, .inl (fun _ => 0))), ((r 30), .inl (G.2 0, 2, .inl d30_98)), ((r 32), .inl (G.2 0, 8, .inl d32_100)), ((r 33), .inl (G.2 0, 8, .inl d33_101)), ((r 0), .inr (10, (zz_mo r [(50, k50_143), (51, k51_144)]))), ((r 22), .inl (G.2 0, 2, .inl d22_96)), ((r 23), .inl (G.2 0, 14, .inl (fun _ => 0))), ((r 26), .inl (G.2 0, 2, .inl d26_97)), ((r 27), .inl (G.2 0, 12, .inl (fun _ => 0))), ((r 31), .inl (G.2 0, 2, .inl d31_99)), ((r 49), .inl (G.2 0, 71, .inl d49_145))] H _ := hw
  refine W.eq (g2 := F0 m 817 ls []) rfl ?_
  refine lv_aload_n hx hb dX10_init_817 rfl (lv_at hl 0 rfl) ?_
  refine W.eq (g2 := F0 m 818 ls [.ref (r 0)]) rfl ?_
  refine zz_callV (qb := 39) (As := []) (rest := []) (wr := [((r 9), .inl (G.2 3, 20, .inr (.inl zk142))), ((r 66), .inl (G.2 0, 213, .inl (fun _ => 0))), ((r 65), .inl (G.2 2, 3, .inl (fun _ => 0))), ((r 64), .inl (G.2 2, 20, .inl (fun _ => 0))), ((r 63), .inl (G.2 0, 20, .inl (fun _ => 0))), ((r 62), .inl (G.2 0, 20, .inl (fun _ => 0))), ((r 60), .inl (G.2 0, 6, .inl (fun _ => 0))), ((r 59), .inl (G.2 0, 896, .inl (fun _ => 0))), ((r 58), .inl (G.2 0, 42, .inl (fun _ => 0))), ((r 57), .inl (G.2 0, 2840, .inl (fun _ => 0))), ((r 55), .inl (G.2 0, 6, .inl (fun _ => 0))), ((r 54), .inl (G.2 2, 6, .inl (fun _ => 0))), ((r 53), .inl (G.2 2, 6, .inl (fun _ => 0))), ((r 52), .inl (G.2 0, 6, .inl (fun _ => 0))), ((r 46), .inl (G.2 0, 400, .inl (fun _ => 0))), ((r 45), .inl (G.2 0, 9, .inl (fun _ => 0))), ((r 43), .inl (G.2 0, 64, .inl (fun _ => 0))), ((r 42), .inl (G.2 0, 840, .inl (fun _ => 0))), ((r 41), .inl (G.2 0, 840, .inl (fun _ => 0))), ((r 39), .inl (G.2 0, 260, .inl (fun _ => 0))), ((r 38), .inl (G.2 0, 260, .inl (fun _ => 0))), ((r 37), .inl (G.2 0, 260, .inl (fun _ => 0))), ((r 36), .inl (G.2 0, 260, .inl (fun _ => 0))), ((r 35), .inl (G.2 2, 260, .inl (fun _ => 0))), ((r 29), .inl (G.2 0, 12, .inl (fun _ => 0))), ((r 28), .inl (G.2 0, 12, .inl (fun _ => 0))), ((r 25), .inl (G.2 0, 14, .inl (fun _ => 0))), ((r 24), .inl (G.2 0, 14, .inl (fun _ => 0))), ((r 21), .inl (G.2 3, 13, .inr (.inl (fun _ => 0)))), ((r 8), .inl (G.2 3, 403, .inr (.inl (fun _ => 0)))), ((r 7), .inl (G.2 0, 403, .inl (fun _ => 0))), ((r 6), .inl (G.2 0, 403, .inl (fun _ => 0))), ((r 5), .inl (G.2 0, 403, .inl (fun _ => 0))), ((r 3), .inl (G.2 1, 2000, .inl (fun _ => 0))), ((r 1), .inl (G.2 1, 2000, .inl (fun _ => 0))), ((r 30), .inl (G.2 0, 2, .inl d30_98)), ((r 32), .inl (G.2 0, 8, .inl d32_100)), ((r 33), .inl (G.2 0, 8, .inl d33_101)), ((r 22), .inl (G.2 0, 2, .inl d22_96)), ((r 23), .inl (G.2 0, 14, .inl (fun _ => 0))), ((r 26), .inl (G.2 0, 2, .inl d26_97)), ((r 27), .inl (G.2 0, 12, .inl (fun _ => 0))), ((r 31), .inl (G.2 0, 2, .inl d31_99))]) S hw hl.1 lX10_166 (c_x_keepsRow l G r 0 0 0 0 0 0 0 0 0 0 (-1) 0 0 0 0 0 0 0 k50_143 k51_144 0 0 (fun _ => 0) d49_145) ⟨Nat.le_of_ble_eq_true rfl, Nat.le_of_ble_eq_true rfl⟩ ⟨Nat.le_of_ble_eq_true rfl, Nat.le_of_ble_eq_true rfl⟩ [39, 14, 45] [0, 1, 2, 3, 4, 5, 6, 7, 8, 9, 10, 11, 12, 13, 15, 16, 17, 18, 19, 20, 21, 22, 23, 24, 25, 26, 27, 28, 29, 30, 31, 32, 33, 34, 35, 36, 37, 38, 40, 41, 42, 43, 44] (by decide +kernel) rfl rfl (by decide +kernel) (by decide +kernel) rfl rfl rfl rfl (Nat.le_of_ble_eq_true rfl) dX10_init_818 ?_
  clear hw
  intro rr u H locs hp hw
  refine hp.elim fun d48_146 zg0 => zg0.elim fun zee1 zg1 => zg1.elim fun zee2 hq818_0 => ?_
  clear hp zg0 zg1
  subst zee1
  subst zee2
  replace hw : zz_w G A s [((r 9), .inl (G.2 3, 20, .inr (.inl zk142))), ((r 66), .inl (G.2 0, 213, .inl (fun _ => 0))), ((r 65), .inl (G.2 2, 3, .inl (fun _ => 0))), ((r 64), .inl (G.2 2, 20, .inl (fun _ => 0))), ((r 63), .inl (G.2 0, 20, .inl (fun _ => 0))), ((r 62), .inl (G.2 0, 20, .inl (fun _ => 0))), ((r 60), .inl (G.2 0, 6, .inl (fun _ => 0))), ((r 59), .inl (G.2 0, 896, .inl (fun _ => 0))), ((r 58), .inl (G.2 0, 42, .inl (fun _ => 0))), ((r 57), .inl (G.2 0, 2840, .inl (fun _ => 0))), ((r 55), .inl (G.2 0, 6, .inl (fun _ => 0))), ((r 54), .inl (G.2 2, 6, .inl (fun _ => 0))), ((r 53), .inl (G.2 2, 6, .inl (fun _ => 0))), ((r 52), .inl (G.2 0, 6, .inl (fun _ => 0))), ((r 46), .inl (G.2 0, 400, .inl (fun _ => 0))), ((r 45), .inl (G.2 0, 9, .inl (fun _ => 0))), ((r 43), .inl (G.2 0, 64, .inl (fun _ => 0))), ((r 42), .inl (G.2 0, 840, .inl (fun _ => 0))), ((r 41), .inl (G.2 0, 840, .inl (fun _ => 0))), ((r 39), .inl (G.2 0, 260, .inl (fun _ => 0))), ((r 38), .inl (G.2 0, 260, .inl (fun _ => 0))), ((r 37), .inl (G.2 0, 260, .inl (fun _ => 0))), ((r 36), .inl (G.2 0, 260, .inl (fun _ => 0))), ((r 35), .inl (G.2 2, 260, .inl (fun _ => 0))), ((r 29), .inl (G.2 0, 12, .inl (fun _ => 0))), ((r 28), .inl (G.2 0, 12, .inl (fun _ => 0))), ((r 25), .inl (G.2 0, 14, .inl (fun _ => 0))), ((r 24), .inl (G.2 0, 14, .inl (fun _ => 0))), ((r 21), .inl (G.2 3, 13, .inr (.inl (fun _ => 0)))), ((r 8), .inl (G.2 3, 403, .inr (.inl (fun _ => 0)))), ((r 7), .inl (G.2 0, 403, .inl (fun _ => 0))), ((r 6), .inl (G.2 0, 403, .inl (fun _ => 0))), ((r 5), .inl (G.2 0, 403, .inl (fun _ => 0))), ((r 3), .inl (G.2 1, 2000, .inl (fun _ => 0))), ((r 1), .inl (G.2 1, 2000, .inl (fun _ => 0))), ((r 30), .inl (G.2 0, 2, .inl d30_98)), ((r 32), .inl (G.2 0, 8, .inl d32_100)), ((r 33), .inl (G.2 0, 8, .inl d33_101)), ((r 22), .inl (G.2 0, 2, .inl d22_96)), ((r 23), .inl (G.2 0, 14, .inl (fun _ => 0))), ((r 26), .inl (G.2 0, 2, .inl d26_97)), ((r 27), .inl (G.2 0, 12, .inl (fun _ => 0))), ((r 31), .inl (G.2 0, 2, .inl d31_99)), ((r 0), .inr (10, (zz_mo r [(50, k50_143), (51, k51_144)]))), ((r 48), .inl (G.2 0, 71, .inl d48_146)), ((r 49), .inl (G.2 0, 71, .inl d49_145))] H _ := hw
  refine W.eq (g2 := F0 m 821 ls []) rfl ?_
  refine W.widen (k := 45) (n := 13426) (by omega) (by omega) ?_
  refine hret _ _ (zz_RW G r 0 (fun (kk9 : Nat) => cond (Nat.ble kk9 31) (cond (Nat.ble kk9 26) (cond (Nat.ble kk9 22) (cond (Nat.beq kk9 22) (d22_96) ((fun _ => 0))) (cond (Nat.beq kk9 26) (d26_97) ((fun _ => 0)))) (cond (Nat.ble kk9 30) (cond (Nat.beq kk9 30) (d30_98) ((fun _ => 0))) (cond (Nat.beq kk9 31) (d31_99) ((fun _ => 0))))) (cond (Nat.ble kk9 33) (cond (Nat.ble kk9 32) (cond (Nat.beq kk9 32) (d32_100) ((fun _ => 0))) (cond (Nat.beq kk9 33) (d33_101) ((fun _ => 0)))) (cond (Nat.ble kk9 48) (cond (Nat.beq kk9 48) (d48_146) ((fun _ => 0))) (cond (Nat.beq kk9 49) (d49_145) ((fun _ => 0)))))) (fun (kk9 : Nat) => cond (Nat.beq kk9 9) (zk142) ((fun _ => 0))) (fun (kk9 : Nat) => cond (Nat.ble kk9 17) (cond (Nat.beq kk9 17) ((-1)) (0)) (cond (Nat.ble kk9 50) (cond (Nat.beq kk9 50) (k50_143) (0)) (cond (Nat.beq kk9 51) (k51_144) (0)))) (fun (kk9 : Nat) => 0)) _ _ ⟨rfl, r, e0, (fun (kk9 : Nat) => cond (Nat.ble kk9 31) (cond (Nat.ble kk9 26) (cond (Nat.ble kk9 22) (cond (Nat.beq kk9 22) (d22_96) ((fun _ => 0))) (cond (Nat.beq kk9 26) (d26_97) ((fun _ => 0)))) (cond (Nat.ble kk9 30) (cond (Nat.beq kk9 30) (d30_98) ((fun _ => 0))) (cond (Nat.beq kk9 31) (d31_99) ((fun _ => 0))))) (cond (Nat.ble kk9 33) (cond (Nat.ble kk9 32) (cond (Nat.beq kk9 32) (d32_100) ((fun _ => 0))) (cond (Nat.beq kk9 33) (d33_101) ((fun _ => 0)))) (cond (Nat.ble kk9 48) (cond (Nat.beq kk9 48) (d48_146) ((fun _ => 0))) (cond (Nat.beq kk9 49) (d49_145) ((fun _ => 0)))))), (fun (kk9 : Nat) => cond (Nat.beq kk9 9) (zk142) ((fun _ => 0))), (fun (kk9 : Nat) => cond (Nat.ble kk9 17) (cond (Nat.beq kk9 17) ((-1)) (0)) (cond (Nat.ble kk9 50) (cond (Nat.beq kk9 50) (k50_143) (0)) (cond (Nat.beq kk9 51) (k51_144) (0)))), (fun (kk9 : Nat) => 0), ⟨(Nat.zero_le _), (Nat.zero_le _), (Nat.zero_le _), (Nat.zero_le _), (fun j _ => show ¬ (0 : Int32) < 0 by decide), (fun j _ => ⟨0, by decide, by show d22_96 j = nI 0; rw [hq388_0, hq383_0]; exact zz_uz⟩), (fun j _ => ⟨0, by decide, by show d26_97 j = nI 0; rw [hq388_1, hq383_1]; exact zz_uz⟩), (fun q _ => ⟨0, 0, zz_uf hq388_2 hq383_2 q, zz_uf hq388_3 hq383_3 q, Nat.le_refl _, by decide, fun b _ h => absurd h (Nat.not_lt_zero b)⟩), (fun j _ => Or.inr ⟨0, by decide, rfl⟩), (fun j _ => ⟨0, by decide, rfl⟩), (fun j _ => show zz_p7 0 by decide), hky20, (funext (fun k => show (0 : Int32) &&& 255 = 0 by decide)), rfl, ⟨0, by decide, by show d26_97 0 = nI 0; rw [hq388_1, hq383_1]; exact zz_uz, rfl, rfl, fun _ _ => rfl⟩, (zy_S0R hq383_2 hq383_3 hq383_4 hq383_5 hq388_2 hq388_3 hq388_4 hq388_5), ⟨⟨by show d22_96 0 = nI 0; rw [hq388_0, hq383_0]; exact zz_uz, by decide⟩, by show d26_97 0 = nI 0; rw [hq388_1, hq383_1]; exact zz_uz, by decide⟩, (zy_b0R hq814_0 hq818_0), zy_HR0, (zy_SR0 (fun _ _ => rfl)), zz_td00⟩, rfl⟩ ?_ dX10_init_821
  exact hw.sub [43, 34, 33, 32, 31, 30, 29, 0, 28, 38, 39, 27, 26, 40, 41, 25, 24, 35, 42, 36, 37, 23, 22, 21, 20, 19, 18, 17, 16, 15, 14, 44, 45, 13, 12, 11, 10, 9, 8, 7, 6, 5, 4, 3, 2, 1] (by decide +kernel) rfl
