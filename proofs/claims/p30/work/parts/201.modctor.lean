theorem dX10_init_0 : decode cX10_init 0 = .ok (.aload_n 0, 1) := by decide +kernel
theorem dX10_init_1 : decode cX10_init 1 = .ok (.invokespecial 1, 3) := by decide +kernel
theorem dX10_init_12 : decode cX10_init 12 = .ok (.aload_n 0, 1) := by decide +kernel
theorem dX10_init_13 : decode cX10_init 13 = .ok (.sipush 312, 3) := by decide +kernel
theorem dX10_init_16 : decode cX10_init 16 = .ok (.newarray .int, 2) := by decide +kernel
theorem dX10_init_18 : decode cX10_init 18 = .ok (.putfield 13, 3) := by decide +kernel
theorem dX10_init_21 : decode cX10_init 21 = .ok (.aload_n 0, 1) := by decide +kernel
theorem dX10_init_22 : decode cX10_init 22 = .ok (.sipush 200, 3) := by decide +kernel
theorem dX10_init_25 : decode cX10_init 25 = .ok (.newarray .byte, 2) := by decide +kernel
theorem dX10_init_27 : decode cX10_init 27 = .ok (.putfield 16, 3) := by decide +kernel
theorem dX10_init_30 : decode cX10_init 30 = .ok (.aload_n 0, 1) := by decide +kernel
theorem dX10_init_31 : decode cX10_init 31 = .ok (.bipush 6, 2) := by decide +kernel
theorem dX10_init_33 : decode cX10_init 33 = .ok (.newarray .int, 2) := by decide +kernel
theorem dX10_init_35 : decode cX10_init 35 = .ok (.putfield 20, 3) := by decide +kernel
theorem dX10_init_38 : decode cX10_init 38 = .ok (.aload_n 0, 1) := by decide +kernel
theorem dX10_init_39 : decode cX10_init 39 = .ok (.bipush 6, 2) := by decide +kernel
theorem dX10_init_4 : decode cX10_init 4 = .ok (.aload_n 0, 1) := by decide +kernel
theorem dX10_init_41 : decode cX10_init 41 = .ok (.newarray .int, 2) := by decide +kernel
theorem dX10_init_43 : decode cX10_init 43 = .ok (.putfield 23, 3) := by decide +kernel
theorem dX10_init_46 : decode cX10_init 46 = .ok (.aload_n 0, 1) := by decide +kernel
theorem dX10_init_47 : decode cX10_init 47 = .ok (.bipush 6, 2) := by decide +kernel
theorem dX10_init_49 : decode cX10_init 49 = .ok (.newarray .int, 2) := by decide +kernel
theorem dX10_init_5 : decode cX10_init 5 = .ok (.bipush 120, 2) := by decide +kernel
theorem dX10_init_51 : decode cX10_init 51 = .ok (.putfield 26, 3) := by decide +kernel
theorem dX10_init_54 : decode cX10_init 54 = .ok (.aload_n 0, 1) := by decide +kernel
theorem dX10_init_55 : decode cX10_init 55 = .ok (.bipush 6, 2) := by decide +kernel
theorem dX10_init_57 : decode cX10_init 57 = .ok (.newarray .int, 2) := by decide +kernel
theorem dX10_init_59 : decode cX10_init 59 = .ok (.putfield 29, 3) := by decide +kernel
theorem dX10_init_62 : decode cX10_init 62 = .ok (.aload_n 0, 1) := by decide +kernel
theorem dX10_init_63 : decode cX10_init 63 = .ok (.bipush 6, 2) := by decide +kernel
theorem dX10_init_65 : decode cX10_init 65 = .ok (.newarray .int, 2) := by decide +kernel
theorem dX10_init_67 : decode cX10_init 67 = .ok (.putfield 32, 3) := by decide +kernel
theorem dX10_init_7 : decode cX10_init 7 = .ok (.newarray .int, 2) := by decide +kernel
theorem dX10_init_9 : decode cX10_init 9 = .ok (.putfield 7, 3) := by decide +kernel
theorem dX10_init_70 : decode cX10_init 70 = .ok (.aload_n 0, 1) := by decide +kernel
theorem dX10_init_71 : decode cX10_init 71 = .ok (.getfield 7, 3) := by decide +kernel
theorem dX10_init_74 : decode cX10_init 74 = .ok (.bipush 8, 2) := by decide +kernel
theorem dX10_init_76 : decode cX10_init 76 = .ok (.iconst 2, 1) := by decide +kernel
theorem dX10_init_77 : decode cX10_init 77 = .ok (.iastore, 1) := by decide +kernel
theorem dX10_init_78 : decode cX10_init 78 = .ok (.aload_n 0, 1) := by decide +kernel
theorem dX10_init_79 : decode cX10_init 79 = .ok (.getfield 7, 3) := by decide +kernel
theorem dX10_init_82 : decode cX10_init 82 = .ok (.iconst 0, 1) := by decide +kernel
theorem dX10_init_83 : decode cX10_init 83 = .ok (.iconst 2, 1) := by decide +kernel
theorem dX10_init_84 : decode cX10_init 84 = .ok (.iastore, 1) := by decide +kernel
theorem dX10_init_85 : decode cX10_init 85 = .ok (.aload_n 0, 1) := by decide +kernel
theorem dX10_init_86 : decode cX10_init 86 = .ok (.getfield 7, 3) := by decide +kernel
theorem dX10_init_89 : decode cX10_init 89 = .ok (.iconst 4, 1) := by decide +kernel
theorem dX10_init_90 : decode cX10_init 90 = .ok (.bipush 13, 2) := by decide +kernel
theorem dX10_init_92 : decode cX10_init 92 = .ok (.iastore, 1) := by decide +kernel
theorem dX10_init_93 : decode cX10_init 93 = .ok (.aload_n 0, 1) := by decide +kernel
theorem dX10_init_94 : decode cX10_init 94 = .ok (.getfield 7, 3) := by decide +kernel
theorem dX10_init_97 : decode cX10_init 97 = .ok (.iconst 1, 1) := by decide +kernel
theorem dX10_init_98 : decode cX10_init 98 = .ok (.bipush 12, 2) := by decide +kernel
theorem dX10_init_100 : decode cX10_init 100 = .ok (.iastore, 1) := by decide +kernel
theorem dX10_init_101 : decode cX10_init 101 = .ok (.aload_n 0, 1) := by decide +kernel
theorem dX10_init_102 : decode cX10_init 102 = .ok (.getfield 7, 3) := by decide +kernel
theorem dX10_init_105 : decode cX10_init 105 = .ok (.iconst 5, 1) := by decide +kernel
theorem dX10_init_106 : decode cX10_init 106 = .ok (.iconst 3, 1) := by decide +kernel
theorem dX10_init_107 : decode cX10_init 107 = .ok (.iastore, 1) := by decide +kernel
theorem dX10_init_108 : decode cX10_init 108 = .ok (.aload_n 0, 1) := by decide +kernel
theorem dX10_init_109 : decode cX10_init 109 = .ok (.getfield 7, 3) := by decide +kernel
theorem dX10_init_112 : decode cX10_init 112 = .ok (.bipush 10, 2) := by decide +kernel
theorem dX10_init_114 : decode cX10_init 114 = .ok (.iconst 4, 1) := by decide +kernel
theorem dX10_init_115 : decode cX10_init 115 = .ok (.iastore, 1) := by decide +kernel
theorem dX10_init_116 : decode cX10_init 116 = .ok (.aload_n 0, 1) := by decide +kernel
theorem dX10_init_117 : decode cX10_init 117 = .ok (.iconst 0, 1) := by decide +kernel
theorem dX10_init_118 : decode cX10_init 118 = .ok (.bipush 8, 2) := by decide +kernel
theorem dX10_init_120 : decode cX10_init 120 = .ok (.bipush 8, 2) := by decide +kernel
theorem dX10_init_122 : decode cX10_init 122 = .ok (.iconst 0, 1) := by decide +kernel
theorem dX10_init_123 : decode cX10_init 123 = .ok (.iconst 0, 1) := by decide +kernel
theorem dX10_init_124 : decode cX10_init 124 = .ok (.iconst 0, 1) := by decide +kernel
theorem dX10_init_125 : decode cX10_init 125 = .ok (.invokevirtual 35, 3) := by decide +kernel
theorem dX10_init_128 : decode cX10_init 128 = .ok (.aload_n 0, 1) := by decide +kernel
theorem dX10_init_129 : decode cX10_init 129 = .ok (.iconst 0, 1) := by decide +kernel
theorem dX10_init_130 : decode cX10_init 130 = .ok (.bipush 8, 2) := by decide +kernel
theorem dX10_init_132 : decode cX10_init 132 = .ok (.bipush 9, 2) := by decide +kernel
theorem dX10_init_134 : decode cX10_init 134 = .ok (.iconst 0, 1) := by decide +kernel
theorem dX10_init_135 : decode cX10_init 135 = .ok (.iconst 1, 1) := by decide +kernel
theorem dX10_init_136 : decode cX10_init 136 = .ok (.iconst 0, 1) := by decide +kernel
theorem dX10_init_137 : decode cX10_init 137 = .ok (.invokevirtual 35, 3) := by decide +kernel
theorem dX10_init_140 : decode cX10_init 140 = .ok (.aload_n 0, 1) := by decide +kernel
theorem dX10_init_141 : decode cX10_init 141 = .ok (.iconst 0, 1) := by decide +kernel
theorem dX10_init_142 : decode cX10_init 142 = .ok (.bipush 7, 2) := by decide +kernel
theorem dX10_init_144 : decode cX10_init 144 = .ok (.bipush 8, 2) := by decide +kernel
theorem dX10_init_146 : decode cX10_init 146 = .ok (.iconst 1, 1) := by decide +kernel
theorem dX10_init_147 : decode cX10_init 147 = .ok (.iconst 1, 1) := by decide +kernel
theorem dX10_init_148 : decode cX10_init 148 = .ok (.iconst 1, 1) := by decide +kernel
theorem dX10_init_149 : decode cX10_init 149 = .ok (.invokevirtual 35, 3) := by decide +kernel
theorem dX10_init_152 : decode cX10_init 152 = .ok (.aload_n 0, 1) := by decide +kernel
theorem dX10_init_153 : decode cX10_init 153 = .ok (.iconst 0, 1) := by decide +kernel
theorem dX10_init_154 : decode cX10_init 154 = .ok (.bipush 9, 2) := by decide +kernel
theorem dX10_init_156 : decode cX10_init 156 = .ok (.bipush 8, 2) := by decide +kernel
theorem dX10_init_158 : decode cX10_init 158 = .ok (.iconst 0, 1) := by decide +kernel
theorem dX10_init_159 : decode cX10_init 159 = .ok (.iconst 0, 1) := by decide +kernel
theorem dX10_init_160 : decode cX10_init 160 = .ok (.iconst 2, 1) := by decide +kernel
theorem dX10_init_161 : decode cX10_init 161 = .ok (.invokevirtual 35, 3) := by decide +kernel
theorem dX10_init_164 : decode cX10_init 164 = .ok (.aload_n 0, 1) := by decide +kernel
theorem dX10_init_165 : decode cX10_init 165 = .ok (.iconst 0, 1) := by decide +kernel
theorem dX10_init_166 : decode cX10_init 166 = .ok (.bipush 8, 2) := by decide +kernel
theorem dX10_init_168 : decode cX10_init 168 = .ok (.bipush 7, 2) := by decide +kernel
theorem dX10_init_170 : decode cX10_init 170 = .ok (.iconst 1, 1) := by decide +kernel
theorem dX10_init_171 : decode cX10_init 171 = .ok (.iconst 1, 1) := by decide +kernel
theorem dX10_init_172 : decode cX10_init 172 = .ok (.iconst 4, 1) := by decide +kernel
theorem dX10_init_173 : decode cX10_init 173 = .ok (.invokevirtual 35, 3) := by decide +kernel
theorem dX10_init_176 : decode cX10_init 176 = .ok (.aload_n 0, 1) := by decide +kernel
theorem dX10_init_177 : decode cX10_init 177 = .ok (.iconst 0, 1) := by decide +kernel
theorem dX10_init_178 : decode cX10_init 178 = .ok (.iconst 0, 1) := by decide +kernel
theorem dX10_init_179 : decode cX10_init 179 = .ok (.iconst 3, 1) := by decide +kernel
theorem dX10_init_180 : decode cX10_init 180 = .ok (.invokevirtual 39, 3) := by decide +kernel
theorem dX10_init_183 : decode cX10_init 183 = .ok (.aload_n 0, 1) := by decide +kernel
theorem dX10_init_184 : decode cX10_init 184 = .ok (.iconst 0, 1) := by decide +kernel
theorem dX10_init_185 : decode cX10_init 185 = .ok (.iconst 2, 1) := by decide +kernel
theorem dX10_init_186 : decode cX10_init 186 = .ok (.iconst 2, 1) := by decide +kernel
theorem dX10_init_187 : decode cX10_init 187 = .ok (.invokevirtual 39, 3) := by decide +kernel
theorem dX10_init_190 : decode cX10_init 190 = .ok (.aload_n 0, 1) := by decide +kernel
theorem dX10_init_191 : decode cX10_init 191 = .ok (.iconst 0, 1) := by decide +kernel
theorem dX10_init_192 : decode cX10_init 192 = .ok (.iconst 1, 1) := by decide +kernel
theorem dX10_init_193 : decode cX10_init 193 = .ok (.iconst 4, 1) := by decide +kernel
theorem dX10_init_194 : decode cX10_init 194 = .ok (.invokevirtual 39, 3) := by decide +kernel
theorem dX10_init_197 : decode cX10_init 197 = .ok (.aload_n 0, 1) := by decide +kernel
theorem dX10_init_198 : decode cX10_init 198 = .ok (.invokevirtual 43, 3) := by decide +kernel
theorem dX10_init_201 : decode cX10_init 201 = .ok (.return_, 1) := by decide +kernel
def s_Mod_tail_b70  (g : z_G) : Option (z_G) := (z_let (α := z_G) (z_wr g 1 8 2) fun g16q => (z_let (α := z_G) (z_wr g16q 1 0 2) fun g17q => (z_let (α := z_G) (z_wr g17q 1 4 13) fun g18q => (z_let (α := z_G) (z_wr g18q 1 1 12) fun g19q => (z_let (α := z_G) (z_wr g19q 1 5 3) fun g20q => (z_let (α := z_G) (z_wr g20q 1 10 4) fun g21q => (Option.bind (s_Mod_puts 0 8 8 0 0 0 g21q) fun r22q => (Option.bind (s_Mod_puts 0 8 9 0 1 0 r22q) fun r23q => (Option.bind (s_Mod_puts 0 7 8 1 1 1 r23q) fun r24q => (Option.bind (s_Mod_puts 0 9 8 0 0 2 r24q) fun r25q => (Option.bind (s_Mod_puts 0 8 7 1 1 4 r25q) fun r26q => (Option.bind (s_Mod_tells 0 0 3 r26q) fun r27q => (Option.bind (s_Mod_tells 0 2 2 r27q) fun r28q => (Option.bind (s_Mod_tells 0 1 4 r28q) fun r29q => (Option.bind (s_Mod_stands r29q) fun r30q => (some r30q))))))))))))))))
set_option maxHeartbeats 1000000 in
set_option maxRecDepth 20000 in
theorem b_Mod_tail_b70 {X : z_X} {E : z_ET} {o : z_G} (hE : z_EV X E cX10_init 1 RX10 1 27 80) {r : z_G} (hret : ∀ (pc : Nat) (lv : List (Nat × Value)), decode cX10_init pc = .ok (.return_, 1) → z_V X E 1 o r pc lv [])  (g : z_G)  (h : s_Mod_tail_b70 g = some r) : z_V X E 1 o g 70 [(0, .ref (z_ad X 71))] [] := by
  unfold s_Mod_tail_b70 at h
  refine z_aload_n hE 0 dX10_init_70 rfl ?_
  refine z_get hE f_RX10_7 (by decide) e_71 rfl dX10_init_71 ?_
  refine z_bipush (v := 8) hE dX10_init_74 rfl ?_
  refine z_iconst (v := 2) hE dX10_init_76 rfl ?_
  obtain ⟨g16q, eg16q, h⟩ := z_let_eq h
  refine z_iast hE (by decide) e_72 (by decide) (ua_72 eg16q) dX10_init_77 ?_
  refine z_aload_n hE 0 dX10_init_78 rfl ?_
  refine z_get hE f_RX10_7 (by decide) e_71 rfl dX10_init_79 ?_
  refine z_iconst (v := 0) hE dX10_init_82 rfl ?_
  refine z_iconst (v := 2) hE dX10_init_83 rfl ?_
  obtain ⟨g17q, eg17q, h⟩ := z_let_eq h
  refine z_iast hE (by decide) e_72 (by decide) (ua_72 eg17q) dX10_init_84 ?_
  refine z_aload_n hE 0 dX10_init_85 rfl ?_
  refine z_get hE f_RX10_7 (by decide) e_71 rfl dX10_init_86 ?_
  refine z_iconst (v := 4) hE dX10_init_89 rfl ?_
  refine z_bipush (v := 13) hE dX10_init_90 rfl ?_
  obtain ⟨g18q, eg18q, h⟩ := z_let_eq h
  refine z_iast hE (by decide) e_72 (by decide) (ua_72 eg18q) dX10_init_92 ?_
  refine z_aload_n hE 0 dX10_init_93 rfl ?_
  refine z_get hE f_RX10_7 (by decide) e_71 rfl dX10_init_94 ?_
  refine z_iconst (v := 1) hE dX10_init_97 rfl ?_
  refine z_bipush (v := 12) hE dX10_init_98 rfl ?_
  obtain ⟨g19q, eg19q, h⟩ := z_let_eq h
  refine z_iast hE (by decide) e_72 (by decide) (ua_72 eg19q) dX10_init_100 ?_
  refine z_aload_n hE 0 dX10_init_101 rfl ?_
  refine z_get hE f_RX10_7 (by decide) e_71 rfl dX10_init_102 ?_
  refine z_iconst (v := 5) hE dX10_init_105 rfl ?_
  refine z_iconst (v := 3) hE dX10_init_106 rfl ?_
  obtain ⟨g20q, eg20q, h⟩ := z_let_eq h
  refine z_iast hE (by decide) e_72 (by decide) (ua_72 eg20q) dX10_init_107 ?_
  refine z_aload_n hE 0 dX10_init_108 rfl ?_
  refine z_get hE f_RX10_7 (by decide) e_71 rfl dX10_init_109 ?_
  refine z_bipush (v := 10) hE dX10_init_112 rfl ?_
  refine z_iconst (v := 4) hE dX10_init_114 rfl ?_
  obtain ⟨g21q, eg21q, h⟩ := z_let_eq h
  refine z_iast hE (by decide) e_72 (by decide) (ua_72 eg21q) dX10_init_115 ?_
  refine z_aload_n hE 0 dX10_init_116 rfl ?_
  refine z_iconst (v := 0) hE dX10_init_117 rfl ?_
  refine z_bipush (v := 8) hE dX10_init_118 rfl ?_
  refine z_bipush (v := 8) hE dX10_init_120 rfl ?_
  refine z_iconst (v := 0) hE dX10_init_122 rfl ?_
  refine z_iconst (v := 0) hE dX10_init_123 rfl ?_
  refine z_iconst (v := 0) hE dX10_init_124 rfl ?_
  obtain ⟨r22q, hr22q, h⟩ := z_bind_some h
  refine z_vV (rest := []) (av := [.int 0, .int 8, .int 8, .int 0, .int 0, .int 0]) hE (c_Mod_puts 0 8 8 0 0 0 g21q r22q hr22q) l_RX10_35 (by decide) (by decide) e_71 rfl ⟨by decide, by decide⟩ dX10_init_125 rfl (Nat.le_of_ble_eq_true rfl) ?_
  refine z_aload_n hE 0 dX10_init_128 rfl ?_
  refine z_iconst (v := 0) hE dX10_init_129 rfl ?_
  refine z_bipush (v := 8) hE dX10_init_130 rfl ?_
  refine z_bipush (v := 9) hE dX10_init_132 rfl ?_
  refine z_iconst (v := 0) hE dX10_init_134 rfl ?_
  refine z_iconst (v := 1) hE dX10_init_135 rfl ?_
  refine z_iconst (v := 0) hE dX10_init_136 rfl ?_
  obtain ⟨r23q, hr23q, h⟩ := z_bind_some h
  refine z_vV (rest := []) (av := [.int 0, .int 8, .int 9, .int 0, .int 1, .int 0]) hE (c_Mod_puts 0 8 9 0 1 0 r22q r23q hr23q) l_RX10_35 (by decide) (by decide) e_71 rfl ⟨by decide, by decide⟩ dX10_init_137 rfl (Nat.le_of_ble_eq_true rfl) ?_
  refine z_aload_n hE 0 dX10_init_140 rfl ?_
  refine z_iconst (v := 0) hE dX10_init_141 rfl ?_
  refine z_bipush (v := 7) hE dX10_init_142 rfl ?_
  refine z_bipush (v := 8) hE dX10_init_144 rfl ?_
  refine z_iconst (v := 1) hE dX10_init_146 rfl ?_
  refine z_iconst (v := 1) hE dX10_init_147 rfl ?_
  refine z_iconst (v := 1) hE dX10_init_148 rfl ?_
  obtain ⟨r24q, hr24q, h⟩ := z_bind_some h
  refine z_vV (rest := []) (av := [.int 0, .int 7, .int 8, .int 1, .int 1, .int 1]) hE (c_Mod_puts 0 7 8 1 1 1 r23q r24q hr24q) l_RX10_35 (by decide) (by decide) e_71 rfl ⟨by decide, by decide⟩ dX10_init_149 rfl (Nat.le_of_ble_eq_true rfl) ?_
  refine z_aload_n hE 0 dX10_init_152 rfl ?_
  refine z_iconst (v := 0) hE dX10_init_153 rfl ?_
  refine z_bipush (v := 9) hE dX10_init_154 rfl ?_
  refine z_bipush (v := 8) hE dX10_init_156 rfl ?_
  refine z_iconst (v := 0) hE dX10_init_158 rfl ?_
  refine z_iconst (v := 0) hE dX10_init_159 rfl ?_
  refine z_iconst (v := 2) hE dX10_init_160 rfl ?_
  obtain ⟨r25q, hr25q, h⟩ := z_bind_some h
  refine z_vV (rest := []) (av := [.int 0, .int 9, .int 8, .int 0, .int 0, .int 2]) hE (c_Mod_puts 0 9 8 0 0 2 r24q r25q hr25q) l_RX10_35 (by decide) (by decide) e_71 rfl ⟨by decide, by decide⟩ dX10_init_161 rfl (Nat.le_of_ble_eq_true rfl) ?_
  refine z_aload_n hE 0 dX10_init_164 rfl ?_
  refine z_iconst (v := 0) hE dX10_init_165 rfl ?_
  refine z_bipush (v := 8) hE dX10_init_166 rfl ?_
  refine z_bipush (v := 7) hE dX10_init_168 rfl ?_
  refine z_iconst (v := 1) hE dX10_init_170 rfl ?_
  refine z_iconst (v := 1) hE dX10_init_171 rfl ?_
  refine z_iconst (v := 4) hE dX10_init_172 rfl ?_
  obtain ⟨r26q, hr26q, h⟩ := z_bind_some h
  refine z_vV (rest := []) (av := [.int 0, .int 8, .int 7, .int 1, .int 1, .int 4]) hE (c_Mod_puts 0 8 7 1 1 4 r25q r26q hr26q) l_RX10_35 (by decide) (by decide) e_71 rfl ⟨by decide, by decide⟩ dX10_init_173 rfl (Nat.le_of_ble_eq_true rfl) ?_
  refine z_aload_n hE 0 dX10_init_176 rfl ?_
  refine z_iconst (v := 0) hE dX10_init_177 rfl ?_
  refine z_iconst (v := 0) hE dX10_init_178 rfl ?_
  refine z_iconst (v := 3) hE dX10_init_179 rfl ?_
  obtain ⟨r27q, hr27q, h⟩ := z_bind_some h
  refine z_vV (rest := []) (av := [.int 0, .int 0, .int 3]) hE (c_Mod_tells 0 0 3 r26q r27q hr27q) l_RX10_39 (by decide) (by decide) e_71 rfl ⟨by decide, by decide⟩ dX10_init_180 rfl (Nat.le_of_ble_eq_true rfl) ?_
  refine z_aload_n hE 0 dX10_init_183 rfl ?_
  refine z_iconst (v := 0) hE dX10_init_184 rfl ?_
  refine z_iconst (v := 2) hE dX10_init_185 rfl ?_
  refine z_iconst (v := 2) hE dX10_init_186 rfl ?_
  obtain ⟨r28q, hr28q, h⟩ := z_bind_some h
  refine z_vV (rest := []) (av := [.int 0, .int 2, .int 2]) hE (c_Mod_tells 0 2 2 r27q r28q hr28q) l_RX10_39 (by decide) (by decide) e_71 rfl ⟨by decide, by decide⟩ dX10_init_187 rfl (Nat.le_of_ble_eq_true rfl) ?_
  refine z_aload_n hE 0 dX10_init_190 rfl ?_
  refine z_iconst (v := 0) hE dX10_init_191 rfl ?_
  refine z_iconst (v := 1) hE dX10_init_192 rfl ?_
  refine z_iconst (v := 4) hE dX10_init_193 rfl ?_
  obtain ⟨r29q, hr29q, h⟩ := z_bind_some h
  refine z_vV (rest := []) (av := [.int 0, .int 1, .int 4]) hE (c_Mod_tells 0 1 4 r28q r29q hr29q) l_RX10_39 (by decide) (by decide) e_71 rfl ⟨by decide, by decide⟩ dX10_init_194 rfl (Nat.le_of_ble_eq_true rfl) ?_
  refine z_aload_n hE 0 dX10_init_197 rfl ?_
  obtain ⟨r30q, hr30q, h⟩ := z_bind_some h
  refine z_vV (rest := []) (av := []) hE (c_Mod_stands r29q r30q hr30q) l_RX10_43 (by decide) (by decide) e_71 rfl ⟨by decide, by decide⟩ dX10_init_198 rfl (Nat.le_of_ble_eq_true rfl) ?_
  obtain rfl := Option.some.inj h
  exact hret _ _ dX10_init_201
theorem z_UputFp {X : z_X} {E : z_ET} {cc : ByteArray} {nL : Nat} {own : String} {fr lo mc ms : Nat} {A : Nat → Prop} {pre lw : va_W} {ce sl pc : Nat} {lv : List (Nat × Value)} {rest : List Value} (hE : z_EU X E cc nL own fr lo mc ms A) {idx N ci j k a : Nat} {C : String} {T : u_T} {ty0 : Nat → FieldType} {fs : List Value} {v : Value} {ty : FieldType} (f : z_FL own idx C T N ci j) (ft : z_FT T N ty0) (he : lw[k]? = some (a, .inr (ci, fs))) (hfin : (T j).2.2.2 = true) (hj : own ∉ z_noi) (hdecl : (T j).1 = own) (hd : parseFieldDescriptor (T j).2.2.1 = some ty) (hn : narrow ty v = v) (hfit : fits ty v = true) (hlen : j < fs.length) (d : decode cc pc = .ok (.putfield idx, 3)) (kk : z_U X E nL A (pre ++ lw.set k (a, .inr (ci, fs.set j v))) ce sl (pc + 3) lv rest) : z_U X E nL A (pre ++ lw) ce sl pc lv (v :: .ref a :: rest) := by
  refine z_UputF (k := pre.length + k) hE f ft (by rw [List.getElem?_append_right (Nat.le_add_right _ _), Nat.add_sub_cancel_left]; exact he) hfin hj hdecl hd hn hfit hlen d (z_Uws (ws2 := pre ++ lw.set k (a, .inr (ci, fs.set j v))) ?_ kk)
  rw [List.set_append_right _ _ (Nat.le_add_right _ _), Nat.add_sub_cancel_left]
theorem z_getD {α : Type} {l : List α} {j : Nat} {d : α} (h : j < l.length) : l[j]? = some (l.getD j d) := by
  rw [List.getD_eq_getElem?_getD, List.getElem?_eq_getElem h]
  rfl
theorem z_tab_congr {X1 X2 : z_X} (h : ∀ i, i < 71 → z_ad X1 i = z_ad X2 i) (hc : z_cA X1 = z_cA X2) (f : Nat → Int32) : z_tab X1 f = z_tab X2 f := by
  have e : (fun j => some (z_ad X1 (3 * ((f j).toNatClampNeg % 13)))) = (fun j => some (z_ad X2 (3 * ((f j).toNatClampNeg % 13)))) := by
    funext j
    rw [h _ (by omega)]
  unfold z_tab z_ia
  rw [e, hc]
  simp only [h 0 (by decide), h 3 (by decide), h 6 (by decide), h 40 (by decide), h 41 (by decide), h 42 (by decide), h 43 (by decide), h 44 (by decide), h 45 (by decide), h 46 (by decide), h 47 (by decide), h 48 (by decide), h 49 (by decide), h 50 (by decide), h 51 (by decide), h 52 (by decide), h 53 (by decide), h 54 (by decide), h 55 (by decide), h 56 (by decide), h 57 (by decide), h 58 (by decide), h 59 (by decide), h 60 (by decide), h 61 (by decide), h 62 (by decide), h 63 (by decide), h 64 (by decide), h 65 (by decide), h 66 (by decide), h 67 (by decide), h 68 (by decide), h 69 (by decide)]
theorem z_eC_congr {X1 X2 : z_X} (h : ∀ i, i < 71 → z_ad X1 i = z_ad X2 i) (hc : z_cA X1 = z_cA X2) {k : Nat} (hk : k < 71) (f : Nat → Int32) : z_eC X1 k f = z_eC X2 k f := by
  have e0 : ∀ n f, z_ia X1 n f = z_ia X2 n f := fun n f => by unfold z_ia; rw [hc]
  unfold z_eC
  by_cases h1 : k < 39
  · rw [if_pos h1, if_pos h1]
    by_cases h2 : k % 3 = 0
    · rw [if_pos h2, if_pos h2]
      unfold z_col
      rw [h (k + 1) (by omega), h (k + 2) (by omega)]
    · rw [if_neg h2, if_neg h2, e0]
  · rw [if_neg h1, if_neg h1, z_tab_congr h hc, e0]
def z_PM (X : z_X) (ad : Nat → Nat) (gC : z_G) (h0 : Nat) (U : State) : Prop := z_S0 X ≤ U.heap.size ∧ va_P (z_D X) classes (z_w 71 ad (z_wf (z_set X ad 71) gC z_gz) ++ [(h0, .inr (10, [.null, .null, .int 0, .int 0, .int 0, .null, .int 0, .int 0, .int 0, .int 0, .null, .null, .null, .int 0, .int 0, .int 0, .int 0, .null, .null]))]) U.heap ∧ va_D (z_A X) (z_w 71 ad (z_wf (z_set X ad 71) gC z_gz) ++ [(h0, .inr (10, [.null, .null, .int 0, .int 0, .int 0, .null, .int 0, .int 0, .int 0, .int 0, .null, .null, .null, .int 0, .int 0, .int 0, .int 0, .null, .null]))]) ∧ z_CK X U ∧ z_CS X U U.heap
set_option maxHeartbeats 8000000 in
set_option maxRecDepth 100000 in
theorem c_Mod_init {X : z_X} {l : Launch} (ad : Nat → Nat) (gC : z_G) (h0 : Nat) {gT : z_G} (hT : s_Mod_tail_b70 z_gz = some gT) : Met l yX10_init (Cond.code yX10_init cX10_init 1 none :: lw_good) ({ frames := 1, cells := 8, slots := 662, locals := 27 }) (va_Pc [.ref h0] (z_PM X ad gC h0)) (va_Qv (fun (_ : Nat → Nat) => True) (fun ad2 t => z_WP (z_set X ad2 80) 80 gC gT t ∧ ad2 39 = ad 39 ∧ ad2 71 = h0) (z_A X)) 8 662 (z_A X) := by
  refine Met.ofW (cc := cX10_init) (maxL := 1) (ret := none) (by decide) rfl ?_
  intro p e s m args below meth c s₁ B hml hv
  obtain ⟨rfl, hsz, hP0, hD0, hC, hCS⟩ := hv
  have hts := atoms_spec (ws := Cond.code yX10_init cX10_init 1 none :: lw_good) B.pre
  have hts : ∀ w ∈ lw_good, w.before ([.ref h0] : List Value).toArray s = true := fun w hw => hts w (List.mem_cons_of_mem _ hw)
  have hown : s.vm.findClass RX10 = some m.cls := findClass_of_methodNamed B.named
  have hin : meth.name = "<init>" := (name_of_methodNamed B.named B.method).1
  have hl := lv_entry ([.ref h0] : List Value) (n := 1) (Nat.le_of_ble_eq_true rfl)
  rw [lg_entry_eq]
  generalize hR : (headSpec (Cond.code yX10_init cX10_init 1 none :: lw_good) ({ frames := 1, cells := 8, slots := 662, locals := 27 })).room = R
  have hR1 : 1 ≤ R.frames ∧ 27 ≤ R.locals ∧ 8 ≤ R.cells ∧ 662 ≤ R.slots := by subst hR; exact ⟨Nat.le_refl _, Nat.le_refl _, Nat.le_refl _, Nat.le_refl _⟩
  generalize hQ : MQ below (va_Qv (fun (_ : Nat → Nat) => True) (fun ad2 t => z_WP (z_set X ad2 80) 80 gC gT t ∧ ad2 39 = ad 39 ∧ ad2 71 = h0) (z_A X)) ([.ref h0] : List Value).toArray s 8 662 (z_A X) = Q
  have hA : ∀ q, s.heap.size ≤ q → z_A X q := fun q h => Nat.le_trans hsz h
  have hE : z_EU X (p, l, e, R, s, m, ([.ref h0] : List Value).toArray, below, meth, c, 8, 662, Q) cX10_init 1 RX10 1 27 8 662 (z_A X) := ⟨B.exec, B.bytes, hml, hown, hts, hC, ⟨hR1.1, hR1.2.1⟩, ⟨hR1.2.2.1, hR1.2.2.2⟩, hA, Or.inr hin⟩
  suffices hU : z_U X (p, l, e, R, s, m, ([.ref h0] : List Value).toArray, below, meth, c, 8, 662, Q) 1 (z_A X) (z_w 71 ad (z_wf (z_set X ad 71) gC z_gz) ++ [(h0, .inr (10, [.null, .null, .int 0, .int 0, .int 0, .null, .int 0, .int 0, .int 0, .int 0, .null, .null, .null, .int 0, .int 0, .int 0, .int 0, .null, .null]))]) 0 0 0 [(0, .ref h0)] [] from hU s.heap [] _ hl hP0 hD0 va_S.rf
  refine z_Ualoadn hE 0 dX10_init_0 rfl ?_
  refine z_UobjInit hE oi_RX10 (by decide) (by decide) dX10_init_1 ?_
  refine z_Ualoadn hE 0 dX10_init_4 rfl ?_
  refine z_Ubipush (v := 120) hE dX10_init_5 rfl ?_
  refine z_Unewa (atype := .int) (N := 120) hE 0 w_3 rfl rfl (fun _ _ => rfl) rfl (by decide) (by decide) (by decide) (by decide) (by decide) dX10_init_7 (fun q1q => ?_)
  refine z_Uws (ws2 := z_w 71 ad (z_wf (z_set X ad 71) gC z_gz) ++ [(h0, .inr (10, [.null, .null, .int 0, .int 0, .int 0, .null, .int 0, .int 0, .int 0, .int 0, .null, .null, .null, .int 0, .int 0, .int 0, .int 0, .null, .null])), (q1q, .inl (z_cA X 0, 120, .inl (fun _ => 0)))]) (List.append_assoc _ _ _) ?_
  refine z_UputFp (k := 0) hE f_RX10_7 ft_10 rfl rfl (by decide) rfl (tyX10_ok 0 (by decide)) rfl rfl (Nat.le_of_ble_eq_true rfl) dX10_init_9 ?_
  refine z_Uws (ws2 := z_w 71 ad (z_wf (z_set X ad 71) gC z_gz) ++ [(h0, .inr (10, [.ref q1q, .null, .int 0, .int 0, .int 0, .null, .int 0, .int 0, .int 0, .int 0, .null, .null, .null, .int 0, .int 0, .int 0, .int 0, .null, .null])), (q1q, .inl (z_cA X 0, 120, .inl (fun _ => 0)))]) rfl ?_
  refine z_Ualoadn hE 0 dX10_init_12 rfl ?_
  refine z_Usipush (v := 312) hE dX10_init_13 rfl ?_
  refine z_Unewa (atype := .int) (N := 312) hE 0 w_3 rfl rfl (fun _ _ => rfl) rfl (by decide) (by decide) (by decide) (by decide) (by decide) dX10_init_16 (fun q2q => ?_)
  refine z_Uws (ws2 := z_w 71 ad (z_wf (z_set X ad 71) gC z_gz) ++ [(h0, .inr (10, [.ref q1q, .null, .int 0, .int 0, .int 0, .null, .int 0, .int 0, .int 0, .int 0, .null, .null, .null, .int 0, .int 0, .int 0, .int 0, .null, .null])), (q1q, .inl (z_cA X 0, 120, .inl (fun _ => 0))), (q2q, .inl (z_cA X 0, 312, .inl (fun _ => 0)))]) (List.append_assoc _ _ _) ?_
  refine z_UputFp (k := 0) hE f_RX10_13 ft_10 rfl rfl (by decide) rfl (tyX10_ok 1 (by decide)) rfl rfl (Nat.le_of_ble_eq_true rfl) dX10_init_18 ?_
  refine z_Uws (ws2 := z_w 71 ad (z_wf (z_set X ad 71) gC z_gz) ++ [(h0, .inr (10, [.ref q1q, .ref q2q, .int 0, .int 0, .int 0, .null, .int 0, .int 0, .int 0, .int 0, .null, .null, .null, .int 0, .int 0, .int 0, .int 0, .null, .null])), (q1q, .inl (z_cA X 0, 120, .inl (fun _ => 0))), (q2q, .inl (z_cA X 0, 312, .inl (fun _ => 0)))]) rfl ?_
  refine z_Ualoadn hE 0 dX10_init_21 rfl ?_
  refine z_Usipush (v := 200) hE dX10_init_22 rfl ?_
  refine z_Unewa (atype := .byte) (N := 200) hE 2 w_826 rfl rfl (fun _ _ => rfl) rfl (by decide) (by decide) (by decide) (by decide) (by decide) dX10_init_25 (fun q3q => ?_)
  refine z_Uws (ws2 := z_w 71 ad (z_wf (z_set X ad 71) gC z_gz) ++ [(h0, .inr (10, [.ref q1q, .ref q2q, .int 0, .int 0, .int 0, .null, .int 0, .int 0, .int 0, .int 0, .null, .null, .null, .int 0, .int 0, .int 0, .int 0, .null, .null])), (q1q, .inl (z_cA X 0, 120, .inl (fun _ => 0))), (q2q, .inl (z_cA X 0, 312, .inl (fun _ => 0))), (q3q, .inl (z_cA X 2, 200, .inl (fun _ => 0)))]) (List.append_assoc _ _ _) ?_
  refine z_UputFp (k := 0) hE f_RX10_16 ft_10 rfl rfl (by decide) rfl (tyX10_ok 5 (by decide)) rfl rfl (Nat.le_of_ble_eq_true rfl) dX10_init_27 ?_
  refine z_Uws (ws2 := z_w 71 ad (z_wf (z_set X ad 71) gC z_gz) ++ [(h0, .inr (10, [.ref q1q, .ref q2q, .int 0, .int 0, .int 0, .ref q3q, .int 0, .int 0, .int 0, .int 0, .null, .null, .null, .int 0, .int 0, .int 0, .int 0, .null, .null])), (q1q, .inl (z_cA X 0, 120, .inl (fun _ => 0))), (q2q, .inl (z_cA X 0, 312, .inl (fun _ => 0))), (q3q, .inl (z_cA X 2, 200, .inl (fun _ => 0)))]) rfl ?_
  refine z_Ualoadn hE 0 dX10_init_30 rfl ?_
  refine z_Ubipush (v := 6) hE dX10_init_31 rfl ?_
  refine z_Unewa (atype := .int) (N := 6) hE 0 w_3 rfl rfl (fun _ _ => rfl) rfl (by decide) (by decide) (by decide) (by decide) (by decide) dX10_init_33 (fun q4q => ?_)
  refine z_Uws (ws2 := z_w 71 ad (z_wf (z_set X ad 71) gC z_gz) ++ [(h0, .inr (10, [.ref q1q, .ref q2q, .int 0, .int 0, .int 0, .ref q3q, .int 0, .int 0, .int 0, .int 0, .null, .null, .null, .int 0, .int 0, .int 0, .int 0, .null, .null])), (q1q, .inl (z_cA X 0, 120, .inl (fun _ => 0))), (q2q, .inl (z_cA X 0, 312, .inl (fun _ => 0))), (q3q, .inl (z_cA X 2, 200, .inl (fun _ => 0))), (q4q, .inl (z_cA X 0, 6, .inl (fun _ => 0)))]) (List.append_assoc _ _ _) ?_
  refine z_UputFp (k := 0) hE f_RX10_20 ft_10 rfl rfl (by decide) rfl (tyX10_ok 10 (by decide)) rfl rfl (Nat.le_of_ble_eq_true rfl) dX10_init_35 ?_
  refine z_Uws (ws2 := z_w 71 ad (z_wf (z_set X ad 71) gC z_gz) ++ [(h0, .inr (10, [.ref q1q, .ref q2q, .int 0, .int 0, .int 0, .ref q3q, .int 0, .int 0, .int 0, .int 0, .ref q4q, .null, .null, .int 0, .int 0, .int 0, .int 0, .null, .null])), (q1q, .inl (z_cA X 0, 120, .inl (fun _ => 0))), (q2q, .inl (z_cA X 0, 312, .inl (fun _ => 0))), (q3q, .inl (z_cA X 2, 200, .inl (fun _ => 0))), (q4q, .inl (z_cA X 0, 6, .inl (fun _ => 0)))]) rfl ?_
  refine z_Ualoadn hE 0 dX10_init_38 rfl ?_
  refine z_Ubipush (v := 6) hE dX10_init_39 rfl ?_
  refine z_Unewa (atype := .int) (N := 6) hE 0 w_3 rfl rfl (fun _ _ => rfl) rfl (by decide) (by decide) (by decide) (by decide) (by decide) dX10_init_41 (fun q5q => ?_)
  refine z_Uws (ws2 := z_w 71 ad (z_wf (z_set X ad 71) gC z_gz) ++ [(h0, .inr (10, [.ref q1q, .ref q2q, .int 0, .int 0, .int 0, .ref q3q, .int 0, .int 0, .int 0, .int 0, .ref q4q, .null, .null, .int 0, .int 0, .int 0, .int 0, .null, .null])), (q1q, .inl (z_cA X 0, 120, .inl (fun _ => 0))), (q2q, .inl (z_cA X 0, 312, .inl (fun _ => 0))), (q3q, .inl (z_cA X 2, 200, .inl (fun _ => 0))), (q4q, .inl (z_cA X 0, 6, .inl (fun _ => 0))), (q5q, .inl (z_cA X 0, 6, .inl (fun _ => 0)))]) (List.append_assoc _ _ _) ?_
  refine z_UputFp (k := 0) hE f_RX10_23 ft_10 rfl rfl (by decide) rfl (tyX10_ok 11 (by decide)) rfl rfl (Nat.le_of_ble_eq_true rfl) dX10_init_43 ?_
  refine z_Uws (ws2 := z_w 71 ad (z_wf (z_set X ad 71) gC z_gz) ++ [(h0, .inr (10, [.ref q1q, .ref q2q, .int 0, .int 0, .int 0, .ref q3q, .int 0, .int 0, .int 0, .int 0, .ref q4q, .ref q5q, .null, .int 0, .int 0, .int 0, .int 0, .null, .null])), (q1q, .inl (z_cA X 0, 120, .inl (fun _ => 0))), (q2q, .inl (z_cA X 0, 312, .inl (fun _ => 0))), (q3q, .inl (z_cA X 2, 200, .inl (fun _ => 0))), (q4q, .inl (z_cA X 0, 6, .inl (fun _ => 0))), (q5q, .inl (z_cA X 0, 6, .inl (fun _ => 0)))]) rfl ?_
  refine z_Ualoadn hE 0 dX10_init_46 rfl ?_
  refine z_Ubipush (v := 6) hE dX10_init_47 rfl ?_
  refine z_Unewa (atype := .int) (N := 6) hE 0 w_3 rfl rfl (fun _ _ => rfl) rfl (by decide) (by decide) (by decide) (by decide) (by decide) dX10_init_49 (fun q6q => ?_)
  refine z_Uws (ws2 := z_w 71 ad (z_wf (z_set X ad 71) gC z_gz) ++ [(h0, .inr (10, [.ref q1q, .ref q2q, .int 0, .int 0, .int 0, .ref q3q, .int 0, .int 0, .int 0, .int 0, .ref q4q, .ref q5q, .null, .int 0, .int 0, .int 0, .int 0, .null, .null])), (q1q, .inl (z_cA X 0, 120, .inl (fun _ => 0))), (q2q, .inl (z_cA X 0, 312, .inl (fun _ => 0))), (q3q, .inl (z_cA X 2, 200, .inl (fun _ => 0))), (q4q, .inl (z_cA X 0, 6, .inl (fun _ => 0))), (q5q, .inl (z_cA X 0, 6, .inl (fun _ => 0))), (q6q, .inl (z_cA X 0, 6, .inl (fun _ => 0)))]) (List.append_assoc _ _ _) ?_
  refine z_UputFp (k := 0) hE f_RX10_26 ft_10 rfl rfl (by decide) rfl (tyX10_ok 12 (by decide)) rfl rfl (Nat.le_of_ble_eq_true rfl) dX10_init_51 ?_
  refine z_Uws (ws2 := z_w 71 ad (z_wf (z_set X ad 71) gC z_gz) ++ [(h0, .inr (10, [.ref q1q, .ref q2q, .int 0, .int 0, .int 0, .ref q3q, .int 0, .int 0, .int 0, .int 0, .ref q4q, .ref q5q, .ref q6q, .int 0, .int 0, .int 0, .int 0, .null, .null])), (q1q, .inl (z_cA X 0, 120, .inl (fun _ => 0))), (q2q, .inl (z_cA X 0, 312, .inl (fun _ => 0))), (q3q, .inl (z_cA X 2, 200, .inl (fun _ => 0))), (q4q, .inl (z_cA X 0, 6, .inl (fun _ => 0))), (q5q, .inl (z_cA X 0, 6, .inl (fun _ => 0))), (q6q, .inl (z_cA X 0, 6, .inl (fun _ => 0)))]) rfl ?_
  refine z_Ualoadn hE 0 dX10_init_54 rfl ?_
  refine z_Ubipush (v := 6) hE dX10_init_55 rfl ?_
  refine z_Unewa (atype := .int) (N := 6) hE 0 w_3 rfl rfl (fun _ _ => rfl) rfl (by decide) (by decide) (by decide) (by decide) (by decide) dX10_init_57 (fun q7q => ?_)
  refine z_Uws (ws2 := z_w 71 ad (z_wf (z_set X ad 71) gC z_gz) ++ [(h0, .inr (10, [.ref q1q, .ref q2q, .int 0, .int 0, .int 0, .ref q3q, .int 0, .int 0, .int 0, .int 0, .ref q4q, .ref q5q, .ref q6q, .int 0, .int 0, .int 0, .int 0, .null, .null])), (q1q, .inl (z_cA X 0, 120, .inl (fun _ => 0))), (q2q, .inl (z_cA X 0, 312, .inl (fun _ => 0))), (q3q, .inl (z_cA X 2, 200, .inl (fun _ => 0))), (q4q, .inl (z_cA X 0, 6, .inl (fun _ => 0))), (q5q, .inl (z_cA X 0, 6, .inl (fun _ => 0))), (q6q, .inl (z_cA X 0, 6, .inl (fun _ => 0))), (q7q, .inl (z_cA X 0, 6, .inl (fun _ => 0)))]) (List.append_assoc _ _ _) ?_
  refine z_UputFp (k := 0) hE f_RX10_29 ft_10 rfl rfl (by decide) rfl (tyX10_ok 17 (by decide)) rfl rfl (Nat.le_of_ble_eq_true rfl) dX10_init_59 ?_
  refine z_Uws (ws2 := z_w 71 ad (z_wf (z_set X ad 71) gC z_gz) ++ [(h0, .inr (10, [.ref q1q, .ref q2q, .int 0, .int 0, .int 0, .ref q3q, .int 0, .int 0, .int 0, .int 0, .ref q4q, .ref q5q, .ref q6q, .int 0, .int 0, .int 0, .int 0, .ref q7q, .null])), (q1q, .inl (z_cA X 0, 120, .inl (fun _ => 0))), (q2q, .inl (z_cA X 0, 312, .inl (fun _ => 0))), (q3q, .inl (z_cA X 2, 200, .inl (fun _ => 0))), (q4q, .inl (z_cA X 0, 6, .inl (fun _ => 0))), (q5q, .inl (z_cA X 0, 6, .inl (fun _ => 0))), (q6q, .inl (z_cA X 0, 6, .inl (fun _ => 0))), (q7q, .inl (z_cA X 0, 6, .inl (fun _ => 0)))]) rfl ?_
  refine z_Ualoadn hE 0 dX10_init_62 rfl ?_
  refine z_Ubipush (v := 6) hE dX10_init_63 rfl ?_
  refine z_Unewa (atype := .int) (N := 6) hE 0 w_3 rfl rfl (fun _ _ => rfl) rfl (by decide) (by decide) (by decide) (by decide) (by decide) dX10_init_65 (fun q8q => ?_)
  refine z_Uws (ws2 := z_w 71 ad (z_wf (z_set X ad 71) gC z_gz) ++ [(h0, .inr (10, [.ref q1q, .ref q2q, .int 0, .int 0, .int 0, .ref q3q, .int 0, .int 0, .int 0, .int 0, .ref q4q, .ref q5q, .ref q6q, .int 0, .int 0, .int 0, .int 0, .ref q7q, .null])), (q1q, .inl (z_cA X 0, 120, .inl (fun _ => 0))), (q2q, .inl (z_cA X 0, 312, .inl (fun _ => 0))), (q3q, .inl (z_cA X 2, 200, .inl (fun _ => 0))), (q4q, .inl (z_cA X 0, 6, .inl (fun _ => 0))), (q5q, .inl (z_cA X 0, 6, .inl (fun _ => 0))), (q6q, .inl (z_cA X 0, 6, .inl (fun _ => 0))), (q7q, .inl (z_cA X 0, 6, .inl (fun _ => 0))), (q8q, .inl (z_cA X 0, 6, .inl (fun _ => 0)))]) (List.append_assoc _ _ _) ?_
  refine z_UputFp (k := 0) hE f_RX10_32 ft_10 rfl rfl (by decide) rfl (tyX10_ok 18 (by decide)) rfl rfl (Nat.le_of_ble_eq_true rfl) dX10_init_67 ?_
  refine z_Uws (ws2 := z_w 71 ad (z_wf (z_set X ad 71) gC z_gz) ++ [(h0, .inr (10, [.ref q1q, .ref q2q, .int 0, .int 0, .int 0, .ref q3q, .int 0, .int 0, .int 0, .int 0, .ref q4q, .ref q5q, .ref q6q, .int 0, .int 0, .int 0, .int 0, .ref q7q, .ref q8q])), (q1q, .inl (z_cA X 0, 120, .inl (fun _ => 0))), (q2q, .inl (z_cA X 0, 312, .inl (fun _ => 0))), (q3q, .inl (z_cA X 2, 200, .inl (fun _ => 0))), (q4q, .inl (z_cA X 0, 6, .inl (fun _ => 0))), (q5q, .inl (z_cA X 0, 6, .inl (fun _ => 0))), (q6q, .inl (z_cA X 0, 6, .inl (fun _ => 0))), (q7q, .inl (z_cA X 0, 6, .inl (fun _ => 0))), (q8q, .inl (z_cA X 0, 6, .inl (fun _ => 0)))]) rfl ?_
  intro H locs ls hl hP hD hS
  obtain ⟨ad2, had⟩ : ∃ ad2 : Nat → Nat, ad2 = fun k => if k < 71 then ad k else ([h0, q1q, q2q, q3q, q4q, q5q, q6q, q7q, q8q] : List Nat).getD (k - 71) 0 := ⟨_, rfl⟩
  have had1 : ∀ i, i < 71 → ad2 i = ad i := fun i hi => by subst had; simp [hi]
  have had2 : ∀ i, ad2 (71 + i) = ([h0, q1q, q2q, q3q, q4q, q5q, q6q, q7q, q8q] : List Nat).getD i 0 := fun i => by
    have hi : ¬ 71 + i < 71 := by omega
    subst had; simp [hi]
  have hlen : (z_w 71 ad (z_wf (z_set X ad 71) gC z_gz)).length = 71 := by simp [z_w]
  have key : ∀ (w2 : Nat → va_E) (lw : List va_E), lw.length = 9 → (∀ k, k < 71 → w2 k = z_wf (z_set X ad 71) gC z_gz k) → (∀ i, i < 9 → w2 (71 + i) = lw.getD i (.inr (0, []))) → z_w 80 ad2 w2 = z_w 71 ad (z_wf (z_set X ad 71) gC z_gz) ++ ([h0, q1q, q2q, q3q, q4q, q5q, q6q, q7q, q8q] : List Nat).zip lw := by
    intro w2 lw hlw h1 h2
    apply List.ext_getElem?
    intro i
    by_cases hi : i < 71
    · rw [z_w_at (by omega), List.getElem?_append_left (by rw [hlen]; exact hi), z_w_at hi, had1 i hi, h1 i hi]
    · by_cases hi2 : i < 80
      · obtain ⟨j, rfl⟩ : ∃ j, i = 71 + j := ⟨i - 71, by omega⟩
        have hj : j < 9 := by omega
        rw [z_w_at hi2, List.getElem?_append_right (by omega), hlen, Nat.add_sub_cancel_left, had2, h2 j hj, List.getElem?_zip_eq_some.mpr]
        refine ⟨?_, ?_⟩
        · exact z_getD hj
        · exact z_getD (by omega)
      · rw [List.getElem?_eq_none (by simp [z_w]; omega), List.getElem?_eq_none (by rw [List.length_append, hlen, List.length_zip, hlw]; simp; omega)]
  have hP5 : z_P (z_set X ad2 80) gC z_gz H := by
    show va_P (z_D X) classes (z_w 80 ad2 (z_wf (z_set X ad2 80) gC z_gz)) H
    rw [key (z_wf (z_set X ad2 80) gC z_gz) [.inr (10, [.ref q1q, .ref q2q, .int 0, .int 0, .int 0, .ref q3q, .int 0, .int 0, .int 0, .int 0, .ref q4q, .ref q5q, .ref q6q, .int 0, .int 0, .int 0, .int 0, .ref q7q, .ref q8q]), .inl (z_cA X 0, 120, .inl (fun _ => 0)), .inl (z_cA X 0, 312, .inl (fun _ => 0)), .inl (z_cA X 2, 200, .inl (fun _ => 0)), .inl (z_cA X 0, 6, .inl (fun _ => 0)), .inl (z_cA X 0, 6, .inl (fun _ => 0)), .inl (z_cA X 0, 6, .inl (fun _ => 0)), .inl (z_cA X 0, 6, .inl (fun _ => 0)), .inl (z_cA X 0, 6, .inl (fun _ => 0))] rfl (fun k hk => by
      rw [z_wf_C hk, z_wf_C hk]
      exact z_eC_congr (X1 := z_set X ad2 80) (X2 := z_set X ad 71) (fun i hi => had1 i hi) rfl hk _) (fun i hi => by
      rw [z_wf_M]
      have e71 : z_ad (z_set X ad2 80) = ad2 := rfl
      rcases (show i = 0 ∨ i = 1 ∨ i = 2 ∨ i = 3 ∨ i = 4 ∨ i = 5 ∨ i = 6 ∨ i = 7 ∨ i = 8 by omega) with rfl | rfl | rfl | rfl | rfl | rfl | rfl | rfl | rfl
      · show (Sum.inr (10, ([Value.ref (ad2 (71 + 1)), .ref (ad2 (71 + 2)), .int 0, .int 0, .int 0, .ref (ad2 (71 + 3)), .int 0, .int 0, .int 0, .int 0, .ref (ad2 (71 + 4)), .ref (ad2 (71 + 5)), .ref (ad2 (71 + 6)), .int 0, .int 0, .int 0, .int 0, .ref (ad2 (71 + 7)), .ref (ad2 (71 + 8))] : List Value)) : va_E) = _
        rw [had2 1, had2 2, had2 3, had2 4, had2 5, had2 6, had2 7, had2 8]
        rfl
      all_goals rfl)]
    exact hP
  have hD5 : va_D (z_A X) (z_w 80 ad2 (fun k => if k < 71 then z_wf (z_set X ad 71) gC z_gz k else ([.inr (10, [.ref q1q, .ref q2q, .int 0, .int 0, .int 0, .ref q3q, .int 0, .int 0, .int 0, .int 0, .ref q4q, .ref q5q, .ref q6q, .int 0, .int 0, .int 0, .int 0, .ref q7q, .ref q8q]), .inl (z_cA X 0, 120, .inl (fun _ => 0)), .inl (z_cA X 0, 312, .inl (fun _ => 0)), .inl (z_cA X 2, 200, .inl (fun _ => 0)), .inl (z_cA X 0, 6, .inl (fun _ => 0)), .inl (z_cA X 0, 6, .inl (fun _ => 0)), .inl (z_cA X 0, 6, .inl (fun _ => 0)), .inl (z_cA X 0, 6, .inl (fun _ => 0)), .inl (z_cA X 0, 6, .inl (fun _ => 0))] : List va_E).getD (k - 71) (.inr (0, [])))) := by
    rw [key _ [.inr (10, [.ref q1q, .ref q2q, .int 0, .int 0, .int 0, .ref q3q, .int 0, .int 0, .int 0, .int 0, .ref q4q, .ref q5q, .ref q6q, .int 0, .int 0, .int 0, .int 0, .ref q7q, .ref q8q]), .inl (z_cA X 0, 120, .inl (fun _ => 0)), .inl (z_cA X 0, 312, .inl (fun _ => 0)), .inl (z_cA X 2, 200, .inl (fun _ => 0)), .inl (z_cA X 0, 6, .inl (fun _ => 0)), .inl (z_cA X 0, 6, .inl (fun _ => 0)), .inl (z_cA X 0, 6, .inl (fun _ => 0)), .inl (z_cA X 0, 6, .inl (fun _ => 0)), .inl (z_cA X 0, 6, .inl (fun _ => 0))] rfl (fun k hk => by simp [hk]) (fun i hi => by
      have h1 : ¬ 71 + i < 71 := by omega
      simp [h1])]
    exact hD
  have hCX : z_CX (z_set X ad2 80) s s.heap := ⟨hC.1, hC.2.1, hCS.1, hCS.2, z_D_any hD5⟩
  have hE2 : z_EV (z_set X ad2 80) (p, l, e, R, s, m, ([.ref h0] : List Value).toArray, below, meth, c, 8, 662, Q) cX10_init 1 RX10 1 27 80 := ⟨B.exec, B.bytes, hml, hown, hts, hCX, Nat.le_refl _, ⟨Nat.le_trans (by decide) hR1.1, Nat.le_trans (by decide) hR1.2.1⟩, hR1.2.2.1, hR1.2.2.2⟩
  have e71 : ad2 71 = h0 := had2 0
  have hV := b_Mod_tail_b70 (o := gC) hE2 (r := gT) (fun pc lv d H locs ls hl hP hS => by
    rw [← hQ]
    exact W.vret B.exec B.bytes B.returns (fun t ht hW => ⟨⟨ad2, rfl, trivial, ⟨by rw [ht]; exact hCX.go hS hW, Nat.le_refl _, by rw [ht]; exact hP⟩, had1 39 (by decide), e71⟩, hS.F ht⟩) hS.2.2 d B.notSynchronized) z_gz hT
  exact hV H locs ls (by show lv_has ls 1 [(0, .ref (ad2 71))]; rw [e71]; exact hl) hP5 hS

