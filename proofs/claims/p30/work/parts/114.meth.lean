theorem dX10_storms_0 : decode cX10_storms 0 = .ok (.aload_n 0, 1) := by decide +kernel
theorem dX10_storms_1 : decode cX10_storms 1 = .ok (.iload_n 1, 1) := by decide +kernel
theorem dX10_storms_2 : decode cX10_storms 2 = .ok (.invokevirtual 113, 3) := by decide +kernel
theorem dX10_storms_5 : decode cX10_storms 5 = .ok (.ifCond .eq 51, 3) := by decide +kernel
theorem dX10_storms_8 : decode cX10_storms 8 = .ok (.iload_n 2, 1) := by decide +kernel
theorem dX10_storms_9 : decode cX10_storms 9 = .ok (.i2l, 1) := by decide +kernel
theorem dX10_storms_10 : decode cX10_storms 10 = .ok (.lconst 0, 1) := by decide +kernel
theorem dX10_storms_11 : decode cX10_storms 11 = .ok (.ldc2_w 122, 3) := by decide +kernel
theorem dX10_storms_14 : decode cX10_storms 14 = .ok (.invokestatic 60, 3) := by decide +kernel
theorem dX10_storms_17 : decode cX10_storms 17 = .ok (.ifCond .eq 39, 3) := by decide +kernel
theorem dX10_storms_20 : decode cX10_storms 20 = .ok (.iload_n 3, 1) := by decide +kernel
theorem dX10_storms_21 : decode cX10_storms 21 = .ok (.i2l, 1) := by decide +kernel
theorem dX10_storms_22 : decode cX10_storms 22 = .ok (.lconst 0, 1) := by decide +kernel
theorem dX10_storms_23 : decode cX10_storms 23 = .ok (.ldc2_w 122, 3) := by decide +kernel
theorem dX10_storms_26 : decode cX10_storms 26 = .ok (.invokestatic 60, 3) := by decide +kernel
theorem dX10_storms_29 : decode cX10_storms 29 = .ok (.ifCond .eq 27, 3) := by decide +kernel
theorem dX10_storms_32 : decode cX10_storms 32 = .ok (.iload 4, 2) := by decide +kernel
theorem dX10_storms_34 : decode cX10_storms 34 = .ok (.i2l, 1) := by decide +kernel
theorem dX10_storms_35 : decode cX10_storms 35 = .ok (.lconst 0, 1) := by decide +kernel
theorem dX10_storms_36 : decode cX10_storms 36 = .ok (.ldc2_w 199, 3) := by decide +kernel
theorem dX10_storms_39 : decode cX10_storms 39 = .ok (.invokestatic 60, 3) := by decide +kernel
theorem dX10_storms_42 : decode cX10_storms 42 = .ok (.ifCond .eq 14, 3) := by decide +kernel
theorem dX10_storms_45 : decode cX10_storms 45 = .ok (.iload 5, 2) := by decide +kernel
theorem dX10_storms_47 : decode cX10_storms 47 = .ok (.i2l, 1) := by decide +kernel
theorem dX10_storms_48 : decode cX10_storms 48 = .ok (.lconst 0, 1) := by decide +kernel
theorem dX10_storms_49 : decode cX10_storms 49 = .ok (.lconst 1, 1) := by decide +kernel
theorem dX10_storms_50 : decode cX10_storms 50 = .ok (.invokestatic 60, 3) := by decide +kernel
theorem dX10_storms_53 : decode cX10_storms 53 = .ok (.ifCond .ne 5, 3) := by decide +kernel
theorem dX10_storms_56 : decode cX10_storms 56 = .ok (.iconst (-1), 1) := by decide +kernel
theorem dX10_storms_57 : decode cX10_storms 57 = .ok (.ireturn, 1) := by decide +kernel
theorem dX10_storms_58 : decode cX10_storms 58 = .ok (.iconst 0, 1) := by decide +kernel
theorem dX10_storms_59 : decode cX10_storms 59 = .ok (.istore 6, 2) := by decide +kernel
theorem dX10_storms_61 : decode cX10_storms 61 = .ok (.iconst 0, 1) := by decide +kernel
theorem dX10_storms_62 : decode cX10_storms 62 = .ok (.istore 7, 2) := by decide +kernel
theorem dX10_storms_64 : decode cX10_storms 64 = .ok (.iconst 0, 1) := by decide +kernel
theorem dX10_storms_65 : decode cX10_storms 65 = .ok (.istore 8, 2) := by decide +kernel
theorem dX10_storms_67 : decode cX10_storms 67 = .ok (.iload 8, 2) := by decide +kernel
theorem dX10_storms_69 : decode cX10_storms 69 = .ok (.iconst 1, 1) := by decide +kernel
theorem dX10_storms_70 : decode cX10_storms 70 = .ok (.aload_n 0, 1) := by decide +kernel
theorem dX10_storms_71 : decode cX10_storms 71 = .ok (.getfield 7, 3) := by decide +kernel
theorem dX10_storms_74 : decode cX10_storms 74 = .ok (.bipush 47, 2) := by decide +kernel
theorem dX10_storms_76 : decode cX10_storms 76 = .ok (.iaload, 1) := by decide +kernel
theorem dX10_storms_77 : decode cX10_storms 77 = .ok (.ishl, 1) := by decide +kernel
theorem dX10_storms_78 : decode cX10_storms 78 = .ok (.if_icmp .ge 136, 3) := by decide +kernel
theorem dX10_storms_81 : decode cX10_storms 81 = .ok (.iconst 1, 1) := by decide +kernel
theorem dX10_storms_82 : decode cX10_storms 82 = .ok (.istore 9, 2) := by decide +kernel
theorem dX10_storms_84 : decode cX10_storms 84 = .ok (.aload_n 0, 1) := by decide +kernel
theorem dX10_storms_85 : decode cX10_storms 85 = .ok (.iconst 0, 1) := by decide +kernel
theorem dX10_storms_86 : decode cX10_storms 86 = .ok (.iload_n 1, 1) := by decide +kernel
theorem dX10_storms_87 : decode cX10_storms 87 = .ok (.invokevirtual 155, 3) := by decide +kernel
theorem dX10_storms_90 : decode cX10_storms 90 = .ok (.iconst 0, 1) := by decide +kernel
theorem dX10_storms_91 : decode cX10_storms 91 = .ok (.istore 10, 2) := by decide +kernel
theorem dX10_storms_93 : decode cX10_storms 93 = .ok (.iload 10, 2) := by decide +kernel
theorem dX10_storms_95 : decode cX10_storms 95 = .ok (.aload_n 0, 1) := by decide +kernel
theorem dX10_storms_96 : decode cX10_storms 96 = .ok (.getfield 7, 3) := by decide +kernel
theorem dX10_storms_99 : decode cX10_storms 99 = .ok (.bipush 47, 2) := by decide +kernel
theorem dX10_storms_101 : decode cX10_storms 101 = .ok (.iaload, 1) := by decide +kernel
theorem dX10_storms_102 : decode cX10_storms 102 = .ok (.if_icmp .ge 72, 3) := by decide +kernel
theorem dX10_storms_105 : decode cX10_storms 105 = .ok (.iload 9, 2) := by decide +kernel
theorem dX10_storms_107 : decode cX10_storms 107 = .ok (.iload 8, 2) := by decide +kernel
theorem dX10_storms_109 : decode cX10_storms 109 = .ok (.iload 10, 2) := by decide +kernel
theorem dX10_storms_111 : decode cX10_storms 111 = .ok (.invokestatic 148, 3) := by decide +kernel
theorem dX10_storms_114 : decode cX10_storms 114 = .ok (.ifCond .eq 8, 3) := by decide +kernel
theorem dX10_storms_117 : decode cX10_storms 117 = .ok (.iload 4, 2) := by decide +kernel
theorem dX10_storms_119 : decode cX10_storms 119 = .ok (.goto 8, 3) := by decide +kernel
theorem dX10_storms_122 : decode cX10_storms 122 = .ok (.bipush 10, 2) := by decide +kernel
theorem dX10_storms_124 : decode cX10_storms 124 = .ok (.iload 4, 2) := by decide +kernel
theorem dX10_storms_126 : decode cX10_storms 126 = .ok (.isub, 1) := by decide +kernel
theorem dX10_storms_127 : decode cX10_storms 127 = .ok (.imul, 1) := by decide +kernel
theorem dX10_storms_128 : decode cX10_storms 128 = .ok (.istore 9, 2) := by decide +kernel
theorem dX10_storms_130 : decode cX10_storms 130 = .ok (.aload_n 0, 1) := by decide +kernel
theorem dX10_storms_131 : decode cX10_storms 131 = .ok (.iconst 0, 1) := by decide +kernel
theorem dX10_storms_132 : decode cX10_storms 132 = .ok (.iload_n 1, 1) := by decide +kernel
theorem dX10_storms_133 : decode cX10_storms 133 = .ok (.aload_n 0, 1) := by decide +kernel
theorem dX10_storms_134 : decode cX10_storms 134 = .ok (.getfield 7, 3) := by decide +kernel
theorem dX10_storms_137 : decode cX10_storms 137 = .ok (.bipush 48, 2) := by decide +kernel
theorem dX10_storms_139 : decode cX10_storms 139 = .ok (.iload 10, 2) := by decide +kernel
theorem dX10_storms_141 : decode cX10_storms 141 = .ok (.iadd, 1) := by decide +kernel
theorem dX10_storms_142 : decode cX10_storms 142 = .ok (.iaload, 1) := by decide +kernel
theorem dX10_storms_143 : decode cX10_storms 143 = .ok (.iconst 0, 1) := by decide +kernel
theorem dX10_storms_144 : decode cX10_storms 144 = .ok (.aload_n 0, 1) := by decide +kernel
theorem dX10_storms_145 : decode cX10_storms 145 = .ok (.getfield 7, 3) := by decide +kernel
theorem dX10_storms_148 : decode cX10_storms 148 = .ok (.bipush 54, 2) := by decide +kernel
theorem dX10_storms_150 : decode cX10_storms 150 = .ok (.iload 10, 2) := by decide +kernel
theorem dX10_storms_152 : decode cX10_storms 152 = .ok (.iadd, 1) := by decide +kernel
theorem dX10_storms_153 : decode cX10_storms 153 = .ok (.iaload, 1) := by decide +kernel
theorem dX10_storms_154 : decode cX10_storms 154 = .ok (.iload 8, 2) := by decide +kernel
theorem dX10_storms_156 : decode cX10_storms 156 = .ok (.iload 10, 2) := by decide +kernel
theorem dX10_storms_158 : decode cX10_storms 158 = .ok (.ishr, 1) := by decide +kernel
theorem dX10_storms_159 : decode cX10_storms 159 = .ok (.iconst 1, 1) := by decide +kernel
theorem dX10_storms_160 : decode cX10_storms 160 = .ok (.iand, 1) := by decide +kernel
theorem dX10_storms_161 : decode cX10_storms 161 = .ok (.isub, 1) := by decide +kernel
theorem dX10_storms_162 : decode cX10_storms 162 = .ok (.invokestatic 106, 3) := by decide +kernel
theorem dX10_storms_165 : decode cX10_storms 165 = .ok (.invokevirtual 158, 3) := by decide +kernel
theorem dX10_storms_168 : decode cX10_storms 168 = .ok (.iinc 10 1, 3) := by decide +kernel
theorem dX10_storms_171 : decode cX10_storms 171 = .ok (.goto (-78), 3) := by decide +kernel
theorem dX10_storms_174 : decode cX10_storms 174 = .ok (.iload 7, 2) := by decide +kernel
theorem dX10_storms_176 : decode cX10_storms 176 = .ok (.iload 9, 2) := by decide +kernel
theorem dX10_storms_178 : decode cX10_storms 178 = .ok (.iadd, 1) := by decide +kernel
theorem dX10_storms_179 : decode cX10_storms 179 = .ok (.istore 7, 2) := by decide +kernel
theorem dX10_storms_181 : decode cX10_storms 181 = .ok (.iload 6, 2) := by decide +kernel
theorem dX10_storms_183 : decode cX10_storms 183 = .ok (.aload_n 0, 1) := by decide +kernel
theorem dX10_storms_184 : decode cX10_storms 184 = .ok (.getfield 135, 3) := by decide +kernel
theorem dX10_storms_187 : decode cX10_storms 187 = .ok (.iload_n 2, 1) := by decide +kernel
theorem dX10_storms_188 : decode cX10_storms 188 = .ok (.if_icmp .ne 16, 3) := by decide +kernel
theorem dX10_storms_191 : decode cX10_storms 191 = .ok (.aload_n 0, 1) := by decide +kernel
theorem dX10_storms_192 : decode cX10_storms 192 = .ok (.getfield 138, 3) := by decide +kernel
theorem dX10_storms_195 : decode cX10_storms 195 = .ok (.iload_n 3, 1) := by decide +kernel
theorem dX10_storms_196 : decode cX10_storms 196 = .ok (.if_icmp .ne 8, 3) := by decide +kernel
theorem dX10_storms_199 : decode cX10_storms 199 = .ok (.iload 9, 2) := by decide +kernel
theorem dX10_storms_201 : decode cX10_storms 201 = .ok (.goto 4, 3) := by decide +kernel
theorem dX10_storms_204 : decode cX10_storms 204 = .ok (.iconst 0, 1) := by decide +kernel
theorem dX10_storms_205 : decode cX10_storms 205 = .ok (.iadd, 1) := by decide +kernel
theorem dX10_storms_206 : decode cX10_storms 206 = .ok (.istore 6, 2) := by decide +kernel
theorem dX10_storms_208 : decode cX10_storms 208 = .ok (.iinc 8 1, 3) := by decide +kernel
theorem dX10_storms_211 : decode cX10_storms 211 = .ok (.goto (-144), 3) := by decide +kernel
theorem dX10_storms_214 : decode cX10_storms 214 = .ok (.iload 6, 2) := by decide +kernel
theorem dX10_storms_216 : decode cX10_storms 216 = .ok (.istore 8, 2) := by decide +kernel
theorem dX10_storms_218 : decode cX10_storms 218 = .ok (.iload 7, 2) := by decide +kernel
theorem dX10_storms_220 : decode cX10_storms 220 = .ok (.istore 9, 2) := by decide +kernel
theorem dX10_storms_222 : decode cX10_storms 222 = .ok (.iload 9, 2) := by decide +kernel
theorem dX10_storms_224 : decode cX10_storms 224 = .ok (.ifCond .eq 21, 3) := by decide +kernel
theorem dX10_storms_227 : decode cX10_storms 227 = .ok (.iload 8, 2) := by decide +kernel
theorem dX10_storms_229 : decode cX10_storms 229 = .ok (.iload 9, 2) := by decide +kernel
theorem dX10_storms_231 : decode cX10_storms 231 = .ok (.irem, 1) := by decide +kernel
theorem dX10_storms_232 : decode cX10_storms 232 = .ok (.istore 10, 2) := by decide +kernel
theorem dX10_storms_234 : decode cX10_storms 234 = .ok (.iload 9, 2) := by decide +kernel
theorem dX10_storms_236 : decode cX10_storms 236 = .ok (.istore 8, 2) := by decide +kernel
theorem dX10_storms_238 : decode cX10_storms 238 = .ok (.iload 10, 2) := by decide +kernel
theorem dX10_storms_240 : decode cX10_storms 240 = .ok (.istore 9, 2) := by decide +kernel
theorem dX10_storms_242 : decode cX10_storms 242 = .ok (.goto (-20), 3) := by decide +kernel
theorem dX10_storms_245 : decode cX10_storms 245 = .ok (.iload 5, 2) := by decide +kernel
theorem dX10_storms_247 : decode cX10_storms 247 = .ok (.ifCond .ne 11, 3) := by decide +kernel
theorem dX10_storms_250 : decode cX10_storms 250 = .ok (.iload 6, 2) := by decide +kernel
theorem dX10_storms_252 : decode cX10_storms 252 = .ok (.iload 8, 2) := by decide +kernel
theorem dX10_storms_254 : decode cX10_storms 254 = .ok (.idiv, 1) := by decide +kernel
theorem dX10_storms_255 : decode cX10_storms 255 = .ok (.goto 8, 3) := by decide +kernel
theorem dX10_storms_258 : decode cX10_storms 258 = .ok (.iload 7, 2) := by decide +kernel
theorem dX10_storms_260 : decode cX10_storms 260 = .ok (.iload 8, 2) := by decide +kernel
theorem dX10_storms_262 : decode cX10_storms 262 = .ok (.idiv, 1) := by decide +kernel
theorem dX10_storms_263 : decode cX10_storms 263 = .ok (.ireturn, 1) := by decide +kernel
def s_Mod_storms_b56  (g : z_G) : Option (Int32 × z_G) := (some ((-1), g))
def s_Mod_storms_L222 : Nat → Int32 → Int32 → Int32 → Int32 → Int32 → z_G → Option (Int32 × z_G)
  | 0, _, _, _, _, _, _ => none
  | n + 1, x5, x6, x7, x8, x9, g => (if x9 = 0 then (if x5 = 0 then (z_ck (decide (¬ x8 = 0)) (some ((x6 / x8), g))) else (z_ck (decide (¬ x8 = 0)) (some ((x7 / x8), g)))) else (z_ck (decide (¬ x9 = 0)) ((s_Mod_storms_L222 n) x5 x6 x7 x9 (z_rem x8 x9) g)))
def s_Mod_storms_b205 (k67 : Int32 → Int32 → Int32 → Int32 → Int32 → Int32 → Int32 → Int32 → z_G → Option (Int32 × z_G)) (x1 : Int32) (x2 : Int32) (x3 : Int32) (x4 : Int32) (x5 : Int32) (x7 : Int32) (x8 : Int32) (s1 : Int32) (s0 : Int32) (g : z_G) : Option (Int32 × z_G) := (k67 x1 x2 x3 x4 x5 (s0 + s1) x7 (x8 + 1) g)
def s_Mod_storms_b204 (k67 : Int32 → Int32 → Int32 → Int32 → Int32 → Int32 → Int32 → Int32 → z_G → Option (Int32 × z_G)) (x1 : Int32) (x2 : Int32) (x3 : Int32) (x4 : Int32) (x5 : Int32) (x7 : Int32) (x8 : Int32) (s0 : Int32) (g : z_G) : Option (Int32 × z_G) := (s_Mod_storms_b205 k67 x1 x2 x3 x4 x5 x7 x8 0 s0 g)
def s_Mod_storms_b127 (k67 : Int32 → Int32 → Int32 → Int32 → Int32 → Int32 → Int32 → Int32 → z_G → Option (Int32 × z_G)) (k93 : Int32 → Int32 → Int32 → Int32 → Int32 → Int32 → Int32 → Int32 → Int32 → Int32 → z_G → Option (Int32 × z_G)) (x1 : Int32) (x2 : Int32) (x3 : Int32) (x4 : Int32) (x5 : Int32) (x6 : Int32) (x7 : Int32) (x8 : Int32) (x10 : Int32) (s1 : Int32) (s0 : Int32) (g : z_G) : Option (Int32 × z_G) := (z_ck (z_inb (48 + x10) 120) (z_ck (z_inb (54 + x10) 120) (Option.bind (s_Mod_goes 0 x1 (z_rd g 1 (48 + x10)) (s_Mod_larger 0 ((z_rd g 1 (54 + x10)) - ((x8 >>> (x10 &&& 31)) &&& 1))) g) fun r27q => (k93 x1 x2 x3 x4 x5 x6 x7 x8 (s0 * s1) (x10 + 1) r27q))))
def s_Mod_storms_L93 (k67 : Int32 → Int32 → Int32 → Int32 → Int32 → Int32 → Int32 → Int32 → z_G → Option (Int32 × z_G)) : Nat → Int32 → Int32 → Int32 → Int32 → Int32 → Int32 → Int32 → Int32 → Int32 → Int32 → z_G → Option (Int32 × z_G)
  | 0, _, _, _, _, _, _, _, _, _, _, _ => none
  | n + 1, x1, x2, x3, x4, x5, x6, x7, x8, x9, x10, g => (if (z_rd g 1 47) ≤ x10 then (if (g 0 13) = x2 then (if (g 0 14) = x3 then (s_Mod_storms_b205 k67 x1 x2 x3 x4 x5 (x7 + x9) x8 x9 x6 g) else (s_Mod_storms_b204 k67 x1 x2 x3 x4 x5 (x7 + x9) x8 x6 g)) else (s_Mod_storms_b204 k67 x1 x2 x3 x4 x5 (x7 + x9) x8 x6 g)) else (if (s_Mod_has x8 x10) = 0 then (s_Mod_storms_b127 k67 (s_Mod_storms_L93 k67 n) x1 x2 x3 x4 x5 x6 x7 x8 x10 (10 - x4) x9 g) else (s_Mod_storms_b127 k67 (s_Mod_storms_L93 k67 n) x1 x2 x3 x4 x5 x6 x7 x8 x10 x4 x9 g)))
def s_Mod_storms_L67 : Nat → Int32 → Int32 → Int32 → Int32 → Int32 → Int32 → Int32 → Int32 → z_G → Option (Int32 × z_G)
  | 0, _, _, _, _, _, _, _, _, _ => none
  | n + 1, x1, x2, x3, x4, x5, x6, x7, x8, g => (if (1 <<< ((z_rd g 1 47) &&& 31)) ≤ x8 then (s_Mod_storms_L222 z_F x5 x6 x7 x6 x7 g) else (Option.bind (s_Mod_picks 0 x1 g) fun r33q => (s_Mod_storms_L93 (s_Mod_storms_L67 n) z_F x1 x2 x3 x4 x5 x6 x7 x8 1 0 r33q)))
def s_Mod_storms (x1 : Int32) (x2 : Int32) (x3 : Int32) (x4 : Int32) (x5 : Int32) (g : z_G) : Option (Int32 × z_G) := (if (s_Mod_isMan x1 g) = 0 then (s_Mod_storms_b56 g) else (if (s_Mod_in (Int32.toInt64 x2) 0 15) = 0 then (s_Mod_storms_b56 g) else (if (s_Mod_in (Int32.toInt64 x3) 0 15) = 0 then (s_Mod_storms_b56 g) else (if (s_Mod_in (Int32.toInt64 x4) 0 10) = 0 then (s_Mod_storms_b56 g) else (if (s_Mod_in (Int32.toInt64 x5) 0 1) = 0 then (s_Mod_storms_b56 g) else (s_Mod_storms_L67 z_F x1 x2 x3 x4 x5 0 0 0 g))))))
set_option maxHeartbeats 1000000 in
set_option maxRecDepth 20000 in
theorem b_Mod_storms_b56 {X : z_X} {E : z_ET} {o : z_G} (hE : z_EV X E cX10_storms 11 RX10 4 99 80) {r : Int32 × z_G} (hret : ∀ (pc : Nat) (lv : List (Nat × Value)), decode cX10_storms pc = .ok (.ireturn, 1) → z_V X E 11 o r.2 pc lv [.int r.1])  (g : z_G)  (h : s_Mod_storms_b56 g = some r) : z_V X E 11 o g 56 [] [] := by
  unfold s_Mod_storms_b56 at h
  refine z_iconst (v := (-1)) hE dX10_storms_56 rfl ?_
  obtain rfl := Option.some.inj h
  exact hret _ _ dX10_storms_57
set_option maxHeartbeats 1000000 in
set_option maxRecDepth 20000 in
theorem b_Mod_storms_L222 {X : z_X} {E : z_ET} {o : z_G} (hE : z_EV X E cX10_storms 11 RX10 4 99 80) {r : Int32 × z_G} (hret : ∀ (pc : Nat) (lv : List (Nat × Value)), decode cX10_storms pc = .ok (.ireturn, 1) → z_V X E 11 o r.2 pc lv [.int r.1]) : ∀ (n : Nat) (x5 : Int32) (x6 : Int32) (x7 : Int32) (x8 : Int32) (x9 : Int32) (g : z_G), s_Mod_storms_L222 n x5 x6 x7 x8 x9 g = some r → z_V X E 11 o g 222 [(5, .int x5), (6, .int x6), (7, .int x7), (8, .int x8), (9, .int x9)] [] := by
  intro n
  induction n with
  | zero => intro x5 x6 x7 x8 x9 g h; exact z_none h
  | succ n ih =>
    intro x5 x6 x7 x8 x9 g h
    rw [s_Mod_storms_L222] at h
    refine z_iload hE 4 dX10_storms_222 rfl ?_
    refine z_if_eq hE 245 dX10_storms_224 rfl (fun c20q => ?_) (fun c20q => ?_)
    · replace h := z_t c20q h
      refine z_iload hE 0 dX10_storms_245 rfl ?_
      refine z_if_ne hE 258 dX10_storms_247 rfl (fun c21q => ?_) (fun c21q => ?_)
      · replace h := z_f c21q h
        refine z_iload hE 2 dX10_storms_258 rfl ?_
        refine z_iload hE 3 dX10_storms_260 rfl ?_
        obtain ⟨k22q, h⟩ := z_ck_some h
        refine z_idiv hE dX10_storms_262 (of_decide_eq_true k22q) ?_
        obtain rfl := Option.some.inj h
        exact hret _ _ dX10_storms_263
      · replace h := z_t c21q h
        refine z_iload hE 1 dX10_storms_250 rfl ?_
        refine z_iload hE 3 dX10_storms_252 rfl ?_
        obtain ⟨k23q, h⟩ := z_ck_some h
        refine z_idiv hE dX10_storms_254 (of_decide_eq_true k23q) ?_
        refine z_goto hE 263 dX10_storms_255 rfl ?_
        obtain rfl := Option.some.inj h
        exact hret _ _ dX10_storms_263
    · replace h := z_f c20q h
      refine z_iload hE 3 dX10_storms_227 rfl ?_
      refine z_iload hE 4 dX10_storms_229 rfl ?_
      obtain ⟨k24q, h⟩ := z_ck_some h
      refine z_irem hE dX10_storms_231 (of_decide_eq_true k24q) ?_
      refine z_istore hE [(10, .int (z_rem x8 x9)), (5, .int x5), (6, .int x6), (7, .int x7), (8, .int x8), (9, .int x9)] dX10_storms_232 (by decide) rfl ?_
      refine z_iload hE 5 dX10_storms_234 rfl ?_
      refine z_istore hE [(8, .int x9), (10, .int (z_rem x8 x9)), (5, .int x5), (6, .int x6), (7, .int x7), (9, .int x9)] dX10_storms_236 (by decide) rfl ?_
      refine z_iload hE 1 dX10_storms_238 rfl ?_
      refine z_istore hE [(9, .int (z_rem x8 x9)), (8, .int x9), (10, .int (z_rem x8 x9)), (5, .int x5), (6, .int x6), (7, .int x7)] dX10_storms_240 (by decide) rfl ?_
      refine z_goto hE 222 dX10_storms_242 rfl ?_
      refine z_sub [(5, .int x5), (6, .int x6), (7, .int x7), (8, .int x9), (9, .int (z_rem x8 x9))] [3, 4, 5, 1, 0] rfl ?_
      exact ih x5 x6 x7 x9 (z_rem x8 x9) g h
set_option maxHeartbeats 1000000 in
set_option maxRecDepth 20000 in
theorem b_Mod_storms_b205 {X : z_X} {E : z_ET} {o : z_G} (hE : z_EV X E cX10_storms 11 RX10 4 99 80) {r : Int32 × z_G} (hret : ∀ (pc : Nat) (lv : List (Nat × Value)), decode cX10_storms pc = .ok (.ireturn, 1) → z_V X E 11 o r.2 pc lv [.int r.1]) (k67 : Int32 → Int32 → Int32 → Int32 → Int32 → Int32 → Int32 → Int32 → z_G → Option (Int32 × z_G)) (hk67 : ∀ (x1 : Int32) (x2 : Int32) (x3 : Int32) (x4 : Int32) (x5 : Int32) (x6 : Int32) (x7 : Int32) (x8 : Int32) (g : z_G), k67 x1 x2 x3 x4 x5 x6 x7 x8 g = some r → z_V X E 11 o g 67 [(0, .ref (z_ad X 71)), (1, .int x1), (2, .int x2), (3, .int x3), (4, .int x4), (5, .int x5), (6, .int x6), (7, .int x7), (8, .int x8)] []) (x1 : Int32) (x2 : Int32) (x3 : Int32) (x4 : Int32) (x5 : Int32) (x7 : Int32) (x8 : Int32) (s1 : Int32) (s0 : Int32) (g : z_G)  (h : s_Mod_storms_b205 k67 x1 x2 x3 x4 x5 x7 x8 s1 s0 g = some r) : z_V X E 11 o g 205 [(0, .ref (z_ad X 71)), (1, .int x1), (2, .int x2), (3, .int x3), (4, .int x4), (5, .int x5), (7, .int x7), (8, .int x8)] [.int s1, .int s0] := by
  unfold s_Mod_storms_b205 at h
  refine z_iadd hE dX10_storms_205 ?_
  refine z_istore hE [(6, .int (s0 + s1)), (0, .ref (z_ad X 71)), (1, .int x1), (2, .int x2), (3, .int x3), (4, .int x4), (5, .int x5), (7, .int x7), (8, .int x8)] dX10_storms_206 (by decide) rfl ?_
  refine z_iinc (v := x8 + 1) hE 8 [(8, .int (x8 + 1)), (6, .int (s0 + s1)), (0, .ref (z_ad X 71)), (1, .int x1), (2, .int x2), (3, .int x3), (4, .int x4), (5, .int x5), (7, .int x7)] dX10_storms_208 rfl rfl (by decide) rfl ?_
  refine z_goto hE 67 dX10_storms_211 rfl ?_
  refine z_sub [(0, .ref (z_ad X 71)), (1, .int x1), (2, .int x2), (3, .int x3), (4, .int x4), (5, .int x5), (6, .int (s0 + s1)), (7, .int x7), (8, .int (x8 + 1))] [2, 3, 4, 5, 6, 7, 1, 8, 0] rfl ?_
  exact hk67 x1 x2 x3 x4 x5 (s0 + s1) x7 (x8 + 1) g h
set_option maxHeartbeats 1000000 in
set_option maxRecDepth 20000 in
theorem b_Mod_storms_b204 {X : z_X} {E : z_ET} {o : z_G} (hE : z_EV X E cX10_storms 11 RX10 4 99 80) {r : Int32 × z_G} (hret : ∀ (pc : Nat) (lv : List (Nat × Value)), decode cX10_storms pc = .ok (.ireturn, 1) → z_V X E 11 o r.2 pc lv [.int r.1]) (k67 : Int32 → Int32 → Int32 → Int32 → Int32 → Int32 → Int32 → Int32 → z_G → Option (Int32 × z_G)) (hk67 : ∀ (x1 : Int32) (x2 : Int32) (x3 : Int32) (x4 : Int32) (x5 : Int32) (x6 : Int32) (x7 : Int32) (x8 : Int32) (g : z_G), k67 x1 x2 x3 x4 x5 x6 x7 x8 g = some r → z_V X E 11 o g 67 [(0, .ref (z_ad X 71)), (1, .int x1), (2, .int x2), (3, .int x3), (4, .int x4), (5, .int x5), (6, .int x6), (7, .int x7), (8, .int x8)] []) (x1 : Int32) (x2 : Int32) (x3 : Int32) (x4 : Int32) (x5 : Int32) (x7 : Int32) (x8 : Int32) (s0 : Int32) (g : z_G)  (h : s_Mod_storms_b204 k67 x1 x2 x3 x4 x5 x7 x8 s0 g = some r) : z_V X E 11 o g 204 [(0, .ref (z_ad X 71)), (1, .int x1), (2, .int x2), (3, .int x3), (4, .int x4), (5, .int x5), (7, .int x7), (8, .int x8)] [.int s0] := by
  unfold s_Mod_storms_b204 at h
  refine z_iconst (v := 0) hE dX10_storms_204 rfl ?_
  exact b_Mod_storms_b205 hE hret k67 hk67 x1 x2 x3 x4 x5 x7 x8 0 s0 g h
set_option maxHeartbeats 1000000 in
set_option maxRecDepth 20000 in
theorem b_Mod_storms_b127 {X : z_X} {E : z_ET} {o : z_G} (hE : z_EV X E cX10_storms 11 RX10 4 99 80) {r : Int32 × z_G} (hret : ∀ (pc : Nat) (lv : List (Nat × Value)), decode cX10_storms pc = .ok (.ireturn, 1) → z_V X E 11 o r.2 pc lv [.int r.1]) (k67 : Int32 → Int32 → Int32 → Int32 → Int32 → Int32 → Int32 → Int32 → z_G → Option (Int32 × z_G)) (hk67 : ∀ (x1 : Int32) (x2 : Int32) (x3 : Int32) (x4 : Int32) (x5 : Int32) (x6 : Int32) (x7 : Int32) (x8 : Int32) (g : z_G), k67 x1 x2 x3 x4 x5 x6 x7 x8 g = some r → z_V X E 11 o g 67 [(0, .ref (z_ad X 71)), (1, .int x1), (2, .int x2), (3, .int x3), (4, .int x4), (5, .int x5), (6, .int x6), (7, .int x7), (8, .int x8)] []) (k93 : Int32 → Int32 → Int32 → Int32 → Int32 → Int32 → Int32 → Int32 → Int32 → Int32 → z_G → Option (Int32 × z_G)) (hk93 : ∀ (x1 : Int32) (x2 : Int32) (x3 : Int32) (x4 : Int32) (x5 : Int32) (x6 : Int32) (x7 : Int32) (x8 : Int32) (x9 : Int32) (x10 : Int32) (g : z_G), k93 x1 x2 x3 x4 x5 x6 x7 x8 x9 x10 g = some r → z_V X E 11 o g 93 [(0, .ref (z_ad X 71)), (1, .int x1), (2, .int x2), (3, .int x3), (4, .int x4), (5, .int x5), (6, .int x6), (7, .int x7), (8, .int x8), (9, .int x9), (10, .int x10)] []) (x1 : Int32) (x2 : Int32) (x3 : Int32) (x4 : Int32) (x5 : Int32) (x6 : Int32) (x7 : Int32) (x8 : Int32) (x10 : Int32) (s1 : Int32) (s0 : Int32) (g : z_G)  (h : s_Mod_storms_b127 k67 k93 x1 x2 x3 x4 x5 x6 x7 x8 x10 s1 s0 g = some r) : z_V X E 11 o g 127 [(0, .ref (z_ad X 71)), (1, .int x1), (2, .int x2), (3, .int x3), (4, .int x4), (5, .int x5), (6, .int x6), (7, .int x7), (8, .int x8), (10, .int x10)] [.int s1, .int s0] := by
  unfold s_Mod_storms_b127 at h
  refine z_imul hE dX10_storms_127 ?_
  refine z_istore hE [(9, .int (s0 * s1)), (0, .ref (z_ad X 71)), (1, .int x1), (2, .int x2), (3, .int x3), (4, .int x4), (5, .int x5), (6, .int x6), (7, .int x7), (8, .int x8), (10, .int x10)] dX10_storms_128 (by decide) rfl ?_
  refine z_aload_n hE 1 dX10_storms_130 rfl ?_
  refine z_iconst (v := 0) hE dX10_storms_131 rfl ?_
  refine z_iload_n hE 2 dX10_storms_132 rfl ?_
  refine z_aload_n hE 1 dX10_storms_133 rfl ?_
  refine z_get hE f_RX10_7 (by decide) e_71 rfl dX10_storms_134 ?_
  refine z_bipush (v := 48) hE dX10_storms_137 rfl ?_
  refine z_iload hE 10 dX10_storms_139 rfl ?_
  refine z_iadd hE dX10_storms_141 ?_
  obtain ⟨k25q, h⟩ := z_ck_some h
  refine z_iald hE (by decide) e_72 k25q dX10_storms_142 ?_
  refine z_iconst (v := 0) hE dX10_storms_143 rfl ?_
  refine z_aload_n hE 1 dX10_storms_144 rfl ?_
  refine z_get hE f_RX10_7 (by decide) e_71 rfl dX10_storms_145 ?_
  refine z_bipush (v := 54) hE dX10_storms_148 rfl ?_
  refine z_iload hE 10 dX10_storms_150 rfl ?_
  refine z_iadd hE dX10_storms_152 ?_
  obtain ⟨k26q, h⟩ := z_ck_some h
  refine z_iald hE (by decide) e_72 k26q dX10_storms_153 ?_
  refine z_iload hE 9 dX10_storms_154 rfl ?_
  refine z_iload hE 10 dX10_storms_156 rfl ?_
  refine z_ishr hE dX10_storms_158 ?_
  refine z_iconst (v := 1) hE dX10_storms_159 rfl ?_
  refine z_iand hE dX10_storms_160 ?_
  refine z_isub hE dX10_storms_161 ?_
  refine z_iS (rest := [.int (z_rd g 1 (48 + x10)), .int x1, .int 0, .ref (z_ad X 71)]) (av := [.int 0, .int ((z_rd g 1 (54 + x10)) - ((x8 >>> (x10 &&& 31)) &&& 1))]) hE (c_Mod_larger 0 ((z_rd g 1 (54 + x10)) - ((x8 >>> (x10 &&& 31)) &&& 1)) g) l_RX10_106 (by decide) ⟨by decide, by decide⟩ dX10_storms_162 rfl (Nat.le_of_ble_eq_true rfl) ?_
  obtain ⟨r27q, hr27q, h⟩ := z_bind_some h
  refine z_vV (rest := []) (av := [.int 0, .int x1, .int (z_rd g 1 (48 + x10)), .int (s_Mod_larger 0 ((z_rd g 1 (54 + x10)) - ((x8 >>> (x10 &&& 31)) &&& 1)))]) hE (c_Mod_goes 0 x1 (z_rd g 1 (48 + x10)) (s_Mod_larger 0 ((z_rd g 1 (54 + x10)) - ((x8 >>> (x10 &&& 31)) &&& 1))) g r27q hr27q) l_RX10_158 (by decide) (by decide) e_71 rfl ⟨by decide, by decide⟩ dX10_storms_165 rfl (Nat.le_of_ble_eq_true rfl) ?_
  refine z_iinc (v := x10 + 1) hE 10 [(10, .int (x10 + 1)), (9, .int (s0 * s1)), (0, .ref (z_ad X 71)), (1, .int x1), (2, .int x2), (3, .int x3), (4, .int x4), (5, .int x5), (6, .int x6), (7, .int x7), (8, .int x8)] dX10_storms_168 rfl rfl (by decide) rfl ?_
  refine z_goto hE 93 dX10_storms_171 rfl ?_
  refine z_sub [(0, .ref (z_ad X 71)), (1, .int x1), (2, .int x2), (3, .int x3), (4, .int x4), (5, .int x5), (6, .int x6), (7, .int x7), (8, .int x8), (9, .int (s0 * s1)), (10, .int (x10 + 1))] [2, 3, 4, 5, 6, 7, 8, 9, 10, 1, 0] rfl ?_
  exact hk93 x1 x2 x3 x4 x5 x6 x7 x8 (s0 * s1) (x10 + 1) r27q h
set_option maxHeartbeats 1000000 in
set_option maxRecDepth 20000 in
theorem b_Mod_storms_L93 {X : z_X} {E : z_ET} {o : z_G} (hE : z_EV X E cX10_storms 11 RX10 4 99 80) {r : Int32 × z_G} (hret : ∀ (pc : Nat) (lv : List (Nat × Value)), decode cX10_storms pc = .ok (.ireturn, 1) → z_V X E 11 o r.2 pc lv [.int r.1]) (k67 : Int32 → Int32 → Int32 → Int32 → Int32 → Int32 → Int32 → Int32 → z_G → Option (Int32 × z_G)) (hk67 : ∀ (x1 : Int32) (x2 : Int32) (x3 : Int32) (x4 : Int32) (x5 : Int32) (x6 : Int32) (x7 : Int32) (x8 : Int32) (g : z_G), k67 x1 x2 x3 x4 x5 x6 x7 x8 g = some r → z_V X E 11 o g 67 [(0, .ref (z_ad X 71)), (1, .int x1), (2, .int x2), (3, .int x3), (4, .int x4), (5, .int x5), (6, .int x6), (7, .int x7), (8, .int x8)] []) : ∀ (n : Nat) (x1 : Int32) (x2 : Int32) (x3 : Int32) (x4 : Int32) (x5 : Int32) (x6 : Int32) (x7 : Int32) (x8 : Int32) (x9 : Int32) (x10 : Int32) (g : z_G), s_Mod_storms_L93 k67 n x1 x2 x3 x4 x5 x6 x7 x8 x9 x10 g = some r → z_V X E 11 o g 93 [(0, .ref (z_ad X 71)), (1, .int x1), (2, .int x2), (3, .int x3), (4, .int x4), (5, .int x5), (6, .int x6), (7, .int x7), (8, .int x8), (9, .int x9), (10, .int x10)] [] := by
  intro n
  induction n with
  | zero => intro x1 x2 x3 x4 x5 x6 x7 x8 x9 x10 g h; exact z_none h
  | succ n ih =>
    intro x1 x2 x3 x4 x5 x6 x7 x8 x9 x10 g h
    rw [s_Mod_storms_L93] at h
    refine z_iload hE 10 dX10_storms_93 rfl ?_
    refine z_aload_n hE 0 dX10_storms_95 rfl ?_
    refine z_get hE f_RX10_7 (by decide) e_71 rfl dX10_storms_96 ?_
    refine z_bipush (v := 47) hE dX10_storms_99 rfl ?_
    refine z_iald hE (by decide) e_72 (by decide) dX10_storms_101 ?_
    refine z_icmp_ge hE 174 dX10_storms_102 rfl (fun c28q => ?_) (fun c28q => ?_)
    · replace h := z_t c28q h
      refine z_iload hE 7 dX10_storms_174 rfl ?_
      refine z_iload hE 9 dX10_storms_176 rfl ?_
      refine z_iadd hE dX10_storms_178 ?_
      refine z_istore hE [(7, .int (x7 + x9)), (0, .ref (z_ad X 71)), (1, .int x1), (2, .int x2), (3, .int x3), (4, .int x4), (5, .int x5), (6, .int x6), (8, .int x8), (9, .int x9), (10, .int x10)] dX10_storms_179 (by decide) rfl ?_
      refine z_iload hE 7 dX10_storms_181 rfl ?_
      refine z_aload_n hE 1 dX10_storms_183 rfl ?_
      refine z_get hE f_RX10_135 (by decide) e_71 rfl dX10_storms_184 ?_
      refine z_iload_n hE 3 dX10_storms_187 rfl ?_
      refine z_icmp_ne hE 204 dX10_storms_188 rfl (fun c29q => ?_) (fun c29q => ?_)
      · replace h := z_f c29q h
        refine z_sub [(0, .ref (z_ad X 71)), (1, .int x1), (2, .int x2), (3, .int x3), (4, .int x4), (5, .int x5), (7, .int (x7 + x9)), (8, .int x8)] [1, 2, 3, 4, 5, 6, 0, 8] rfl ?_
        exact b_Mod_storms_b204 hE hret k67 hk67 x1 x2 x3 x4 x5 (x7 + x9) x8 x6 g h
      · replace h := z_t c29q h
        refine z_aload_n hE 1 dX10_storms_191 rfl ?_
        refine z_get hE f_RX10_138 (by decide) e_71 rfl dX10_storms_192 ?_
        refine z_iload_n hE 4 dX10_storms_195 rfl ?_
        refine z_icmp_ne hE 204 dX10_storms_196 rfl (fun c30q => ?_) (fun c30q => ?_)
        · replace h := z_f c30q h
          refine z_sub [(0, .ref (z_ad X 71)), (1, .int x1), (2, .int x2), (3, .int x3), (4, .int x4), (5, .int x5), (7, .int (x7 + x9)), (8, .int x8)] [1, 2, 3, 4, 5, 6, 0, 8] rfl ?_
          exact b_Mod_storms_b204 hE hret k67 hk67 x1 x2 x3 x4 x5 (x7 + x9) x8 x6 g h
        · replace h := z_t c30q h
          refine z_iload hE 9 dX10_storms_199 rfl ?_
          refine z_goto hE 205 dX10_storms_201 rfl ?_
          refine z_sub [(0, .ref (z_ad X 71)), (1, .int x1), (2, .int x2), (3, .int x3), (4, .int x4), (5, .int x5), (7, .int (x7 + x9)), (8, .int x8)] [1, 2, 3, 4, 5, 6, 0, 8] rfl ?_
          exact b_Mod_storms_b205 hE hret k67 hk67 x1 x2 x3 x4 x5 (x7 + x9) x8 x9 x6 g h
    · replace h := z_f c28q h
      refine z_iload hE 9 dX10_storms_105 rfl ?_
      refine z_iload hE 8 dX10_storms_107 rfl ?_
      refine z_iload hE 10 dX10_storms_109 rfl ?_
      refine z_iS (rest := [.int x9]) (av := [.int x8, .int x10]) hE (c_Mod_has x8 x10 g) l_RX10_148 (by decide) ⟨by decide, by decide⟩ dX10_storms_111 rfl (Nat.le_of_ble_eq_true rfl) ?_
      refine z_if_eq hE 122 dX10_storms_114 rfl (fun c31q => ?_) (fun c31q => ?_)
      · replace h := z_t c31q h
        refine z_bipush (v := 10) hE dX10_storms_122 rfl ?_
        refine z_iload hE 4 dX10_storms_124 rfl ?_
        refine z_isub hE dX10_storms_126 ?_
        refine z_sub [(0, .ref (z_ad X 71)), (1, .int x1), (2, .int x2), (3, .int x3), (4, .int x4), (5, .int x5), (6, .int x6), (7, .int x7), (8, .int x8), (10, .int x10)] [0, 1, 2, 3, 4, 5, 6, 7, 8, 10] rfl ?_
        exact b_Mod_storms_b127 hE hret k67 hk67 (s_Mod_storms_L93 k67 n) ih x1 x2 x3 x4 x5 x6 x7 x8 x10 (10 - x4) x9 g h
      · replace h := z_f c31q h
        refine z_iload hE 4 dX10_storms_117 rfl ?_
        refine z_goto hE 127 dX10_storms_119 rfl ?_
        refine z_sub [(0, .ref (z_ad X 71)), (1, .int x1), (2, .int x2), (3, .int x3), (4, .int x4), (5, .int x5), (6, .int x6), (7, .int x7), (8, .int x8), (10, .int x10)] [0, 1, 2, 3, 4, 5, 6, 7, 8, 10] rfl ?_
        exact b_Mod_storms_b127 hE hret k67 hk67 (s_Mod_storms_L93 k67 n) ih x1 x2 x3 x4 x5 x6 x7 x8 x10 x4 x9 g h
set_option maxHeartbeats 1000000 in
set_option maxRecDepth 20000 in
theorem b_Mod_storms_L67 {X : z_X} {E : z_ET} {o : z_G} (hE : z_EV X E cX10_storms 11 RX10 4 99 80) {r : Int32 × z_G} (hret : ∀ (pc : Nat) (lv : List (Nat × Value)), decode cX10_storms pc = .ok (.ireturn, 1) → z_V X E 11 o r.2 pc lv [.int r.1]) : ∀ (n : Nat) (x1 : Int32) (x2 : Int32) (x3 : Int32) (x4 : Int32) (x5 : Int32) (x6 : Int32) (x7 : Int32) (x8 : Int32) (g : z_G), s_Mod_storms_L67 n x1 x2 x3 x4 x5 x6 x7 x8 g = some r → z_V X E 11 o g 67 [(0, .ref (z_ad X 71)), (1, .int x1), (2, .int x2), (3, .int x3), (4, .int x4), (5, .int x5), (6, .int x6), (7, .int x7), (8, .int x8)] [] := by
  intro n
  induction n with
  | zero => intro x1 x2 x3 x4 x5 x6 x7 x8 g h; exact z_none h
  | succ n ih =>
    intro x1 x2 x3 x4 x5 x6 x7 x8 g h
    rw [s_Mod_storms_L67] at h
    refine z_iload hE 8 dX10_storms_67 rfl ?_
    refine z_iconst (v := 1) hE dX10_storms_69 rfl ?_
    refine z_aload_n hE 0 dX10_storms_70 rfl ?_
    refine z_get hE f_RX10_7 (by decide) e_71 rfl dX10_storms_71 ?_
    refine z_bipush (v := 47) hE dX10_storms_74 rfl ?_
    refine z_iald hE (by decide) e_72 (by decide) dX10_storms_76 ?_
    refine z_ishl hE dX10_storms_77 ?_
    refine z_icmp_ge hE 214 dX10_storms_78 rfl (fun c32q => ?_) (fun c32q => ?_)
    · replace h := z_t c32q h
      refine z_iload hE 6 dX10_storms_214 rfl ?_
      refine z_istore hE [(8, .int x6), (0, .ref (z_ad X 71)), (1, .int x1), (2, .int x2), (3, .int x3), (4, .int x4), (5, .int x5), (6, .int x6), (7, .int x7)] dX10_storms_216 (by decide) rfl ?_
      refine z_iload hE 8 dX10_storms_218 rfl ?_
      refine z_istore hE [(9, .int x7), (8, .int x6), (0, .ref (z_ad X 71)), (1, .int x1), (2, .int x2), (3, .int x3), (4, .int x4), (5, .int x5), (6, .int x6), (7, .int x7)] dX10_storms_220 (by decide) rfl ?_
      refine z_sub [(5, .int x5), (6, .int x6), (7, .int x7), (8, .int x6), (9, .int x7)] [7, 8, 9, 1, 0] rfl ?_
      exact b_Mod_storms_L222 hE hret z_F x5 x6 x7 x6 x7 g h
    · replace h := z_f c32q h
      refine z_iconst (v := 1) hE dX10_storms_81 rfl ?_
      refine z_istore hE [(9, .int 1), (0, .ref (z_ad X 71)), (1, .int x1), (2, .int x2), (3, .int x3), (4, .int x4), (5, .int x5), (6, .int x6), (7, .int x7), (8, .int x8)] dX10_storms_82 (by decide) rfl ?_
      refine z_aload_n hE 1 dX10_storms_84 rfl ?_
      refine z_iconst (v := 0) hE dX10_storms_85 rfl ?_
      refine z_iload_n hE 2 dX10_storms_86 rfl ?_
      obtain ⟨r33q, hr33q, h⟩ := z_bind_some h
      refine z_vV (rest := []) (av := [.int 0, .int x1]) hE (c_Mod_picks 0 x1 g r33q hr33q) l_RX10_155 (by decide) (by decide) e_71 rfl ⟨by decide, by decide⟩ dX10_storms_87 rfl (Nat.le_of_ble_eq_true rfl) ?_
      refine z_iconst (v := 0) hE dX10_storms_90 rfl ?_
      refine z_istore hE [(10, .int 0), (9, .int 1), (0, .ref (z_ad X 71)), (1, .int x1), (2, .int x2), (3, .int x3), (4, .int x4), (5, .int x5), (6, .int x6), (7, .int x7), (8, .int x8)] dX10_storms_91 (by decide) rfl ?_
      refine z_sub [(0, .ref (z_ad X 71)), (1, .int x1), (2, .int x2), (3, .int x3), (4, .int x4), (5, .int x5), (6, .int x6), (7, .int x7), (8, .int x8), (9, .int 1), (10, .int 0)] [2, 3, 4, 5, 6, 7, 8, 9, 10, 1, 0] rfl ?_
      exact b_Mod_storms_L93 hE hret (s_Mod_storms_L67 n) ih z_F x1 x2 x3 x4 x5 x6 x7 x8 1 0 r33q h
set_option maxHeartbeats 1000000 in
set_option maxRecDepth 20000 in
theorem c_Mod_storms {X : z_X} {l : Launch} {o : z_G} (x1 : Int32) (x2 : Int32) (x3 : Int32) (x4 : Int32) (x5 : Int32) (g : z_G) (r : Int32 × z_G) (h : s_Mod_storms x1 x2 x3 x4 x5 g = some r) : z_MI X l 80 yX10_storms cX10_storms 11 (some .int) 4 99 [.ref (z_ad X 71), .int x1, .int x2, .int x3, .int x4, .int x5] o g o r.2 r.1 := by
  unfold s_Mod_storms at h
  refine z_meti (ty := .int) rfl rfl (by decide) (Nat.le_of_ble_eq_true rfl) (fun E hl hE hret => ?_)
  subst hl
  refine z_aload_n hE 0 dX10_storms_0 rfl ?_
  refine z_iload_n hE 1 dX10_storms_1 rfl ?_
  refine z_iV (rest := []) (av := [.int x1]) hE (c_Mod_isMan x1 g) l_RX10_113 (by decide) (by decide) e_71 rfl ⟨by decide, by decide⟩ dX10_storms_2 rfl (Nat.le_of_ble_eq_true rfl) ?_
  refine z_if_eq hE 56 dX10_storms_5 rfl (fun c34q => ?_) (fun c34q => ?_)
  · replace h := z_t c34q h
    refine z_sub [] [] rfl ?_
    exact b_Mod_storms_b56 hE hret g h
  · replace h := z_f c34q h
    refine z_iload_n hE 2 dX10_storms_8 rfl ?_
    refine z_i2l hE dX10_storms_9 ?_
    refine z_lconst (v := 0) hE dX10_storms_10 rfl ?_
    refine z_ldc2 hE dX10_storms_11 w_470 ?_
    refine z_iS (rest := []) (av := [.long (Int32.toInt64 x2), .long 0, .long 15]) hE (c_Mod_in (Int32.toInt64 x2) 0 15 g) l_RX10_60 (by decide) ⟨by decide, by decide⟩ dX10_storms_14 rfl (Nat.le_of_ble_eq_true rfl) ?_
    refine z_if_eq hE 56 dX10_storms_17 rfl (fun c35q => ?_) (fun c35q => ?_)
    · replace h := z_t c35q h
      refine z_sub [] [] rfl ?_
      exact b_Mod_storms_b56 hE hret g h
    · replace h := z_f c35q h
      refine z_iload_n hE 3 dX10_storms_20 rfl ?_
      refine z_i2l hE dX10_storms_21 ?_
      refine z_lconst (v := 0) hE dX10_storms_22 rfl ?_
      refine z_ldc2 hE dX10_storms_23 w_470 ?_
      refine z_iS (rest := []) (av := [.long (Int32.toInt64 x3), .long 0, .long 15]) hE (c_Mod_in (Int32.toInt64 x3) 0 15 g) l_RX10_60 (by decide) ⟨by decide, by decide⟩ dX10_storms_26 rfl (Nat.le_of_ble_eq_true rfl) ?_
      refine z_if_eq hE 56 dX10_storms_29 rfl (fun c36q => ?_) (fun c36q => ?_)
      · replace h := z_t c36q h
        refine z_sub [] [] rfl ?_
        exact b_Mod_storms_b56 hE hret g h
      · replace h := z_f c36q h
        refine z_iload hE 4 dX10_storms_32 rfl ?_
        refine z_i2l hE dX10_storms_34 ?_
        refine z_lconst (v := 0) hE dX10_storms_35 rfl ?_
        refine z_ldc2 hE dX10_storms_36 w_542 ?_
        refine z_iS (rest := []) (av := [.long (Int32.toInt64 x4), .long 0, .long 10]) hE (c_Mod_in (Int32.toInt64 x4) 0 10 g) l_RX10_60 (by decide) ⟨by decide, by decide⟩ dX10_storms_39 rfl (Nat.le_of_ble_eq_true rfl) ?_
        refine z_if_eq hE 56 dX10_storms_42 rfl (fun c37q => ?_) (fun c37q => ?_)
        · replace h := z_t c37q h
          refine z_sub [] [] rfl ?_
          exact b_Mod_storms_b56 hE hret g h
        · replace h := z_f c37q h
          refine z_iload hE 5 dX10_storms_45 rfl ?_
          refine z_i2l hE dX10_storms_47 ?_
          refine z_lconst (v := 0) hE dX10_storms_48 rfl ?_
          refine z_lconst (v := 1) hE dX10_storms_49 rfl ?_
          refine z_iS (rest := []) (av := [.long (Int32.toInt64 x5), .long 0, .long 1]) hE (c_Mod_in (Int32.toInt64 x5) 0 1 g) l_RX10_60 (by decide) ⟨by decide, by decide⟩ dX10_storms_50 rfl (Nat.le_of_ble_eq_true rfl) ?_
          refine z_if_ne hE 58 dX10_storms_53 rfl (fun c38q => ?_) (fun c38q => ?_)
          · replace h := z_f c38q h
            refine z_iconst (v := 0) hE dX10_storms_58 rfl ?_
            refine z_istore hE [(6, .int 0), (0, .ref (z_ad X 71)), (1, .int x1), (2, .int x2), (3, .int x3), (4, .int x4), (5, .int x5)] dX10_storms_59 (by decide) rfl ?_
            refine z_iconst (v := 0) hE dX10_storms_61 rfl ?_
            refine z_istore hE [(7, .int 0), (6, .int 0), (0, .ref (z_ad X 71)), (1, .int x1), (2, .int x2), (3, .int x3), (4, .int x4), (5, .int x5)] dX10_storms_62 (by decide) rfl ?_
            refine z_iconst (v := 0) hE dX10_storms_64 rfl ?_
            refine z_istore hE [(8, .int 0), (7, .int 0), (6, .int 0), (0, .ref (z_ad X 71)), (1, .int x1), (2, .int x2), (3, .int x3), (4, .int x4), (5, .int x5)] dX10_storms_65 (by decide) rfl ?_
            refine z_sub [(0, .ref (z_ad X 71)), (1, .int x1), (2, .int x2), (3, .int x3), (4, .int x4), (5, .int x5), (6, .int 0), (7, .int 0), (8, .int 0)] [3, 4, 5, 6, 7, 8, 2, 1, 0] rfl ?_
            exact b_Mod_storms_L67 hE hret z_F x1 x2 x3 x4 x5 0 0 0 g h
          · replace h := z_t c38q h
            refine z_sub [] [] rfl ?_
            exact b_Mod_storms_b56 hE hret g h
theorem dX10_march_0 : decode cX10_march 0 = .ok (.iload_n 1, 1) := by decide +kernel
theorem dX10_march_1 : decode cX10_march 1 = .ok (.i2l, 1) := by decide +kernel
theorem dX10_march_2 : decode cX10_march 2 = .ok (.lconst 0, 1) := by decide +kernel
theorem dX10_march_3 : decode cX10_march 3 = .ok (.ldc2_w 201, 3) := by decide +kernel
theorem dX10_march_6 : decode cX10_march 6 = .ok (.invokestatic 60, 3) := by decide +kernel
theorem dX10_march_9 : decode cX10_march 9 = .ok (.ifCond .eq 25, 3) := by decide +kernel
theorem dX10_march_12 : decode cX10_march 12 = .ok (.iload_n 2, 1) := by decide +kernel
theorem dX10_march_13 : decode cX10_march 13 = .ok (.i2l, 1) := by decide +kernel
theorem dX10_march_14 : decode cX10_march 14 = .ok (.lconst 1, 1) := by decide +kernel
theorem dX10_march_15 : decode cX10_march 15 = .ok (.ldc2_w 203, 3) := by decide +kernel
theorem dX10_march_18 : decode cX10_march 18 = .ok (.invokestatic 60, 3) := by decide +kernel
theorem dX10_march_21 : decode cX10_march 21 = .ok (.ifCond .eq 13, 3) := by decide +kernel
theorem dX10_march_24 : decode cX10_march 24 = .ok (.iload_n 3, 1) := by decide +kernel
theorem dX10_march_25 : decode cX10_march 25 = .ok (.i2l, 1) := by decide +kernel
theorem dX10_march_26 : decode cX10_march 26 = .ok (.lconst 0, 1) := by decide +kernel
theorem dX10_march_27 : decode cX10_march 27 = .ok (.lconst 1, 1) := by decide +kernel
theorem dX10_march_28 : decode cX10_march 28 = .ok (.invokestatic 60, 3) := by decide +kernel
theorem dX10_march_31 : decode cX10_march 31 = .ok (.ifCond .ne 5, 3) := by decide +kernel
theorem dX10_march_34 : decode cX10_march 34 = .ok (.iconst (-1), 1) := by decide +kernel
theorem dX10_march_35 : decode cX10_march 35 = .ok (.ireturn, 1) := by decide +kernel
theorem dX10_march_36 : decode cX10_march 36 = .ok (.aload_n 0, 1) := by decide +kernel
theorem dX10_march_37 : decode cX10_march 37 = .ok (.iconst 0, 1) := by decide +kernel
theorem dX10_march_38 : decode cX10_march 38 = .ok (.sipush 286, 3) := by decide +kernel
theorem dX10_march_41 : decode cX10_march 41 = .ok (.invokevirtual 161, 3) := by decide +kernel
theorem dX10_march_44 : decode cX10_march 44 = .ok (.iconst 0, 1) := by decide +kernel
theorem dX10_march_45 : decode cX10_march 45 = .ok (.istore 4, 2) := by decide +kernel
theorem dX10_march_47 : decode cX10_march 47 = .ok (.iconst 0, 1) := by decide +kernel
theorem dX10_march_48 : decode cX10_march 48 = .ok (.istore 5, 2) := by decide +kernel
theorem dX10_march_50 : decode cX10_march 50 = .ok (.iload 5, 2) := by decide +kernel
theorem dX10_march_52 : decode cX10_march 52 = .ok (.iload_n 2, 1) := by decide +kernel
theorem dX10_march_53 : decode cX10_march 53 = .ok (.if_icmp .ge 102, 3) := by decide +kernel
theorem dX10_march_56 : decode cX10_march 56 = .ok (.ldc2_w 205, 3) := by decide +kernel
theorem dX10_march_59 : decode cX10_march 59 = .ok (.iload_n 1, 1) := by decide +kernel
theorem dX10_march_60 : decode cX10_march 60 = .ok (.i2l, 1) := by decide +kernel
theorem dX10_march_61 : decode cX10_march 61 = .ok (.lmul, 1) := by decide +kernel
theorem dX10_march_62 : decode cX10_march 62 = .ok (.ldc2_w 207, 3) := by decide +kernel
theorem dX10_march_65 : decode cX10_march 65 = .ok (.iload 5, 2) := by decide +kernel
theorem dX10_march_67 : decode cX10_march 67 = .ok (.i2l, 1) := by decide +kernel
theorem dX10_march_68 : decode cX10_march 68 = .ok (.lmul, 1) := by decide +kernel
theorem dX10_march_69 : decode cX10_march 69 = .ok (.ladd, 1) := by decide +kernel
theorem dX10_march_70 : decode cX10_march 70 = .ok (.lconst 1, 1) := by decide +kernel
theorem dX10_march_71 : decode cX10_march 71 = .ok (.ladd, 1) := by decide +kernel
theorem dX10_march_72 : decode cX10_march 72 = .ok (.lstore 6, 2) := by decide +kernel
theorem dX10_march_74 : decode cX10_march 74 = .ok (.lload 6, 2) := by decide +kernel
theorem dX10_march_76 : decode cX10_march 76 = .ok (.lload 6, 2) := by decide +kernel
theorem dX10_march_78 : decode cX10_march 78 = .ok (.lmul, 1) := by decide +kernel
theorem dX10_march_79 : decode cX10_march 79 = .ok (.ldc2_w 209, 3) := by decide +kernel
theorem dX10_march_82 : decode cX10_march 82 = .ok (.lrem, 1) := by decide +kernel
theorem dX10_march_83 : decode cX10_march 83 = .ok (.ldc2_w 117, 3) := by decide +kernel
theorem dX10_march_86 : decode cX10_march 86 = .ok (.ldiv, 1) := by decide +kernel
theorem dX10_march_87 : decode cX10_march 87 = .ok (.l2i, 1) := by decide +kernel
theorem dX10_march_88 : decode cX10_march 88 = .ok (.istore 8, 2) := by decide +kernel
theorem dX10_march_90 : decode cX10_march 90 = .ok (.aload_n 0, 1) := by decide +kernel
theorem dX10_march_91 : decode cX10_march 91 = .ok (.sipush 286, 3) := by decide +kernel
theorem dX10_march_94 : decode cX10_march 94 = .ok (.iload 8, 2) := by decide +kernel
theorem dX10_march_96 : decode cX10_march 96 = .ok (.bipush 8, 2) := by decide +kernel
theorem dX10_march_98 : decode cX10_march 98 = .ok (.irem, 1) := by decide +kernel
theorem dX10_march_99 : decode cX10_march 99 = .ok (.iload 8, 2) := by decide +kernel
theorem dX10_march_101 : decode cX10_march 101 = .ok (.bipush 8, 2) := by decide +kernel
theorem dX10_march_103 : decode cX10_march 103 = .ok (.idiv, 1) := by decide +kernel
theorem dX10_march_104 : decode cX10_march 104 = .ok (.iconst 4, 1) := by decide +kernel
theorem dX10_march_105 : decode cX10_march 105 = .ok (.irem, 1) := by decide +kernel
theorem dX10_march_106 : decode cX10_march 106 = .ok (.invokevirtual 174, 3) := by decide +kernel
theorem dX10_march_109 : decode cX10_march 109 = .ok (.iconst 0, 1) := by decide +kernel
theorem dX10_march_110 : decode cX10_march 110 = .ok (.istore 9, 2) := by decide +kernel
theorem dX10_march_112 : decode cX10_march 112 = .ok (.iload 9, 2) := by decide +kernel
theorem dX10_march_114 : decode cX10_march 114 = .ok (.aload_n 0, 1) := by decide +kernel
theorem dX10_march_115 : decode cX10_march 115 = .ok (.invokevirtual 56, 3) := by decide +kernel
theorem dX10_march_118 : decode cX10_march 118 = .ok (.if_icmp .ge 31, 3) := by decide +kernel
theorem dX10_march_121 : decode cX10_march 121 = .ok (.iload 4, 2) := by decide +kernel
theorem dX10_march_123 : decode cX10_march 123 = .ok (.aload_n 0, 1) := by decide +kernel
theorem dX10_march_124 : decode cX10_march 124 = .ok (.sipush 286, 3) := by decide +kernel
theorem dX10_march_127 : decode cX10_march 127 = .ok (.iload 9, 2) := by decide +kernel
theorem dX10_march_129 : decode cX10_march 129 = .ok (.invokevirtual 119, 3) := by decide +kernel
theorem dX10_march_132 : decode cX10_march 132 = .ok (.ifCond .eq 7, 3) := by decide +kernel
theorem dX10_march_135 : decode cX10_march 135 = .ok (.iconst 1, 1) := by decide +kernel
theorem dX10_march_136 : decode cX10_march 136 = .ok (.goto 4, 3) := by decide +kernel
theorem dX10_march_139 : decode cX10_march 139 = .ok (.iconst 0, 1) := by decide +kernel
theorem dX10_march_140 : decode cX10_march 140 = .ok (.iadd, 1) := by decide +kernel
theorem dX10_march_141 : decode cX10_march 141 = .ok (.istore 4, 2) := by decide +kernel
theorem dX10_march_143 : decode cX10_march 143 = .ok (.iinc 9 1, 3) := by decide +kernel
theorem dX10_march_146 : decode cX10_march 146 = .ok (.goto (-34), 3) := by decide +kernel
theorem dX10_march_149 : decode cX10_march 149 = .ok (.iinc 5 1, 3) := by decide +kernel
theorem dX10_march_152 : decode cX10_march 152 = .ok (.goto (-102), 3) := by decide +kernel
theorem dX10_march_155 : decode cX10_march 155 = .ok (.iload_n 3, 1) := by decide +kernel
theorem dX10_march_156 : decode cX10_march 156 = .ok (.ifCond .ne 13, 3) := by decide +kernel
theorem dX10_march_159 : decode cX10_march 159 = .ok (.aload_n 0, 1) := by decide +kernel
theorem dX10_march_160 : decode cX10_march 160 = .ok (.sipush 286, 3) := by decide +kernel
theorem dX10_march_163 : decode cX10_march 163 = .ok (.invokevirtual 177, 3) := by decide +kernel
theorem dX10_march_166 : decode cX10_march 166 = .ok (.goto 5, 3) := by decide +kernel
theorem dX10_march_169 : decode cX10_march 169 = .ok (.iload 4, 2) := by decide +kernel
theorem dX10_march_171 : decode cX10_march 171 = .ok (.ireturn, 1) := by decide +kernel
def s_Mod_march_b34  (g : z_G) : Option (Int32 × z_G) := (some ((-1), g))
def s_Mod_march_b140 (k50 : Int32 → Int32 → Int32 → Int32 → Int32 → z_G → Option (Int32 × z_G)) (k112 : Int32 → Int32 → Int32 → Int32 → Int32 → Int32 → z_G → Option (Int32 × z_G)) (x1 : Int32) (x2 : Int32) (x3 : Int32) (x5 : Int32) (x9 : Int32) (s1 : Int32) (s0 : Int32) (g : z_G) : Option (Int32 × z_G) := (k112 x1 x2 x3 (s0 + s1) x5 (x9 + 1) g)
def s_Mod_march_L112 (k50 : Int32 → Int32 → Int32 → Int32 → Int32 → z_G → Option (Int32 × z_G)) : Nat → Int32 → Int32 → Int32 → Int32 → Int32 → Int32 → z_G → Option (Int32 × z_G)
  | 0, _, _, _, _, _, _, _ => none
  | n + 1, x1, x2, x3, x4, x5, x9, g => (if (s_Mod_men g) ≤ x9 then (k50 x1 x2 x3 x4 (x5 + 1) g) else (Option.bind (s_Mod_isHome 286 x9 g) fun r15q => (if r15q = 0 then (s_Mod_march_b140 k50 (s_Mod_march_L112 k50 n) x1 x2 x3 x5 x9 0 x4 g) else (s_Mod_march_b140 k50 (s_Mod_march_L112 k50 n) x1 x2 x3 x5 x9 1 x4 g))))
def s_Mod_march_L50 : Nat → Int32 → Int32 → Int32 → Int32 → Int32 → z_G → Option (Int32 × z_G)
  | 0, _, _, _, _, _, _ => none
  | n + 1, x1, x2, x3, x4, x5, g => (if x2 ≤ x5 then (if x3 = 0 then (Option.bind (s_Mod_lost 286 g) fun r19q => (some (r19q, g))) else (some (x4, g))) else (z_let (α := Int64) ((((7919 * (Int32.toInt64 x1)) + (6151 * (Int32.toInt64 x5))) + 1)) fun v20q => (z_let (α := Int32) ((Int64.toInt32 ((z_remL (v20q * v20q) 65521) / 8))) fun v21q => (Option.bind (s_Mod_orders 286 (z_rem v21q 8) (z_rem (v21q / 8) 4) g) fun r22q => (s_Mod_march_L112 (s_Mod_march_L50 n) z_F x1 x2 x3 x4 x5 0 r22q)))))
def s_Mod_march (x1 : Int32) (x2 : Int32) (x3 : Int32) (g : z_G) : Option (Int32 × z_G) := (if (s_Mod_in (Int32.toInt64 x1) 0 9999) = 0 then (s_Mod_march_b34 g) else (if (s_Mod_in (Int32.toInt64 x2) 1 40) = 0 then (s_Mod_march_b34 g) else (if (s_Mod_in (Int32.toInt64 x3) 0 1) = 0 then (s_Mod_march_b34 g) else (Option.bind (s_Mod_copies 0 286 g) fun r26q => (s_Mod_march_L50 z_F x1 x2 x3 0 0 r26q)))))
set_option maxHeartbeats 1000000 in
set_option maxRecDepth 20000 in
theorem b_Mod_march_b34 {X : z_X} {E : z_ET} {o : z_G} (hE : z_EV X E cX10_march 10 RX10 5 123 80) {r : Int32 × z_G} (hret : ∀ (pc : Nat) (lv : List (Nat × Value)), decode cX10_march pc = .ok (.ireturn, 1) → z_V X E 10 o r.2 pc lv [.int r.1])  (g : z_G)  (h : s_Mod_march_b34 g = some r) : z_V X E 10 o g 34 [] [] := by
  unfold s_Mod_march_b34 at h
  refine z_iconst (v := (-1)) hE dX10_march_34 rfl ?_
  obtain rfl := Option.some.inj h
  exact hret _ _ dX10_march_35
set_option maxHeartbeats 1000000 in
set_option maxRecDepth 20000 in
theorem b_Mod_march_b140 {X : z_X} {E : z_ET} {o : z_G} (hE : z_EV X E cX10_march 10 RX10 5 123 80) {r : Int32 × z_G} (hret : ∀ (pc : Nat) (lv : List (Nat × Value)), decode cX10_march pc = .ok (.ireturn, 1) → z_V X E 10 o r.2 pc lv [.int r.1]) (k50 : Int32 → Int32 → Int32 → Int32 → Int32 → z_G → Option (Int32 × z_G)) (hk50 : ∀ (x1 : Int32) (x2 : Int32) (x3 : Int32) (x4 : Int32) (x5 : Int32) (g : z_G), k50 x1 x2 x3 x4 x5 g = some r → z_V X E 10 o g 50 [(0, .ref (z_ad X 71)), (1, .int x1), (2, .int x2), (3, .int x3), (4, .int x4), (5, .int x5)] []) (k112 : Int32 → Int32 → Int32 → Int32 → Int32 → Int32 → z_G → Option (Int32 × z_G)) (hk112 : ∀ (x1 : Int32) (x2 : Int32) (x3 : Int32) (x4 : Int32) (x5 : Int32) (x9 : Int32) (g : z_G), k112 x1 x2 x3 x4 x5 x9 g = some r → z_V X E 10 o g 112 [(0, .ref (z_ad X 71)), (1, .int x1), (2, .int x2), (3, .int x3), (4, .int x4), (5, .int x5), (9, .int x9)] []) (x1 : Int32) (x2 : Int32) (x3 : Int32) (x5 : Int32) (x9 : Int32) (s1 : Int32) (s0 : Int32) (g : z_G)  (h : s_Mod_march_b140 k50 k112 x1 x2 x3 x5 x9 s1 s0 g = some r) : z_V X E 10 o g 140 [(0, .ref (z_ad X 71)), (1, .int x1), (2, .int x2), (3, .int x3), (5, .int x5), (9, .int x9)] [.int s1, .int s0] := by
  unfold s_Mod_march_b140 at h
  refine z_iadd hE dX10_march_140 ?_
  refine z_istore hE [(4, .int (s0 + s1)), (0, .ref (z_ad X 71)), (1, .int x1), (2, .int x2), (3, .int x3), (5, .int x5), (9, .int x9)] dX10_march_141 (by decide) rfl ?_
  refine z_iinc (v := x9 + 1) hE 6 [(9, .int (x9 + 1)), (4, .int (s0 + s1)), (0, .ref (z_ad X 71)), (1, .int x1), (2, .int x2), (3, .int x3), (5, .int x5)] dX10_march_143 rfl rfl (by decide) rfl ?_
  refine z_goto hE 112 dX10_march_146 rfl ?_
  refine z_sub [(0, .ref (z_ad X 71)), (1, .int x1), (2, .int x2), (3, .int x3), (4, .int (s0 + s1)), (5, .int x5), (9, .int (x9 + 1))] [2, 3, 4, 5, 1, 6, 0] rfl ?_
  exact hk112 x1 x2 x3 (s0 + s1) x5 (x9 + 1) g h
set_option maxHeartbeats 1000000 in
set_option maxRecDepth 20000 in
theorem b_Mod_march_L112 {X : z_X} {E : z_ET} {o : z_G} (hE : z_EV X E cX10_march 10 RX10 5 123 80) {r : Int32 × z_G} (hret : ∀ (pc : Nat) (lv : List (Nat × Value)), decode cX10_march pc = .ok (.ireturn, 1) → z_V X E 10 o r.2 pc lv [.int r.1]) (k50 : Int32 → Int32 → Int32 → Int32 → Int32 → z_G → Option (Int32 × z_G)) (hk50 : ∀ (x1 : Int32) (x2 : Int32) (x3 : Int32) (x4 : Int32) (x5 : Int32) (g : z_G), k50 x1 x2 x3 x4 x5 g = some r → z_V X E 10 o g 50 [(0, .ref (z_ad X 71)), (1, .int x1), (2, .int x2), (3, .int x3), (4, .int x4), (5, .int x5)] []) : ∀ (n : Nat) (x1 : Int32) (x2 : Int32) (x3 : Int32) (x4 : Int32) (x5 : Int32) (x9 : Int32) (g : z_G), s_Mod_march_L112 k50 n x1 x2 x3 x4 x5 x9 g = some r → z_V X E 10 o g 112 [(0, .ref (z_ad X 71)), (1, .int x1), (2, .int x2), (3, .int x3), (4, .int x4), (5, .int x5), (9, .int x9)] [] := by
  intro n
  induction n with
  | zero => intro x1 x2 x3 x4 x5 x9 g h; exact z_none h
  | succ n ih =>
    intro x1 x2 x3 x4 x5 x9 g h
    rw [s_Mod_march_L112] at h
    refine z_iload hE 6 dX10_march_112 rfl ?_
    refine z_aload_n hE 0 dX10_march_114 rfl ?_
    refine z_iV (rest := [.int x9]) (av := []) hE (c_Mod_men g) l_RX10_56 (by decide) (by decide) e_71 rfl ⟨by decide, by decide⟩ dX10_march_115 rfl (Nat.le_of_ble_eq_true rfl) ?_
    refine z_icmp_ge hE 149 dX10_march_118 rfl (fun c14q => ?_) (fun c14q => ?_)
    · replace h := z_t c14q h
      refine z_iinc (v := x5 + 1) hE 5 [(5, .int (x5 + 1)), (0, .ref (z_ad X 71)), (1, .int x1), (2, .int x2), (3, .int x3), (4, .int x4), (9, .int x9)] dX10_march_149 rfl rfl (by decide) rfl ?_
      refine z_goto hE 50 dX10_march_152 rfl ?_
      refine z_sub [(0, .ref (z_ad X 71)), (1, .int x1), (2, .int x2), (3, .int x3), (4, .int x4), (5, .int (x5 + 1))] [1, 2, 3, 4, 5, 0] rfl ?_
      exact hk50 x1 x2 x3 x4 (x5 + 1) g h
    · replace h := z_f c14q h
      refine z_iload hE 4 dX10_march_121 rfl ?_
      refine z_aload_n hE 0 dX10_march_123 rfl ?_
      refine z_sipush (v := 286) hE dX10_march_124 rfl ?_
      refine z_iload hE 6 dX10_march_127 rfl ?_
      obtain ⟨r15q, hr15q, h⟩ := z_bind_some h
      refine z_iV (rest := [.int x4]) (av := [.int 286, .int x9]) hE (c_Mod_isHome 286 x9 g r15q hr15q) l_RX10_119 (by decide) (by decide) e_71 rfl ⟨by decide, by decide⟩ dX10_march_129 rfl (Nat.le_of_ble_eq_true rfl) ?_
      refine z_if_eq hE 139 dX10_march_132 rfl (fun c16q => ?_) (fun c16q => ?_)
      · replace h := z_t c16q h
        refine z_iconst (v := 0) hE dX10_march_139 rfl ?_
        refine z_sub [(0, .ref (z_ad X 71)), (1, .int x1), (2, .int x2), (3, .int x3), (5, .int x5), (9, .int x9)] [0, 1, 2, 3, 5, 6] rfl ?_
        exact b_Mod_march_b140 hE hret k50 hk50 (s_Mod_march_L112 k50 n) ih x1 x2 x3 x5 x9 0 x4 g h
      · replace h := z_f c16q h
        refine z_iconst (v := 1) hE dX10_march_135 rfl ?_
        refine z_goto hE 140 dX10_march_136 rfl ?_
        refine z_sub [(0, .ref (z_ad X 71)), (1, .int x1), (2, .int x2), (3, .int x3), (5, .int x5), (9, .int x9)] [0, 1, 2, 3, 5, 6] rfl ?_
        exact b_Mod_march_b140 hE hret k50 hk50 (s_Mod_march_L112 k50 n) ih x1 x2 x3 x5 x9 1 x4 g h
set_option maxHeartbeats 1000000 in
set_option maxRecDepth 20000 in
theorem b_Mod_march_L50 {X : z_X} {E : z_ET} {o : z_G} (hE : z_EV X E cX10_march 10 RX10 5 123 80) {r : Int32 × z_G} (hret : ∀ (pc : Nat) (lv : List (Nat × Value)), decode cX10_march pc = .ok (.ireturn, 1) → z_V X E 10 o r.2 pc lv [.int r.1]) : ∀ (n : Nat) (x1 : Int32) (x2 : Int32) (x3 : Int32) (x4 : Int32) (x5 : Int32) (g : z_G), s_Mod_march_L50 n x1 x2 x3 x4 x5 g = some r → z_V X E 10 o g 50 [(0, .ref (z_ad X 71)), (1, .int x1), (2, .int x2), (3, .int x3), (4, .int x4), (5, .int x5)] [] := by
  intro n
  induction n with
  | zero => intro x1 x2 x3 x4 x5 g h; exact z_none h
  | succ n ih =>
    intro x1 x2 x3 x4 x5 g h
    rw [s_Mod_march_L50] at h
    refine z_iload hE 5 dX10_march_50 rfl ?_
    refine z_iload_n hE 2 dX10_march_52 rfl ?_
    refine z_icmp_ge hE 155 dX10_march_53 rfl (fun c17q => ?_) (fun c17q => ?_)
    · replace h := z_t c17q h
      refine z_iload_n hE 3 dX10_march_155 rfl ?_
      refine z_if_ne hE 169 dX10_march_156 rfl (fun c18q => ?_) (fun c18q => ?_)
      · replace h := z_f c18q h
        refine z_iload hE 4 dX10_march_169 rfl ?_
        obtain rfl := Option.some.inj h
        exact hret _ _ dX10_march_171
      · replace h := z_t c18q h
        refine z_aload_n hE 0 dX10_march_159 rfl ?_
        refine z_sipush (v := 286) hE dX10_march_160 rfl ?_
        obtain ⟨r19q, hr19q, h⟩ := z_bind_some h
        refine z_iV (rest := []) (av := [.int 286]) hE (c_Mod_lost 286 g r19q hr19q) l_RX10_177 (by decide) (by decide) e_71 rfl ⟨by decide, by decide⟩ dX10_march_163 rfl (Nat.le_of_ble_eq_true rfl) ?_
        refine z_goto hE 171 dX10_march_166 rfl ?_
        obtain rfl := Option.some.inj h
        exact hret _ _ dX10_march_171
    · replace h := z_f c17q h
      refine z_ldc2 hE dX10_march_56 w_545 ?_
      refine z_iload_n hE 1 dX10_march_59 rfl ?_
      refine z_i2l hE dX10_march_60 ?_
      refine z_lmul hE dX10_march_61 ?_
      refine z_ldc2 hE dX10_march_62 w_546 ?_
      refine z_iload hE 5 dX10_march_65 rfl ?_
      refine z_i2l hE dX10_march_67 ?_
      refine z_lmul hE dX10_march_68 ?_
      refine z_ladd hE dX10_march_69 ?_
      refine z_lconst (v := 1) hE dX10_march_70 rfl ?_
      refine z_ladd hE dX10_march_71 ?_
      obtain ⟨v20q, ev20q, h⟩ := z_let_eq h
      refine z_topl ev20q ?_
      refine z_lstore hE [(6, .long v20q), (0, .ref (z_ad X 71)), (1, .int x1), (2, .int x2), (3, .int x3), (4, .int x4), (5, .int x5)] dX10_march_72 (by decide) rfl ?_
      refine z_lload hE 0 dX10_march_74 rfl ?_
      refine z_lload hE 0 dX10_march_76 rfl ?_
      refine z_lmul hE dX10_march_78 ?_
      refine z_ldc2 hE dX10_march_79 w_547 ?_
      refine z_lrem hE dX10_march_82 (by decide) ?_
      refine z_ldc2 hE dX10_march_83 w_455 ?_
      refine z_ldiv hE dX10_march_86 (by decide) ?_
      refine z_l2i hE dX10_march_87 ?_
      obtain ⟨v21q, ev21q, h⟩ := z_let_eq h
      refine z_topi ev21q ?_
      refine z_istore hE [(8, .int v21q), (6, .long v20q), (0, .ref (z_ad X 71)), (1, .int x1), (2, .int x2), (3, .int x3), (4, .int x4), (5, .int x5)] dX10_march_88 (by decide) rfl ?_
      refine z_aload_n hE 2 dX10_march_90 rfl ?_
      refine z_sipush (v := 286) hE dX10_march_91 rfl ?_
      refine z_iload hE 0 dX10_march_94 rfl ?_
      refine z_bipush (v := 8) hE dX10_march_96 rfl ?_
      refine z_irem hE dX10_march_98 (by decide) ?_
      refine z_iload hE 0 dX10_march_99 rfl ?_
      refine z_bipush (v := 8) hE dX10_march_101 rfl ?_
      refine z_idiv hE dX10_march_103 (by decide) ?_
      refine z_iconst (v := 4) hE dX10_march_104 rfl ?_
      refine z_irem hE dX10_march_105 (by decide) ?_
      obtain ⟨r22q, hr22q, h⟩ := z_bind_some h
      refine z_vV (rest := []) (av := [.int 286, .int (z_rem v21q 8), .int (z_rem (v21q / 8) 4)]) hE (c_Mod_orders 286 (z_rem v21q 8) (z_rem (v21q / 8) 4) g r22q hr22q) l_RX10_174 (by decide) (by decide) e_71 rfl ⟨by decide, by decide⟩ dX10_march_106 rfl (Nat.le_of_ble_eq_true rfl) ?_
      refine z_iconst (v := 0) hE dX10_march_109 rfl ?_
      refine z_istore hE [(9, .int 0), (8, .int v21q), (6, .long v20q), (0, .ref (z_ad X 71)), (1, .int x1), (2, .int x2), (3, .int x3), (4, .int x4), (5, .int x5)] dX10_march_110 (by decide) rfl ?_
      refine z_sub [(0, .ref (z_ad X 71)), (1, .int x1), (2, .int x2), (3, .int x3), (4, .int x4), (5, .int x5), (9, .int 0)] [3, 4, 5, 6, 7, 8, 0] rfl ?_
      exact b_Mod_march_L112 hE hret (s_Mod_march_L50 n) ih z_F x1 x2 x3 x4 x5 0 r22q h
set_option maxHeartbeats 1000000 in
set_option maxRecDepth 20000 in
theorem c_Mod_march {X : z_X} {l : Launch} {o : z_G} (x1 : Int32) (x2 : Int32) (x3 : Int32) (g : z_G) (r : Int32 × z_G) (h : s_Mod_march x1 x2 x3 g = some r) : z_MI X l 80 yX10_march cX10_march 10 (some .int) 5 123 [.ref (z_ad X 71), .int x1, .int x2, .int x3] o g o r.2 r.1 := by
  unfold s_Mod_march at h
  refine z_meti (ty := .int) rfl rfl (by decide) (Nat.le_of_ble_eq_true rfl) (fun E hl hE hret => ?_)
  subst hl
  refine z_iload_n hE 1 dX10_march_0 rfl ?_
  refine z_i2l hE dX10_march_1 ?_
  refine z_lconst (v := 0) hE dX10_march_2 rfl ?_
  refine z_ldc2 hE dX10_march_3 w_543 ?_
  refine z_iS (rest := []) (av := [.long (Int32.toInt64 x1), .long 0, .long 9999]) hE (c_Mod_in (Int32.toInt64 x1) 0 9999 g) l_RX10_60 (by decide) ⟨by decide, by decide⟩ dX10_march_6 rfl (Nat.le_of_ble_eq_true rfl) ?_
  refine z_if_eq hE 34 dX10_march_9 rfl (fun c23q => ?_) (fun c23q => ?_)
  · replace h := z_t c23q h
    refine z_sub [] [] rfl ?_
    exact b_Mod_march_b34 hE hret g h
  · replace h := z_f c23q h
    refine z_iload_n hE 2 dX10_march_12 rfl ?_
    refine z_i2l hE dX10_march_13 ?_
    refine z_lconst (v := 1) hE dX10_march_14 rfl ?_
    refine z_ldc2 hE dX10_march_15 w_544 ?_
    refine z_iS (rest := []) (av := [.long (Int32.toInt64 x2), .long 1, .long 40]) hE (c_Mod_in (Int32.toInt64 x2) 1 40 g) l_RX10_60 (by decide) ⟨by decide, by decide⟩ dX10_march_18 rfl (Nat.le_of_ble_eq_true rfl) ?_
    refine z_if_eq hE 34 dX10_march_21 rfl (fun c24q => ?_) (fun c24q => ?_)
    · replace h := z_t c24q h
      refine z_sub [] [] rfl ?_
      exact b_Mod_march_b34 hE hret g h
    · replace h := z_f c24q h
      refine z_iload_n hE 3 dX10_march_24 rfl ?_
      refine z_i2l hE dX10_march_25 ?_
      refine z_lconst (v := 0) hE dX10_march_26 rfl ?_
      refine z_lconst (v := 1) hE dX10_march_27 rfl ?_
      refine z_iS (rest := []) (av := [.long (Int32.toInt64 x3), .long 0, .long 1]) hE (c_Mod_in (Int32.toInt64 x3) 0 1 g) l_RX10_60 (by decide) ⟨by decide, by decide⟩ dX10_march_28 rfl (Nat.le_of_ble_eq_true rfl) ?_
      refine z_if_ne hE 36 dX10_march_31 rfl (fun c25q => ?_) (fun c25q => ?_)
      · replace h := z_f c25q h
        refine z_aload_n hE 0 dX10_march_36 rfl ?_
        refine z_iconst (v := 0) hE dX10_march_37 rfl ?_
        refine z_sipush (v := 286) hE dX10_march_38 rfl ?_
        obtain ⟨r26q, hr26q, h⟩ := z_bind_some h
        refine z_vV (rest := []) (av := [.int 0, .int 286]) hE (c_Mod_copies 0 286 g r26q hr26q) l_RX10_161 (by decide) (by decide) e_71 rfl ⟨by decide, by decide⟩ dX10_march_41 rfl (Nat.le_of_ble_eq_true rfl) ?_
        refine z_iconst (v := 0) hE dX10_march_44 rfl ?_
        refine z_istore hE [(4, .int 0), (0, .ref (z_ad X 71)), (1, .int x1), (2, .int x2), (3, .int x3)] dX10_march_45 (by decide) rfl ?_
        refine z_iconst (v := 0) hE dX10_march_47 rfl ?_
        refine z_istore hE [(5, .int 0), (4, .int 0), (0, .ref (z_ad X 71)), (1, .int x1), (2, .int x2), (3, .int x3)] dX10_march_48 (by decide) rfl ?_
        refine z_sub [(0, .ref (z_ad X 71)), (1, .int x1), (2, .int x2), (3, .int x3), (4, .int 0), (5, .int 0)] [2, 3, 4, 5, 1, 0] rfl ?_
        exact b_Mod_march_L50 hE hret z_F x1 x2 x3 0 0 r26q h
      · replace h := z_t c25q h
        refine z_sub [] [] rfl ?_
        exact b_Mod_march_b34 hE hret g h
theorem dX10_keep_0 : decode cX10_keep 0 = .ok (.aload_n 0, 1) := by decide +kernel
theorem dX10_keep_1 : decode cX10_keep 1 = .ok (.getfield 50, 3) := by decide +kernel
theorem dX10_keep_4 : decode cX10_keep 4 = .ok (.iconst 2, 1) := by decide +kernel
theorem dX10_keep_5 : decode cX10_keep 5 = .ok (.if_icmp .ne 6, 3) := by decide +kernel
theorem dX10_keep_8 : decode cX10_keep 8 = .ok (.bipush (-3), 2) := by decide +kernel
theorem dX10_keep_10 : decode cX10_keep 10 = .ok (.ireturn, 1) := by decide +kernel
theorem dX10_keep_11 : decode cX10_keep 11 = .ok (.aload_n 0, 1) := by decide +kernel
theorem dX10_keep_12 : decode cX10_keep 12 = .ok (.iconst 0, 1) := by decide +kernel
theorem dX10_keep_13 : decode cX10_keep 13 = .ok (.bipush 9, 2) := by decide +kernel
theorem dX10_keep_15 : decode cX10_keep 15 = .ok (.aload_n 0, 1) := by decide +kernel
theorem dX10_keep_16 : decode cX10_keep 16 = .ok (.getfield 50, 3) := by decide +kernel
theorem dX10_keep_19 : decode cX10_keep 19 = .ok (.iadd, 1) := by decide +kernel
theorem dX10_keep_20 : decode cX10_keep 20 = .ok (.bipush 26, 2) := by decide +kernel
theorem dX10_keep_22 : decode cX10_keep 22 = .ok (.imul, 1) := by decide +kernel
theorem dX10_keep_23 : decode cX10_keep 23 = .ok (.invokevirtual 161, 3) := by decide +kernel
theorem dX10_keep_26 : decode cX10_keep 26 = .ok (.aload_n 0, 1) := by decide +kernel
theorem dX10_keep_27 : decode cX10_keep 27 = .ok (.dup, 1) := by decide +kernel
theorem dX10_keep_28 : decode cX10_keep 28 = .ok (.getfield 50, 3) := by decide +kernel
theorem dX10_keep_31 : decode cX10_keep 31 = .ok (.iconst 1, 1) := by decide +kernel
theorem dX10_keep_32 : decode cX10_keep 32 = .ok (.iadd, 1) := by decide +kernel
theorem dX10_keep_33 : decode cX10_keep 33 = .ok (.putfield 50, 3) := by decide +kernel
theorem dX10_keep_36 : decode cX10_keep 36 = .ok (.aload_n 0, 1) := by decide +kernel
theorem dX10_keep_37 : decode cX10_keep 37 = .ok (.getfield 50, 3) := by decide +kernel
theorem dX10_keep_40 : decode cX10_keep 40 = .ok (.ireturn, 1) := by decide +kernel
def s_Mod_keep (g : z_G) : Option (Int32 × z_G) := (if (g 0 3) = 2 then (some ((-3), g)) else (Option.bind (s_Mod_copies 0 ((9 + (g 0 3)) * 26) g) fun r5q => (z_let (α := z_G) (z_up r5q 0 3 ((r5q 0 3) + 1)) fun g6q => (some ((g6q 0 3), g6q)))))
set_option maxHeartbeats 1000000 in
set_option maxRecDepth 20000 in
theorem c_Mod_keep {X : z_X} {l : Launch} {o : z_G} (g : z_G) (r : Int32 × z_G) (h : s_Mod_keep g = some r) : z_MI X l 80 yX10_keep cX10_keep 1 (some .int) 1 23 [.ref (z_ad X 71)] o g o r.2 r.1 := by
  unfold s_Mod_keep at h
  refine z_meti (ty := .int) rfl rfl (by decide) (Nat.le_of_ble_eq_true rfl) (fun E hl hE hret => ?_)
  subst hl
  refine z_aload_n hE 0 dX10_keep_0 rfl ?_
  refine z_get hE f_RX10_50 (by decide) e_71 rfl dX10_keep_1 ?_
  refine z_iconst (v := 2) hE dX10_keep_4 rfl ?_
  refine z_icmp_ne hE 11 dX10_keep_5 rfl (fun c4q => ?_) (fun c4q => ?_)
  · replace h := z_f c4q h
    refine z_aload_n hE 0 dX10_keep_11 rfl ?_
    refine z_iconst (v := 0) hE dX10_keep_12 rfl ?_
    refine z_bipush (v := 9) hE dX10_keep_13 rfl ?_
    refine z_aload_n hE 0 dX10_keep_15 rfl ?_
    refine z_get hE f_RX10_50 (by decide) e_71 rfl dX10_keep_16 ?_
    refine z_iadd hE dX10_keep_19 ?_
    refine z_bipush (v := 26) hE dX10_keep_20 rfl ?_
    refine z_imul hE dX10_keep_22 ?_
    obtain ⟨r5q, hr5q, h⟩ := z_bind_some h
    refine z_vV (rest := []) (av := [.int 0, .int ((9 + (g 0 3)) * 26)]) hE (c_Mod_copies 0 ((9 + (g 0 3)) * 26) g r5q hr5q) l_RX10_161 (by decide) (by decide) e_71 rfl ⟨by decide, by decide⟩ dX10_keep_23 rfl (Nat.le_of_ble_eq_true rfl) ?_
    refine z_aload_n hE 0 dX10_keep_26 rfl ?_
    refine z_dup hE dX10_keep_27 rfl ?_
    refine z_get hE f_RX10_50 (by decide) e_71 rfl dX10_keep_28 ?_
    refine z_iconst (v := 1) hE dX10_keep_31 rfl ?_
    refine z_iadd hE dX10_keep_32 ?_
    obtain ⟨g6q, eg6q, h⟩ := z_let_eq h
    refine z_put hE f_RX10_50 ft_10 (by decide) e_71 rfl (tyX10_ok 3 (by decide)) rfl rfl (Nat.le_of_ble_eq_true rfl) (u_71_3 eg6q) dX10_keep_33 ?_
    refine z_aload_n hE 0 dX10_keep_36 rfl ?_
    refine z_get hE f_RX10_50 (by decide) e_71 rfl dX10_keep_37 ?_
    obtain rfl := Option.some.inj h
    exact hret _ _ dX10_keep_40
  · replace h := z_t c4q h
    refine z_bipush (v := (-3)) hE dX10_keep_8 rfl ?_
    obtain rfl := Option.some.inj h
    exact hret _ _ dX10_keep_10
theorem dX10_back_0 : decode cX10_back 0 = .ok (.aload_n 0, 1) := by decide +kernel
theorem dX10_back_1 : decode cX10_back 1 = .ok (.getfield 50, 3) := by decide +kernel
theorem dX10_back_4 : decode cX10_back 4 = .ok (.ifCond .ne 6, 3) := by decide +kernel
theorem dX10_back_7 : decode cX10_back 7 = .ok (.bipush (-2), 2) := by decide +kernel
theorem dX10_back_9 : decode cX10_back 9 = .ok (.ireturn, 1) := by decide +kernel
theorem dX10_back_10 : decode cX10_back 10 = .ok (.aload_n 0, 1) := by decide +kernel
theorem dX10_back_11 : decode cX10_back 11 = .ok (.dup, 1) := by decide +kernel
theorem dX10_back_12 : decode cX10_back 12 = .ok (.getfield 50, 3) := by decide +kernel
theorem dX10_back_15 : decode cX10_back 15 = .ok (.iconst 1, 1) := by decide +kernel
theorem dX10_back_16 : decode cX10_back 16 = .ok (.isub, 1) := by decide +kernel
theorem dX10_back_17 : decode cX10_back 17 = .ok (.putfield 50, 3) := by decide +kernel
theorem dX10_back_20 : decode cX10_back 20 = .ok (.aload_n 0, 1) := by decide +kernel
theorem dX10_back_21 : decode cX10_back 21 = .ok (.bipush 9, 2) := by decide +kernel
theorem dX10_back_23 : decode cX10_back 23 = .ok (.aload_n 0, 1) := by decide +kernel
theorem dX10_back_24 : decode cX10_back 24 = .ok (.getfield 50, 3) := by decide +kernel
theorem dX10_back_27 : decode cX10_back 27 = .ok (.iadd, 1) := by decide +kernel
theorem dX10_back_28 : decode cX10_back 28 = .ok (.bipush 26, 2) := by decide +kernel
theorem dX10_back_30 : decode cX10_back 30 = .ok (.imul, 1) := by decide +kernel
theorem dX10_back_31 : decode cX10_back 31 = .ok (.iconst 0, 1) := by decide +kernel
theorem dX10_back_32 : decode cX10_back 32 = .ok (.invokevirtual 161, 3) := by decide +kernel
theorem dX10_back_35 : decode cX10_back 35 = .ok (.aload_n 0, 1) := by decide +kernel
theorem dX10_back_36 : decode cX10_back 36 = .ok (.iconst 0, 1) := by decide +kernel
theorem dX10_back_37 : decode cX10_back 37 = .ok (.putfield 46, 3) := by decide +kernel
theorem dX10_back_40 : decode cX10_back 40 = .ok (.aload_n 0, 1) := by decide +kernel
theorem dX10_back_41 : decode cX10_back 41 = .ok (.getfield 50, 3) := by decide +kernel
theorem dX10_back_44 : decode cX10_back 44 = .ok (.ireturn, 1) := by decide +kernel
def s_Mod_back (g : z_G) : Option (Int32 × z_G) := (if (g 0 3) = 0 then (some ((-2), g)) else (z_let (α := z_G) (z_up g 0 3 ((g 0 3) - 1)) fun g6q => (Option.bind (s_Mod_copies ((9 + (g6q 0 3)) * 26) 0 g6q) fun r7q => (z_let (α := z_G) (z_up r7q 0 2 0) fun g8q => (some ((g8q 0 3), g8q))))))
set_option maxHeartbeats 1000000 in
set_option maxRecDepth 20000 in
theorem c_Mod_back {X : z_X} {l : Launch} {o : z_G} (g : z_G) (r : Int32 × z_G) (h : s_Mod_back g = some r) : z_MI X l 80 yX10_back cX10_back 1 (some .int) 1 23 [.ref (z_ad X 71)] o g o r.2 r.1 := by
  unfold s_Mod_back at h
  refine z_meti (ty := .int) rfl rfl (by decide) (Nat.le_of_ble_eq_true rfl) (fun E hl hE hret => ?_)
  subst hl
  refine z_aload_n hE 0 dX10_back_0 rfl ?_
  refine z_get hE f_RX10_50 (by decide) e_71 rfl dX10_back_1 ?_
  refine z_if_ne hE 10 dX10_back_4 rfl (fun c5q => ?_) (fun c5q => ?_)
  · replace h := z_f c5q h
    refine z_aload_n hE 0 dX10_back_10 rfl ?_
    refine z_dup hE dX10_back_11 rfl ?_
    refine z_get hE f_RX10_50 (by decide) e_71 rfl dX10_back_12 ?_
    refine z_iconst (v := 1) hE dX10_back_15 rfl ?_
    refine z_isub hE dX10_back_16 ?_
    obtain ⟨g6q, eg6q, h⟩ := z_let_eq h
    refine z_put hE f_RX10_50 ft_10 (by decide) e_71 rfl (tyX10_ok 3 (by decide)) rfl rfl (Nat.le_of_ble_eq_true rfl) (u_71_3 eg6q) dX10_back_17 ?_
    refine z_aload_n hE 0 dX10_back_20 rfl ?_
    refine z_bipush (v := 9) hE dX10_back_21 rfl ?_
    refine z_aload_n hE 0 dX10_back_23 rfl ?_
    refine z_get hE f_RX10_50 (by decide) e_71 rfl dX10_back_24 ?_
    refine z_iadd hE dX10_back_27 ?_
    refine z_bipush (v := 26) hE dX10_back_28 rfl ?_
    refine z_imul hE dX10_back_30 ?_
    refine z_iconst (v := 0) hE dX10_back_31 rfl ?_
    obtain ⟨r7q, hr7q, h⟩ := z_bind_some h
    refine z_vV (rest := []) (av := [.int ((9 + (g6q 0 3)) * 26), .int 0]) hE (c_Mod_copies ((9 + (g6q 0 3)) * 26) 0 g6q r7q hr7q) l_RX10_161 (by decide) (by decide) e_71 rfl ⟨by decide, by decide⟩ dX10_back_32 rfl (Nat.le_of_ble_eq_true rfl) ?_
    refine z_aload_n hE 0 dX10_back_35 rfl ?_
    refine z_iconst (v := 0) hE dX10_back_36 rfl ?_
    obtain ⟨g8q, eg8q, h⟩ := z_let_eq h
    refine z_put hE f_RX10_46 ft_10 (by decide) e_71 rfl (tyX10_ok 2 (by decide)) rfl rfl (Nat.le_of_ble_eq_true rfl) (u_71_2 eg8q) dX10_back_37 ?_
    refine z_aload_n hE 0 dX10_back_40 rfl ?_
    refine z_get hE f_RX10_50 (by decide) e_71 rfl dX10_back_41 ?_
    obtain rfl := Option.some.inj h
    exact hret _ _ dX10_back_44
  · replace h := z_t c5q h
    refine z_bipush (v := (-2)) hE dX10_back_7 rfl ?_
    obtain rfl := Option.some.inj h
    exact hret _ _ dX10_back_9
theorem dX10_count_0 : decode cX10_count 0 = .ok (.iload_n 1, 1) := by decide +kernel
theorem dX10_count_1 : decode cX10_count 1 = .ok (.ifCond .ne 13, 3) := by decide +kernel
theorem dX10_count_4 : decode cX10_count 4 = .ok (.aload_n 0, 1) := by decide +kernel
theorem dX10_count_5 : decode cX10_count 5 = .ok (.getfield 7, 3) := by decide +kernel
theorem dX10_count_8 : decode cX10_count 8 = .ok (.bipush 8, 2) := by decide +kernel
theorem dX10_count_10 : decode cX10_count 10 = .ok (.iaload, 1) := by decide +kernel
theorem dX10_count_11 : decode cX10_count 11 = .ok (.goto 129, 3) := by decide +kernel
theorem dX10_count_14 : decode cX10_count 14 = .ok (.iload_n 1, 1) := by decide +kernel
theorem dX10_count_15 : decode cX10_count 15 = .ok (.iconst 1, 1) := by decide +kernel
theorem dX10_count_16 : decode cX10_count 16 = .ok (.if_icmp .ne 10, 3) := by decide +kernel
theorem dX10_count_19 : decode cX10_count 19 = .ok (.aload_n 0, 1) := by decide +kernel
theorem dX10_count_20 : decode cX10_count 20 = .ok (.invokevirtual 56, 3) := by decide +kernel
theorem dX10_count_23 : decode cX10_count 23 = .ok (.goto 117, 3) := by decide +kernel
theorem dX10_count_26 : decode cX10_count 26 = .ok (.iload_n 1, 1) := by decide +kernel
theorem dX10_count_27 : decode cX10_count 27 = .ok (.iconst 2, 1) := by decide +kernel
theorem dX10_count_28 : decode cX10_count 28 = .ok (.if_icmp .ne 13, 3) := by decide +kernel
theorem dX10_count_31 : decode cX10_count 31 = .ok (.aload_n 0, 1) := by decide +kernel
theorem dX10_count_32 : decode cX10_count 32 = .ok (.getfield 7, 3) := by decide +kernel
theorem dX10_count_35 : decode cX10_count 35 = .ok (.bipush 47, 2) := by decide +kernel
theorem dX10_count_37 : decode cX10_count 37 = .ok (.iaload, 1) := by decide +kernel
theorem dX10_count_38 : decode cX10_count 38 = .ok (.goto 102, 3) := by decide +kernel
theorem dX10_count_41 : decode cX10_count 41 = .ok (.iload_n 1, 1) := by decide +kernel
theorem dX10_count_42 : decode cX10_count 42 = .ok (.iconst 3, 1) := by decide +kernel
theorem dX10_count_43 : decode cX10_count 43 = .ok (.if_icmp .ne 13, 3) := by decide +kernel
theorem dX10_count_46 : decode cX10_count 46 = .ok (.aload_n 0, 1) := by decide +kernel
theorem dX10_count_47 : decode cX10_count 47 = .ok (.getfield 13, 3) := by decide +kernel
theorem dX10_count_50 : decode cX10_count 50 = .ok (.bipush 25, 2) := by decide +kernel
theorem dX10_count_52 : decode cX10_count 52 = .ok (.iaload, 1) := by decide +kernel
theorem dX10_count_53 : decode cX10_count 53 = .ok (.goto 87, 3) := by decide +kernel
theorem dX10_count_56 : decode cX10_count 56 = .ok (.iload_n 1, 1) := by decide +kernel
theorem dX10_count_57 : decode cX10_count 57 = .ok (.iconst 4, 1) := by decide +kernel
theorem dX10_count_58 : decode cX10_count 58 = .ok (.if_icmp .ne 16, 3) := by decide +kernel
theorem dX10_count_61 : decode cX10_count 61 = .ok (.aload_n 0, 1) := by decide +kernel
theorem dX10_count_62 : decode cX10_count 62 = .ok (.getfield 13, 3) := by decide +kernel
theorem dX10_count_65 : decode cX10_count 65 = .ok (.bipush 24, 2) := by decide +kernel
theorem dX10_count_67 : decode cX10_count 67 = .ok (.iaload, 1) := by decide +kernel
theorem dX10_count_68 : decode cX10_count 68 = .ok (.invokestatic 181, 3) := by decide +kernel
theorem dX10_count_71 : decode cX10_count 71 = .ok (.goto 69, 3) := by decide +kernel
theorem dX10_count_74 : decode cX10_count 74 = .ok (.iload_n 1, 1) := by decide +kernel
theorem dX10_count_75 : decode cX10_count 75 = .ok (.iconst 5, 1) := by decide +kernel
theorem dX10_count_76 : decode cX10_count 76 = .ok (.if_icmp .ne 11, 3) := by decide +kernel
theorem dX10_count_79 : decode cX10_count 79 = .ok (.aload_n 0, 1) := by decide +kernel
theorem dX10_count_80 : decode cX10_count 80 = .ok (.iconst 0, 1) := by decide +kernel
theorem dX10_count_81 : decode cX10_count 81 = .ok (.invokevirtual 177, 3) := by decide +kernel
theorem dX10_count_84 : decode cX10_count 84 = .ok (.goto 56, 3) := by decide +kernel
theorem dX10_count_87 : decode cX10_count 87 = .ok (.iload_n 1, 1) := by decide +kernel
theorem dX10_count_88 : decode cX10_count 88 = .ok (.bipush 6, 2) := by decide +kernel
theorem dX10_count_90 : decode cX10_count 90 = .ok (.if_icmp .ne 10, 3) := by decide +kernel
theorem dX10_count_93 : decode cX10_count 93 = .ok (.aload_n 0, 1) := by decide +kernel
theorem dX10_count_94 : decode cX10_count 94 = .ok (.getfield 53, 3) := by decide +kernel
theorem dX10_count_97 : decode cX10_count 97 = .ok (.goto 43, 3) := by decide +kernel
theorem dX10_count_100 : decode cX10_count 100 = .ok (.iload_n 1, 1) := by decide +kernel
theorem dX10_count_101 : decode cX10_count 101 = .ok (.bipush 7, 2) := by decide +kernel
theorem dX10_count_103 : decode cX10_count 103 = .ok (.if_icmp .ne 10, 3) := by decide +kernel
theorem dX10_count_106 : decode cX10_count 106 = .ok (.aload_n 0, 1) := by decide +kernel
theorem dX10_count_107 : decode cX10_count 107 = .ok (.getfield 46, 3) := by decide +kernel
theorem dX10_count_110 : decode cX10_count 110 = .ok (.goto 30, 3) := by decide +kernel
theorem dX10_count_113 : decode cX10_count 113 = .ok (.iload_n 1, 1) := by decide +kernel
theorem dX10_count_114 : decode cX10_count 114 = .ok (.bipush 8, 2) := by decide +kernel
theorem dX10_count_116 : decode cX10_count 116 = .ok (.if_icmp .ne 10, 3) := by decide +kernel
theorem dX10_count_119 : decode cX10_count 119 = .ok (.aload_n 0, 1) := by decide +kernel
theorem dX10_count_120 : decode cX10_count 120 = .ok (.getfield 50, 3) := by decide +kernel
theorem dX10_count_123 : decode cX10_count 123 = .ok (.goto 17, 3) := by decide +kernel
theorem dX10_count_126 : decode cX10_count 126 = .ok (.iload_n 1, 1) := by decide +kernel
theorem dX10_count_127 : decode cX10_count 127 = .ok (.bipush 9, 2) := by decide +kernel
theorem dX10_count_129 : decode cX10_count 129 = .ok (.if_icmp .ne 10, 3) := by decide +kernel
theorem dX10_count_132 : decode cX10_count 132 = .ok (.aload_n 0, 1) := by decide +kernel
theorem dX10_count_133 : decode cX10_count 133 = .ok (.getfield 68, 3) := by decide +kernel
theorem dX10_count_136 : decode cX10_count 136 = .ok (.goto 4, 3) := by decide +kernel
theorem dX10_count_139 : decode cX10_count 139 = .ok (.iconst (-1), 1) := by decide +kernel
theorem dX10_count_140 : decode cX10_count 140 = .ok (.ireturn, 1) := by decide +kernel
def s_Mod_count (x1 : Int32) (g : z_G) : Option (Int32) := (if x1 = 0 then (some (z_rd g 1 8)) else (if x1 = 1 then (some (s_Mod_men g)) else (if x1 = 2 then (some (z_rd g 1 47)) else (if x1 = 3 then (some (z_rd g 2 25)) else (if x1 = 4 then (Option.bind (s_Mod_bits (z_rd g 2 24)) fun r24q => (some r24q)) else (if x1 = 5 then (Option.bind (s_Mod_lost 0 g) fun r23q => (some r23q)) else (if x1 = 6 then (some (g 0 9)) else (if x1 = 7 then (some (g 0 2)) else (if x1 = 8 then (some (g 0 3)) else (if x1 = 9 then (some (g 0 4)) else (some (-1))))))))))))
set_option maxHeartbeats 1000000 in
set_option maxRecDepth 20000 in
theorem c_Mod_count {X : z_X} {l : Launch} {o : z_G} (x1 : Int32) (g : z_G) (r : Int32) (h : s_Mod_count x1 g = some r) : z_MI X l 80 yX10_count cX10_count 2 (some .int) 3 66 [.ref (z_ad X 71), .int x1] o g o g r := by
  unfold s_Mod_count at h
  refine z_meti (ty := .int) rfl rfl (by decide) (Nat.le_of_ble_eq_true rfl) (fun E hl hE hret => ?_)
  subst hl
  refine z_iload_n hE 1 dX10_count_0 rfl ?_
  refine z_if_ne hE 14 dX10_count_1 rfl (fun c13q => ?_) (fun c13q => ?_)
  · replace h := z_f c13q h
    refine z_iload_n hE 1 dX10_count_14 rfl ?_
    refine z_iconst (v := 1) hE dX10_count_15 rfl ?_
    refine z_icmp_ne hE 26 dX10_count_16 rfl (fun c14q => ?_) (fun c14q => ?_)
    · replace h := z_f c14q h
      refine z_iload_n hE 1 dX10_count_26 rfl ?_
      refine z_iconst (v := 2) hE dX10_count_27 rfl ?_
      refine z_icmp_ne hE 41 dX10_count_28 rfl (fun c15q => ?_) (fun c15q => ?_)
      · replace h := z_f c15q h
        refine z_iload_n hE 1 dX10_count_41 rfl ?_
        refine z_iconst (v := 3) hE dX10_count_42 rfl ?_
        refine z_icmp_ne hE 56 dX10_count_43 rfl (fun c16q => ?_) (fun c16q => ?_)
        · replace h := z_f c16q h
          refine z_iload_n hE 1 dX10_count_56 rfl ?_
          refine z_iconst (v := 4) hE dX10_count_57 rfl ?_
          refine z_icmp_ne hE 74 dX10_count_58 rfl (fun c17q => ?_) (fun c17q => ?_)
          · replace h := z_f c17q h
            refine z_iload_n hE 1 dX10_count_74 rfl ?_
            refine z_iconst (v := 5) hE dX10_count_75 rfl ?_
            refine z_icmp_ne hE 87 dX10_count_76 rfl (fun c18q => ?_) (fun c18q => ?_)
            · replace h := z_f c18q h
              refine z_iload_n hE 1 dX10_count_87 rfl ?_
              refine z_bipush (v := 6) hE dX10_count_88 rfl ?_
              refine z_icmp_ne hE 100 dX10_count_90 rfl (fun c19q => ?_) (fun c19q => ?_)
              · replace h := z_f c19q h
                refine z_iload_n hE 1 dX10_count_100 rfl ?_
                refine z_bipush (v := 7) hE dX10_count_101 rfl ?_
                refine z_icmp_ne hE 113 dX10_count_103 rfl (fun c20q => ?_) (fun c20q => ?_)
                · replace h := z_f c20q h
                  refine z_iload_n hE 1 dX10_count_113 rfl ?_
                  refine z_bipush (v := 8) hE dX10_count_114 rfl ?_
                  refine z_icmp_ne hE 126 dX10_count_116 rfl (fun c21q => ?_) (fun c21q => ?_)
                  · replace h := z_f c21q h
                    refine z_iload_n hE 1 dX10_count_126 rfl ?_
                    refine z_bipush (v := 9) hE dX10_count_127 rfl ?_
                    refine z_icmp_ne hE 139 dX10_count_129 rfl (fun c22q => ?_) (fun c22q => ?_)
                    · replace h := z_f c22q h
                      refine z_iconst (v := (-1)) hE dX10_count_139 rfl ?_
                      obtain rfl := Option.some.inj h
                      exact hret _ _ dX10_count_140
                    · replace h := z_t c22q h
                      refine z_aload_n hE 0 dX10_count_132 rfl ?_
                      refine z_get hE f_RX10_68 (by decide) e_71 rfl dX10_count_133 ?_
                      refine z_goto hE 140 dX10_count_136 rfl ?_
                      obtain rfl := Option.some.inj h
                      exact hret _ _ dX10_count_140
                  · replace h := z_t c21q h
                    refine z_aload_n hE 0 dX10_count_119 rfl ?_
                    refine z_get hE f_RX10_50 (by decide) e_71 rfl dX10_count_120 ?_
                    refine z_goto hE 140 dX10_count_123 rfl ?_
                    obtain rfl := Option.some.inj h
                    exact hret _ _ dX10_count_140
                · replace h := z_t c20q h
                  refine z_aload_n hE 0 dX10_count_106 rfl ?_
                  refine z_get hE f_RX10_46 (by decide) e_71 rfl dX10_count_107 ?_
                  refine z_goto hE 140 dX10_count_110 rfl ?_
                  obtain rfl := Option.some.inj h
                  exact hret _ _ dX10_count_140
              · replace h := z_t c19q h
                refine z_aload_n hE 0 dX10_count_93 rfl ?_
                refine z_get hE f_RX10_53 (by decide) e_71 rfl dX10_count_94 ?_
                refine z_goto hE 140 dX10_count_97 rfl ?_
                obtain rfl := Option.some.inj h
                exact hret _ _ dX10_count_140
            · replace h := z_t c18q h
              refine z_aload_n hE 0 dX10_count_79 rfl ?_
              refine z_iconst (v := 0) hE dX10_count_80 rfl ?_
              obtain ⟨r23q, hr23q, h⟩ := z_bind_some h
              refine z_iV (rest := []) (av := [.int 0]) hE (c_Mod_lost 0 g r23q hr23q) l_RX10_177 (by decide) (by decide) e_71 rfl ⟨by decide, by decide⟩ dX10_count_81 rfl (Nat.le_of_ble_eq_true rfl) ?_
              refine z_goto hE 140 dX10_count_84 rfl ?_
              obtain rfl := Option.some.inj h
              exact hret _ _ dX10_count_140
          · replace h := z_t c17q h
            refine z_aload_n hE 0 dX10_count_61 rfl ?_
            refine z_get hE f_RX10_13 (by decide) e_71 rfl dX10_count_62 ?_
            refine z_bipush (v := 24) hE dX10_count_65 rfl ?_
            refine z_iald hE (by decide) e_73 (by decide) dX10_count_67 ?_
            obtain ⟨r24q, hr24q, h⟩ := z_bind_some h
            refine z_iS (rest := []) (av := [.int (z_rd g 2 24)]) hE (c_Mod_bits (z_rd g 2 24) g r24q hr24q) l_RX10_181 (by decide) ⟨by decide, by decide⟩ dX10_count_68 rfl (Nat.le_of_ble_eq_true rfl) ?_
            refine z_goto hE 140 dX10_count_71 rfl ?_
            obtain rfl := Option.some.inj h
            exact hret _ _ dX10_count_140
        · replace h := z_t c16q h
          refine z_aload_n hE 0 dX10_count_46 rfl ?_
          refine z_get hE f_RX10_13 (by decide) e_71 rfl dX10_count_47 ?_
          refine z_bipush (v := 25) hE dX10_count_50 rfl ?_
          refine z_iald hE (by decide) e_73 (by decide) dX10_count_52 ?_
          refine z_goto hE 140 dX10_count_53 rfl ?_
          obtain rfl := Option.some.inj h
          exact hret _ _ dX10_count_140
      · replace h := z_t c15q h
        refine z_aload_n hE 0 dX10_count_31 rfl ?_
        refine z_get hE f_RX10_7 (by decide) e_71 rfl dX10_count_32 ?_
        refine z_bipush (v := 47) hE dX10_count_35 rfl ?_
        refine z_iald hE (by decide) e_72 (by decide) dX10_count_37 ?_
        refine z_goto hE 140 dX10_count_38 rfl ?_
        obtain rfl := Option.some.inj h
        exact hret _ _ dX10_count_140
    · replace h := z_t c14q h
      refine z_aload_n hE 0 dX10_count_19 rfl ?_
      refine z_iV (rest := []) (av := []) hE (c_Mod_men g) l_RX10_56 (by decide) (by decide) e_71 rfl ⟨by decide, by decide⟩ dX10_count_20 rfl (Nat.le_of_ble_eq_true rfl) ?_
      refine z_goto hE 140 dX10_count_23 rfl ?_
      obtain rfl := Option.some.inj h
      exact hret _ _ dX10_count_140
  · replace h := z_t c13q h
    refine z_aload_n hE 0 dX10_count_4 rfl ?_
    refine z_get hE f_RX10_7 (by decide) e_71 rfl dX10_count_5 ?_
    refine z_bipush (v := 8) hE dX10_count_8 rfl ?_
    refine z_iald hE (by decide) e_72 (by decide) dX10_count_10 ?_
    refine z_goto hE 140 dX10_count_11 rfl ?_
    obtain rfl := Option.some.inj h
    exact hret _ _ dX10_count_140
