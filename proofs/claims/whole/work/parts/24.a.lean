/-! ===== the law's cases ===== -/
theorem w_scr {p : Program} {l : Launch} {e : Env} {R : Room} {s : State} {m : MethodId} {args : Array Value} {below : List Frame} {meth : Method} {c : Code} {H H0 : Heap} {locs : List Loc} {cells slots : Nat} {Q : State → Prop} {cc : ByteArray} {pc : Nat} {ls : Array Slot} {rest : List Value} {A : Nat → Prop} {b L : Nat} {xs : Nat → Int32} (hx : p.tables.exec = Jvm.exec) (hb : c.code = cc) (hX : va_X b L xs s H0) (hbl : b < H0.size) (hbA : ¬ A b) (hS : va_S A H0 H locs) (j : Nat) (hj : j < L) (hL : L ≤ 2048) (hdg : decode cc pc = .ok (.iaload, 1)) (kk : W p l e R s m args below meth c H locs cells slots Q (F0 m (pc + 1) ls (.int (xs j) :: rest))) : W p l e R s m args below meth c H locs cells slots Q (F0 m pc ls (.int (nI j) :: .ref b :: rest)) :=
  va_sld hx hb hX hbl hbA hS (vp_in_nI hj (by omega)) hdg (by rw [nI_clamp (by omega)]; exact kk)
def LSt (p : Program) (l : Launch) (s : State) (m : MethodId) (c : Code) (D : va_G) (cI cJ : ClassId) (A : Nat → Prop) (sb L : Nat) (xs : Nat → Int32) : Prop :=
  p.tables.exec = Jvm.exec ∧ c.code = cL_law ∧ c.maxLocals = 9 ∧ s.vm.findClass RL = some m.cls ∧ (∀ w ∈ AW, w.before #[Value.ref sb] s = true) ∧ KF D cI cJ s ∧ KXA A s s.heap ∧ l.stackTraces = false ∧ (∀ q, s.heap.size ≤ q → A q) ∧ va_X sb L xs s s.heap ∧ sb < s.heap.size ∧ ¬ A sb
/-- the join of all cases -/
def LJ (p : Program) (l : Launch) (e : Env) (s : State) (m : MethodId) (below : List Frame) (meth : Method) (c : Code) (D : va_G) (cI cJ : ClassId) (A : Nat → Prop) (sb L : Nat) (xs : Nat → Int32) (xo mo out k : Nat) (Q : State → Prop) : Prop :=
  ∀ (M2 : MP) (u2 : Nat) (H2 : Heap) (locs2 : List Loc) (ls2 : Array Slot), GI cI cJ A sb L xs xo mo out (k + 1) M2 u2 → HM D M2 H2 → va_S A s.heap H2 locs2 → lv_has ls2 9 [(4, .int (nI (4 * k))), (3, .ref out), (2, .ref mo), (1, .ref xo), (0, .ref sb)] → W p l e room_1 s m #[Value.ref sb] below meth c H2 locs2 (20 + 6 * (k + 1)) (8000 + 100 * (k + 1) + u2) Q (F0 m 1885 ls2 [])
theorem GI.u_le {cI cJ : ClassId} {A : Nat → Prop} {b L xo mo out k u : Nat} {xs : Nat → Int32} {M : MP} (h : GI cI cJ A b L xs xo mo out k M u) : u < 300000 := by
  obtain ⟨tr, tk, tp, cn, N, su, pa, po, okk, pt, K, pp, w, bk, wa, ca, qu, ve, ro, no, fi, se, t3, le, od, th, oc, nr, rwv, f, hG, hP, hN, hu⟩ := h
  have := hG.2.1.2.2
  omega
theorem GI.scr {cI cJ : ClassId} {A : Nat → Prop} {b L xo mo out k u : Nat} {xs : Nat → Int32} {M : MP} (h : GI cI cJ A b L xs xo mo out k M u) : ScrP b L xs := by
  obtain ⟨tr, tk, tp, cn, N, su, pa, po, okk, pt, K, pp, w, bk, wa, ca, qu, ve, ro, no, fi, se, t3, le, od, th, oc, nr, rwv, f, hG, hP, hN, hu⟩ := h
  exact hG.2.2.1
theorem okV_RL_84_X3_beginSetup : okV RL 84 yX3_beginSetup cX3_beginSetup 1 none 0 := okV_of qw_1_115 qw_1_116 qw_1_117 qw_1_1 qw_1_118 (by decide +kernel)
theorem okV_RL_87_X4_beginSetup : okV RL 87 yX4_beginSetup cX4_beginSetup 1 none 0 := okV_of qw_4_122 qw_4_123 qw_4_124 qw_1_5 qw_4_125 (by decide +kernel)
theorem okH_place : GoodIn AW (va_wsS RL 88 yL_place (Cond.codeWith yL_place cL_place 6 (some .int) [(0, 12, 15, 13), (0, 12, 19, 15), (0, 12, 23, 17)] :: AW)) ∧ (yL_place.cls ≠ "java/lang/invoke/MethodHandle" ∧ yL_place.cls ≠ "java/lang/invoke/VarHandle" ∧ (parseMethodDescriptor yL_place.desc).map (fun d => d.parameters.length) = some 5) := okH_of qw_2_143 qw_2_144 qw_1_0 qw_2_145 (by decide +kernel)
theorem okV_RL_93_X4_place : okV RL 93 yX4_place cX4_place 6 (some .int) 3 := okV_of qw_4_126 qw_4_127 qw_4_128 qw_1_5 qw_4_129 (by decide +kernel)
theorem okV_RL_94_X4_thrown : okV RL 94 yX4_thrown cX4_thrown 1 (some .int) 0 := okV_of qw_4_118 qw_4_119 qw_4_120 qw_1_5 qw_4_121 (by decide +kernel)
theorem okH_remove : GoodIn AW (va_wsS RL 97 yL_remove (Cond.codeWith yL_remove cL_remove 4 (some .int) [(0, 9, 12, 13), (0, 9, 15, 17)] :: AW)) ∧ (yL_remove.cls ≠ "java/lang/invoke/MethodHandle" ∧ yL_remove.cls ≠ "java/lang/invoke/VarHandle" ∧ (parseMethodDescriptor yL_remove.desc).map (fun d => d.parameters.length) = some 3) := okH_of qw_3_25 qw_3_26 qw_1_0 qw_3_27 (by decide +kernel)
theorem okV_RL_100_X4_remove : okV RL 100 yX4_remove cX4_remove 3 (some .int) 1 := okV_of qw_4_144 qw_4_145 qw_4_146 qw_1_5 qw_4_147 (by decide +kernel)
theorem okH_endSetup : GoodIn AW (va_wsS RL 101 yL_endSetup (Cond.codeWith yL_endSetup cL_endSetup 4 (some .int) [(0, 9, 12, 17)] :: AW)) ∧ (yL_endSetup.cls ≠ "java/lang/invoke/MethodHandle" ∧ yL_endSetup.cls ≠ "java/lang/invoke/VarHandle" ∧ (parseMethodDescriptor yL_endSetup.desc).map (fun d => d.parameters.length) = some 3) := okH_of qw_3_34 qw_3_35 qw_1_0 qw_3_36 (by decide +kernel)
theorem okV_RL_104_X4_endSetup : okV RL 104 yX4_endSetup cX4_endSetup 3 (some .int) 1 := okV_of qw_4_148 qw_4_149 qw_4_150 qw_1_5 qw_4_151 (by decide +kernel)
theorem okV_RL_105_X3_isSetup : okV RL 105 yX3_isSetup cX3_isSetup 1 (some .boolean) 0 := okV_of qw_1_126 qw_1_127 qw_1_128 qw_1_1 qw_1_129 (by decide +kernel)
theorem okV_RL_109_X4_isSetup : okV RL 109 yX4_isSetup cX4_isSetup 1 (some .boolean) 0 := okV_of qw_4_152 qw_4_153 qw_4_154 qw_1_5 qw_4_155 (by decide +kernel)
theorem okV_RL_110_X3_whiteToAct : okV RL 110 yX3_whiteToAct cX3_whiteToAct 1 (some .boolean) 0 := okV_of qw_1_130 qw_1_131 qw_1_132 qw_1_1 qw_1_133 (by decide +kernel)
theorem okV_RL_113_X4_whiteToAct : okV RL 113 yX4_whiteToAct cX4_whiteToAct 1 (some .boolean) 0 := okV_of qw_4_156 qw_4_157 qw_4_158 qw_1_5 qw_4_159 (by decide +kernel)
theorem okH_pieceAt : GoodIn AW (va_wsS RL 114 yL_pieceAt (Cond.codeWith yL_pieceAt cL_pieceAt 4 (some .int) [(0, 9, 12, 13)] :: AW)) ∧ (yL_pieceAt.cls ≠ "java/lang/invoke/MethodHandle" ∧ yL_pieceAt.cls ≠ "java/lang/invoke/VarHandle" ∧ (parseMethodDescriptor yL_pieceAt.desc).map (fun d => d.parameters.length) = some 3) := okH_of qw_3_60 qw_3_61 qw_1_0 qw_3_62 (by decide +kernel)
theorem okV_RL_116_X4_pieceAt : okV RL 116 yX4_pieceAt cX4_pieceAt 2 (some .int) 1 := okV_of qw_4_160 qw_4_161 qw_4_162 qw_1_5 qw_4_163 (by decide +kernel)
theorem okH_isWhite : GoodIn AW (va_wsS RL 117 yL_isWhite (Cond.codeWith yL_isWhite cL_isWhite 4 (some .int) [(0, 16, 19, 13), (0, 16, 22, 34)] :: AW)) ∧ (yL_isWhite.cls ≠ "java/lang/invoke/MethodHandle" ∧ yL_isWhite.cls ≠ "java/lang/invoke/VarHandle" ∧ (parseMethodDescriptor yL_isWhite.desc).map (fun d => d.parameters.length) = some 3) := okH_of qw_3_67 qw_3_68 qw_1_0 qw_3_69 (by decide +kernel)
theorem okV_RL_119_X4_isWhite : okV RL 119 yX4_isWhite cX4_isWhite 2 (some .boolean) 1 := okV_of qw_4_164 qw_4_165 qw_4_166 qw_1_5 qw_4_167 (by decide +kernel)
theorem okV_RL_120_X3_piecesOf : okV RL 120 yX3_piecesOf cX3_piecesOf 2 (some .long) 1 := okV_of qw_1_134 qw_1_135 qw_1_136 qw_1_1 qw_1_137 (by decide +kernel)
theorem okV_RL_124_X4_piecesOf : okV RL 124 yX4_piecesOf cX4_piecesOf 5 (some .long) 1 := okV_of qw_4_168 qw_4_169 qw_4_170 qw_1_5 qw_4_171 (by decide +kernel)
theorem okV_RL_125_X3_kingSquare : okV RL 125 yX3_kingSquare cX3_kingSquare 2 (some .int) 1 := okV_of qw_1_142 qw_1_143 qw_1_144 qw_1_1 qw_1_145 (by decide +kernel)
theorem okV_RL_128_X4_kingSquare : okV RL 128 yX4_kingSquare cX4_kingSquare 2 (some .int) 1 := okV_of qw_4_172 qw_4_173 qw_4_174 qw_1_5 qw_4_175 (by decide +kernel)
theorem okH_bondOf : GoodIn AW (va_wsS RL 129 yL_bondOf (Cond.codeWith yL_bondOf cL_bondOf 4 (some .int) [(0, 9, 12, 13)] :: AW)) ∧ (yL_bondOf.cls ≠ "java/lang/invoke/MethodHandle" ∧ yL_bondOf.cls ≠ "java/lang/invoke/VarHandle" ∧ (parseMethodDescriptor yL_bondOf.desc).map (fun d => d.parameters.length) = some 3) := okH_of qw_3_91 qw_3_92 qw_1_0 qw_3_93 (by decide +kernel)
theorem okV_RL_131_X4_bondOf : okV RL 131 yX4_bondOf cX4_bondOf 2 (some .int) 1 := okV_of qw_4_176 qw_4_177 qw_4_178 qw_1_5 qw_4_179 (by decide +kernel)
theorem okV_RL_132_X3_bondCount : okV RL 132 yX3_bondCount cX3_bondCount 2 (some .int) 1 := okV_of qw_1_160 qw_1_161 qw_1_162 qw_1_1 qw_1_163 (by decide +kernel)
theorem okV_RL_135_X4_bondCount : okV RL 135 yX4_bondCount cX4_bondCount 4 (some .int) 1 := okV_of qw_4_180 qw_4_181 qw_4_182 qw_1_5 qw_4_183 (by decide +kernel)
theorem okV_RL_136_X3_longestBond : okV RL 136 yX3_longestBond cX3_longestBond 7 (some .int) 1 := okV_of qw_1_168 qw_1_169 qw_1_170 qw_1_1 qw_1_171 (by decide +kernel)
theorem okV_RL_139_X4_longestBond : okV RL 139 yX4_longestBond cX4_longestBond 4 (some .int) 1 := okV_of qw_4_184 qw_4_185 qw_4_186 qw_1_5 qw_4_187 (by decide +kernel)
theorem okH_knightDistance : GoodIn AW (va_wsS RL 140 yL_knightDistance (Cond.codeWith yL_knightDistance cL_knightDistance 5 (some .int) [(0, 10, 13, 13)] :: AW)) ∧ (yL_knightDistance.cls ≠ "java/lang/invoke/MethodHandle" ∧ yL_knightDistance.cls ≠ "java/lang/invoke/VarHandle" ∧ (parseMethodDescriptor yL_knightDistance.desc).map (fun d => d.parameters.length) = some 4) := okH_of qw_3_98 qw_3_99 qw_1_0 qw_3_100 (by decide +kernel)
theorem okV_RL_143_X4_knightDistance : okV RL 143 yX4_knightDistance cX4_knightDistance 3 (some .int) 2 := okV_of qw_4_189 qw_4_190 qw_4_191 qw_1_5 qw_4_192 (by decide +kernel)
theorem okH_attackers : GoodIn AW (va_wsS RL 144 yL_attackers (Cond.codeWith yL_attackers cL_attackers 5 (some .int) [(0, 9, 12, 13)] :: AW)) ∧ (yL_attackers.cls ≠ "java/lang/invoke/MethodHandle" ∧ yL_attackers.cls ≠ "java/lang/invoke/VarHandle" ∧ (parseMethodDescriptor yL_attackers.desc).map (fun d => d.parameters.length) = some 4) := okH_of qw_3_105 qw_3_106 qw_1_0 qw_3_107 (by decide +kernel)
theorem okV_RL_147_X4_attackers : okV RL 147 yX4_attackers cX4_attackers 6 (some .long) 2 := okV_of qw_4_193 qw_4_194 qw_4_195 qw_1_5 qw_4_196 (by decide +kernel)
theorem okV_RL_148_X3_attackedSquares : okV RL 148 yX3_attackedSquares cX3_attackedSquares 2 (some .long) 1 := okV_of qw_1_194 qw_1_195 qw_1_196 qw_1_1 qw_1_197 (by decide +kernel)
theorem okV_RL_151_X4_attackedSquares : okV RL 151 yX4_attackedSquares cX4_attackedSquares 2 (some .long) 1 := okV_of qw_4_197 qw_4_198 qw_4_199 qw_1_5 qw_4_200 (by decide +kernel)
theorem okV_RL_152_X3_isInCheck : okV RL 152 yX3_isInCheck cX3_isInCheck 2 (some .boolean) 1 := okV_of qw_1_222 qw_1_223 qw_1_224 qw_1_1 qw_1_225 (by decide +kernel)
theorem okV_RL_156_X4_isInCheck : okV RL 156 yX4_isInCheck cX4_isInCheck 2 (some .boolean) 1 := okV_of qw_4_205 qw_4_206 qw_4_207 qw_1_5 qw_4_208 (by decide +kernel)
theorem okH_legalMoves : GoodIn AW (va_wsS RL 157 yL_legalMoves (Cond.codeWith yL_legalMoves cL_legalMoves 4 (some .int) [(0, 8, 11, 13)] :: AW)) ∧ (yL_legalMoves.cls ≠ "java/lang/invoke/MethodHandle" ∧ yL_legalMoves.cls ≠ "java/lang/invoke/VarHandle" ∧ (parseMethodDescriptor yL_legalMoves.desc).map (fun d => d.parameters.length) = some 3) := okH_of qw_3_114 qw_3_115 qw_1_0 qw_3_116 (by decide +kernel)
theorem okV_RL_159_X4_legalMoves : okV RL 159 yX4_legalMoves cX4_legalMoves 5 (some .long) 1 := okV_of qw_4_209 qw_4_210 qw_4_211 qw_1_5 qw_4_212 (by decide +kernel)
theorem okV_RL_160_X3_legalMoveCount : okV RL 160 yX3_legalMoveCount cX3_legalMoveCount 1 (some .int) 0 := okV_of qw_2_0 qw_2_1 qw_2_2 qw_1_1 qw_2_3 (by decide +kernel)
theorem okV_RL_163_X4_legalMoveCount : okV RL 163 yX4_legalMoveCount cX4_legalMoveCount 1 (some .int) 0 := okV_of qw_4_217 qw_4_218 qw_4_219 qw_1_5 qw_4_220 (by decide +kernel)
theorem okH_moveRefusal : GoodIn AW (va_wsS RL 164 yL_moveRefusal (Cond.codeWith yL_moveRefusal cL_moveRefusal 5 (some .int) [(0, 10, 13, 13)] :: AW)) ∧ (yL_moveRefusal.cls ≠ "java/lang/invoke/MethodHandle" ∧ yL_moveRefusal.cls ≠ "java/lang/invoke/VarHandle" ∧ (parseMethodDescriptor yL_moveRefusal.desc).map (fun d => d.parameters.length) = some 4) := okH_of qw_3_121 qw_3_122 qw_1_0 qw_3_123 (by decide +kernel)
theorem okV_RL_166_X4_moveRefusal : okV RL 166 yX4_moveRefusal cX4_moveRefusal 3 (some .int) 2 := okV_of qw_4_225 qw_4_226 qw_4_227 qw_1_5 qw_4_228 (by decide +kernel)
theorem okH_bondRefusal : GoodIn AW (va_wsS RL 167 yL_bondRefusal (Cond.codeWith yL_bondRefusal cL_bondRefusal 5 (some .int) [(0, 10, 13, 13)] :: AW)) ∧ (yL_bondRefusal.cls ≠ "java/lang/invoke/MethodHandle" ∧ yL_bondRefusal.cls ≠ "java/lang/invoke/VarHandle" ∧ (parseMethodDescriptor yL_bondRefusal.desc).map (fun d => d.parameters.length) = some 4) := okH_of qw_3_131 qw_3_132 qw_1_0 qw_3_133 (by decide +kernel)
theorem okV_RL_169_X4_bondRefusal : okV RL 169 yX4_bondRefusal cX4_bondRefusal 3 (some .int) 2 := okV_of qw_4_233 qw_4_234 qw_4_235 qw_1_5 qw_4_236 (by decide +kernel)
theorem okH_dissolveRefusal : GoodIn AW (va_wsS RL 170 yL_dissolveRefusal (Cond.codeWith yL_dissolveRefusal cL_dissolveRefusal 4 (some .int) [(0, 9, 12, 13)] :: AW)) ∧ (yL_dissolveRefusal.cls ≠ "java/lang/invoke/MethodHandle" ∧ yL_dissolveRefusal.cls ≠ "java/lang/invoke/VarHandle" ∧ (parseMethodDescriptor yL_dissolveRefusal.desc).map (fun d => d.parameters.length) = some 3) := okH_of qw_3_138 qw_3_139 qw_1_0 qw_3_140 (by decide +kernel)
theorem okV_RL_172_X4_dissolveRefusal : okV RL 172 yX4_dissolveRefusal cX4_dissolveRefusal 2 (some .int) 1 := okV_of qw_4_237 qw_4_238 qw_4_239 qw_1_5 qw_5_0 (by decide +kernel)
theorem okV_RL_173_X3_matingMove : okV RL 173 yX3_matingMove cX3_matingMove 8 (some .int) 0 := okV_of qw_2_48 qw_2_49 qw_2_50 qw_1_1 qw_2_51 (by decide +kernel)
theorem okV_RL_176_X4_matingMove : okV RL 176 yX4_matingMove cX4_matingMove 2 (some .int) 0 := okV_of qw_5_1 qw_5_2 qw_5_3 qw_1_5 qw_5_4 (by decide +kernel)
theorem okH_countSequences : GoodIn AW (va_wsS RL 177 yL_countSequences (Cond.codeWith yL_countSequences cL_countSequences 4 (some .int) [(0, 9, 12, 15)] :: AW)) ∧ (yL_countSequences.cls ≠ "java/lang/invoke/MethodHandle" ∧ yL_countSequences.cls ≠ "java/lang/invoke/VarHandle" ∧ (parseMethodDescriptor yL_countSequences.desc).map (fun d => d.parameters.length) = some 3) := okH_of qw_3_145 qw_3_146 qw_1_0 qw_3_147 (by decide +kernel)
theorem okV_RL_179_X4_countSequences : okV RL 179 yX4_countSequences cX4_countSequences 4 (some .int) 1 := okV_of qw_5_5 qw_5_6 qw_5_7 qw_1_5 qw_5_8 (by decide +kernel)
theorem okH_move : GoodIn AW (va_wsS RL 180 yL_move (Cond.codeWith yL_move cL_move 5 (some .int) [(0, 10, 13, 13), (0, 10, 17, 17)] :: AW)) ∧ (yL_move.cls ≠ "java/lang/invoke/MethodHandle" ∧ yL_move.cls ≠ "java/lang/invoke/VarHandle" ∧ (parseMethodDescriptor yL_move.desc).map (fun d => d.parameters.length) = some 4) := okH_of qw_3_157 qw_3_158 qw_1_0 qw_3_159 (by decide +kernel)
theorem okV_RL_182_X4_move : okV RL 182 yX4_move cX4_move 4 (some .int) 2 := okV_of qw_5_9 qw_5_10 qw_5_11 qw_1_5 qw_5_12 (by decide +kernel)
theorem okH_bond : GoodIn AW (va_wsS RL 183 yL_bond (Cond.codeWith yL_bond cL_bond 5 (some .int) [(0, 10, 13, 13), (0, 10, 17, 17)] :: AW)) ∧ (yL_bond.cls ≠ "java/lang/invoke/MethodHandle" ∧ yL_bond.cls ≠ "java/lang/invoke/VarHandle" ∧ (parseMethodDescriptor yL_bond.desc).map (fun d => d.parameters.length) = some 4) := okH_of qw_3_174 qw_3_175 qw_1_0 qw_3_176 (by decide +kernel)
theorem okV_RL_185_X4_bond : okV RL 185 yX4_bond cX4_bond 3 (some .int) 2 := okV_of qw_5_13 qw_5_14 qw_5_15 qw_1_5 qw_5_16 (by decide +kernel)
theorem okH_dissolve : GoodIn AW (va_wsS RL 186 yL_dissolve (Cond.codeWith yL_dissolve cL_dissolve 4 (some .int) [(0, 9, 12, 13), (0, 9, 15, 17)] :: AW)) ∧ (yL_dissolve.cls ≠ "java/lang/invoke/MethodHandle" ∧ yL_dissolve.cls ≠ "java/lang/invoke/VarHandle" ∧ (parseMethodDescriptor yL_dissolve.desc).map (fun d => d.parameters.length) = some 3) := okH_of qw_3_183 qw_3_184 qw_1_0 qw_3_185 (by decide +kernel)
theorem okV_RL_188_X4_dissolve : okV RL 188 yX4_dissolve cX4_dissolve 3 (some .int) 1 := okV_of qw_5_21 qw_5_22 qw_5_23 qw_1_5 qw_5_24 (by decide +kernel)
theorem okH_takeBack : GoodIn AW (va_wsS RL 189 yL_takeBack (Cond.codeWith yL_takeBack cL_takeBack 3 (some .int) [(0, 8, 11, 17)] :: AW)) ∧ (yL_takeBack.cls ≠ "java/lang/invoke/MethodHandle" ∧ yL_takeBack.cls ≠ "java/lang/invoke/VarHandle" ∧ (parseMethodDescriptor yL_takeBack.desc).map (fun d => d.parameters.length) = some 2) := okH_of qw_3_193 qw_3_194 qw_1_0 qw_3_195 (by decide +kernel)
theorem okV_RL_192_X4_takeBack : okV RL 192 yX4_takeBack cX4_takeBack 1 (some .int) 0 := okV_of qw_5_25 qw_5_26 qw_5_27 qw_1_5 qw_5_28 (by decide +kernel)
theorem okV_RL_193_X3_actionCount : okV RL 193 yX3_actionCount cX3_actionCount 1 (some .int) 0 := okV_of qw_2_92 qw_2_93 qw_2_94 qw_1_1 qw_2_95 (by decide +kernel)
theorem okV_RL_196_X4_actionCount : okV RL 196 yX4_actionCount cX4_actionCount 1 (some .int) 0 := okV_of qw_5_29 qw_5_30 qw_5_31 qw_1_5 qw_5_32 (by decide +kernel)
theorem okV_RL_197_X3_outcome : okV RL 197 yX3_outcome cX3_outcome 1 (some .int) 0 := okV_of qw_2_96 qw_2_97 qw_2_98 qw_1_1 qw_2_99 (by decide +kernel)
theorem okV_RL_200_X4_outcome : okV RL 200 yX4_outcome cX4_outcome 1 (some .int) 0 := okV_of qw_5_33 qw_5_34 qw_5_35 qw_1_5 qw_5_36 (by decide +kernel)
theorem okV_RL_201_X3_occurrences : okV RL 201 yX3_occurrences cX3_occurrences 1 (some .int) 0 := okV_of qw_2_100 qw_2_101 qw_2_102 qw_1_1 qw_2_103 (by decide +kernel)
theorem okV_RL_204_X4_occurrences : okV RL 204 yX4_occurrences cX4_occurrences 1 (some .int) 0 := okV_of qw_5_37 qw_5_38 qw_5_39 qw_1_5 qw_5_40 (by decide +kernel)
theorem okV_RL_205_X3_quietActions : okV RL 205 yX3_quietActions cX3_quietActions 1 (some .int) 0 := okV_of qw_2_112 qw_2_113 qw_2_114 qw_1_1 qw_2_115 (by decide +kernel)
theorem okV_RL_208_X4_quietActions : okV RL 208 yX4_quietActions cX4_quietActions 1 (some .int) 0 := okV_of qw_5_41 qw_5_42 qw_5_43 qw_1_5 qw_5_44 (by decide +kernel)
theorem okH_capturedCount : GoodIn AW (va_wsS RL 209 yL_capturedCount (Cond.codeWith yL_capturedCount cL_capturedCount 5 (some .int) [(0, 10, 13, 15)] :: AW)) ∧ (yL_capturedCount.cls ≠ "java/lang/invoke/MethodHandle" ∧ yL_capturedCount.cls ≠ "java/lang/invoke/VarHandle" ∧ (parseMethodDescriptor yL_capturedCount.desc).map (fun d => d.parameters.length) = some 4) := okH_of qw_3_201 qw_3_202 qw_1_0 qw_3_203 (by decide +kernel)
theorem okV_RL_211_X4_capturedCount : okV RL 211 yX4_capturedCount cX4_capturedCount 3 (some .int) 2 := okV_of qw_5_45 qw_5_46 qw_5_47 qw_1_5 qw_5_48 (by decide +kernel)
theorem okV_RL_212_X3_strengthOf : okV RL 212 yX3_strengthOf cX3_strengthOf 7 (some .float) 1 := okV_of qw_2_116 qw_2_117 qw_2_118 qw_1_1 qw_2_119 (by decide +kernel)
theorem okV_RL_216_X4_strengthOf : okV RL 216 yX4_strengthOf cX4_strengthOf 2 (some .float) 1 := okV_of qw_5_49 qw_5_50 qw_5_51 qw_1_5 qw_5_52 (by decide +kernel)
theorem okV_RL_217_X3_strengthBits : okV RL 217 yX3_strengthBits cX3_strengthBits 2 (some .int) 1 := okV_of qw_2_130 qw_2_131 qw_2_132 qw_1_1 qw_2_133 (by decide +kernel)
theorem okV_RL_220_X4_strengthBits : okV RL 220 yX4_strengthBits cX4_strengthBits 2 (some .int) 1 := okV_of qw_5_68 qw_5_69 qw_5_70 qw_1_5 qw_5_71 (by decide +kernel)
theorem okV_RL_221_X3_balance : okV RL 221 yX3_balance cX3_balance 1 (some .double) 0 := okV_of qw_2_139 qw_2_140 qw_2_141 qw_1_1 qw_2_142 (by decide +kernel)
theorem okV_RL_225_X4_balance : okV RL 225 yX4_balance cX4_balance 1 (some .double) 0 := okV_of qw_5_82 qw_5_83 qw_5_84 qw_1_5 qw_5_85 (by decide +kernel)
set_option maxHeartbeats 4000000 in
set_option maxRecDepth 100000 in
theorem law_0 {p : Program} {l : Launch} {e : Env} {s : State} {m : MethodId} {below : List Frame} {meth : Method} {c : Code} {H : Heap} {locs : List Loc} {Q : State → Prop} {ls : Array Slot} {D : va_G} {cI cJ : ClassId} {M : MP} {A : Nat → Prop} {sb L xo mo out : Nat} {xs : Nat → Int32} (S : LSt p l s m c D cI cJ A sb L xs) {k u : Nat} (hk : k < 512) (hL : 4 * k + 4 ≤ L) (hL2 : L ≤ 2048) (hG : GI cI cJ A sb L xs xo mo out k M u) (hM : HM D M H) (hS : va_S A s.heap H locs) (hl : lv_has ls 9 [(4, .int (nI (4 * k))), (3, .ref out), (2, .ref mo), (1, .ref xo), (0, .ref sb)]) (J : LJ p l e s m below meth c D cI cJ A sb L xs xo mo out k Q) : W p l e room_1 s m #[Value.ref sb] below meth c H locs (20 + 6 * k) (8000 + 100 * k + u) Q (F0 m 196 ls []) := by
  obtain ⟨hx, hb, hml, hown, hts, hK, hX, hl9, hAs, hXs, hbl, hbA⟩ := S
  have hu9 := hG.u_le
  have hbs := hG.scr
  refine lv_aload_n hx hb dL_law_196 rfl (lv_at hl 3 rfl) ?_
  obtain ⟨d1, Rm, hd1, ⟨fs0, hxo⟩, hW1, hM1⟩ := sem_beginSetup l (D := D) k M u H.size hk (fun q hq => hAs q (Nat.le_trans hS.1 hq)) hG
  refine wr_go (wr_runV (As := []) (rest := []) hx hb hml hown hts hK hM okV_RL_84_X3_beginSetup hW1 hxo rfl rfl rfl ⟨by show d1 + 1 ≤ 13; omega, by show 8 + (1 + 11) + 40 * d1 ≤ 500; omega⟩ hl.1 rfl (Nat.le_of_ble_eq_true rfl) dL_law_197 ⟨by show 20 + 6 * k + 0 ≤ 601024; omega, by show 8000 + 100 * k + u + 0 ≤ 7293034; omega⟩) hS (fun M1 H1 locs1 hR1 hHs1 hM hS => ?_)
  obtain ⟨⟨fs1, hmo1⟩, hbs1, hN1⟩ := hM1 M1 hR1
  refine lv_aload_n hx hb dL_law_200 rfl (lv_at hl 2 rfl) ?_
  obtain ⟨d2, Rm2, hd2, hW2, hM2⟩ := hN1 H1.size
  refine wr_go (wr_runV (As := []) (rest := []) hx hb hml hown hts hK hM okV_RL_87_X4_beginSetup hW2 hmo1 rfl rfl rfl ⟨by show d2 + 1 ≤ 13; omega, by show 8 + (1 + 11) + 40 * d2 ≤ 500; omega⟩ hl.1 rfl (Nat.le_of_ble_eq_true rfl) dL_law_201 ⟨by show 20 + 6 * k + 0 + 0 ≤ 601024; omega, by show 8000 + 100 * k + u + 0 + 0 ≤ 7293034; omega⟩) hS (fun M2 H2 locs2 hR2 hHs2 hM hS => ?_)
  have hG2 := hM2 M2 hR2
  refine lv_goto (tgt := 1885) hx hb dL_law_204 (by decide) ?_
  exact W.widen (by omega) (by omega) (J M2 (u) _ _ ls hG2 hM hS (lv_sub hl [0, 1, 2, 3, 4] rfl))
set_option maxHeartbeats 4000000 in
set_option maxRecDepth 100000 in
theorem law_1 {p : Program} {l : Launch} {e : Env} {s : State} {m : MethodId} {below : List Frame} {meth : Method} {c : Code} {H : Heap} {locs : List Loc} {Q : State → Prop} {ls : Array Slot} {D : va_G} {cI cJ : ClassId} {M : MP} {A : Nat → Prop} {sb L xo mo out : Nat} {xs : Nat → Int32} (S : LSt p l s m c D cI cJ A sb L xs) {k u : Nat} (hk : k < 512) (hL : 4 * k + 4 ≤ L) (hL2 : L ≤ 2048) (hG : GI cI cJ A sb L xs xo mo out k M u) (hM : HM D M H) (hS : va_S A s.heap H locs) (hl : lv_has ls 9 [(4, .int (nI (4 * k))), (3, .ref out), (2, .ref mo), (1, .ref xo), (0, .ref sb)]) (J : LJ p l e s m below meth c D cI cJ A sb L xs xo mo out k Q) : W p l e room_1 s m #[Value.ref sb] below meth c H locs (20 + 6 * k) (8000 + 100 * k + u) Q (F0 m 207 ls []) := by
  obtain ⟨hx, hb, hml, hown, hts, hK, hX, hl9, hAs, hXs, hbl, hbA⟩ := S
  have hu9 := hG.u_le
  have hbs := hG.scr
  by_cases hz3 : xs (4 * k + 3) = 0
  · refine lv_aload_n hx hb dL_law_207 rfl (lv_at hl 3 rfl) ?_
    refine lv_aload_n hx hb dL_law_208 rfl (lv_at hl 4 rfl) ?_
    refine lv_iload hx hb dL_law_209 (lv_at hl 0 rfl) ?_
    refine lv_iconst (v := nI 1) hx hb dL_law_211 (by decide) ?_
    refine lv_iadd hx hb dL_law_212 ?_
    rw [nI_add]
    refine w_scr hx hb hXs hbl hbA hS (4 * k + 1) (by omega) hL2 dL_law_213 ?_
    refine lv_aload_n hx hb dL_law_214 rfl (lv_at hl 4 rfl) ?_
    refine lv_iload hx hb dL_law_215 (lv_at hl 0 rfl) ?_
    refine lv_iconst (v := nI 2) hx hb dL_law_217 (by decide) ?_
    refine lv_iadd hx hb dL_law_218 ?_
    rw [nI_add]
    refine w_scr hx hb hXs hbl hbA hS (4 * k + 2) (by omega) hL2 dL_law_219 ?_
    refine lv_aload_n hx hb dL_law_220 rfl (lv_at hl 4 rfl) ?_
    refine lv_iload hx hb dL_law_221 (lv_at hl 0 rfl) ?_
    refine lv_iconst (v := nI 3) hx hb dL_law_223 (by decide) ?_
    refine lv_iadd hx hb dL_law_224 ?_
    rw [nI_add]
    refine w_scr hx hb hXs hbl hbA hS (4 * k + 3) (by omega) hL2 dL_law_225 ?_
    refine lv_if_eq (tgt := 233) hx hb dL_law_226 (by decide) (fun _ => ?_) (fun h => absurd hz3 h)
    refine lv_iconst (v := nI 0) hx hb dL_law_233 (by decide) ?_
    refine lv_aload_n hx hb dL_law_234 rfl (lv_at hl 1 rfl) ?_
    obtain ⟨d1, mc1, ms1, kk, Rm, hd1, hmc1, hms1, hkk3, hW1, hM1⟩ := semh_place l hl9 (D := D) (xs (4 * k + 1)) (xs (4 * k + 2)) false k M u H.size hk (fun q hq => hAs q (Nat.le_trans hS.1 hq)) hG
    refine hc_go (hc_runS (As := [.ref xo, .int (xs (4 * k + 1)), .int (xs (4 * k + 2)), .int (bI false), .ref out]) (rest := []) hx hb hml hown hts hK hX hM hS okH_place hW1 rfl ⟨by show d1 + 1 ≤ 13; omega, by show 8 + (6 + 11) + 40 * d1 ≤ 500; omega⟩ hl.1 rfl (Nat.le_of_ble_eq_true rfl) dL_law_235 ⟨by show 20 + 6 * k + mc1 ≤ 601024; omega, by show 8000 + 100 * k + u + ms1 ≤ 7293034; omega⟩) hS (fun M1 H1 locs1 hR1 hHs1 hM hS => ?_)
    obtain ⟨⟨fs1, hmo1⟩, hbs1, hN1⟩ := hM1 M1 hR1
    refine lv_istore (lv' := [(5, .int (nI kk)), (4, .int (nI (4 * k))), (3, .ref out), (2, .ref mo), (1, .ref xo), (0, .ref sb)]) hx hb dL_law_238 hl (by decide) rfl (fun ls hl => ?_)
    refine lv_aload_n hx hb dL_law_240 rfl (lv_at hl 3 rfl) ?_
    refine lv_aload_n hx hb dL_law_241 rfl (lv_at hl 5 rfl) ?_
    refine lv_iload hx hb dL_law_242 (lv_at hl 1 rfl) ?_
    refine lv_iconst (v := nI 1) hx hb dL_law_244 (by decide) ?_
    refine lv_iadd hx hb dL_law_245 ?_
    rw [nI_add]
    refine w_scr hx hb hXs hbl hbA hS (4 * k + 1) (by omega) hL2 dL_law_246 ?_
    refine lv_aload_n hx hb dL_law_247 rfl (lv_at hl 5 rfl) ?_
    refine lv_iload hx hb dL_law_248 (lv_at hl 1 rfl) ?_
    refine lv_iconst (v := nI 2) hx hb dL_law_250 (by decide) ?_
    refine lv_iadd hx hb dL_law_251 ?_
    rw [nI_add]
    refine w_scr hx hb hXs hbl hbA hS (4 * k + 2) (by omega) hL2 dL_law_252 ?_
    refine lv_aload_n hx hb dL_law_253 rfl (lv_at hl 5 rfl) ?_
    refine lv_iload hx hb dL_law_254 (lv_at hl 1 rfl) ?_
    refine lv_iconst (v := nI 3) hx hb dL_law_256 (by decide) ?_
    refine lv_iadd hx hb dL_law_257 ?_
    rw [nI_add]
    refine w_scr hx hb hXs hbl hbA hS (4 * k + 3) (by omega) hL2 dL_law_258 ?_
    refine lv_if_eq (tgt := 266) hx hb dL_law_259 (by decide) (fun _ => ?_) (fun h => absurd hz3 h)
    refine lv_iconst (v := nI 0) hx hb dL_law_266 (by decide) ?_
    obtain ⟨d2, mc2, ms2, r, Rm2, hd2, hmc2, hms2, hW2, hM2⟩ := hN1 H1.size (fun q hq => hAs q (Nat.le_trans hS.1 hq))
    refine wr_go (wr_runV (As := [.int (xs (4 * k + 1)), .int (xs (4 * k + 2)), .int (bI false)]) (rest := []) hx hb hml hown hts hK hM okV_RL_93_X4_place hW2 hmo1 rfl rfl rfl ⟨by show d2 + 1 ≤ 13; omega, by show 8 + (6 + 11) + 40 * d2 ≤ 500; omega⟩ hl.1 rfl (Nat.le_of_ble_eq_true rfl) dL_law_267 ⟨by show 20 + 6 * k + mc1 + mc2 ≤ 601024; omega, by show 8000 + 100 * k + u + ms1 + ms2 ≤ 7293034; omega⟩) hS (fun M2 H2 locs2 hR2 hHs2 hM hS => ?_)
    obtain ⟨hG2, ⟨fs2, hmo2⟩, hth, hbs2, ob, hout2, hob⟩ := hM2 M2 hR2
    refine lv_istore (lv' := [(6, .int r), (5, .int (nI kk)), (4, .int (nI (4 * k))), (3, .ref out), (2, .ref mo), (1, .ref xo), (0, .ref sb)]) hx hb dL_law_270 hl (by decide) rfl (fun ls hl => ?_)
    refine lv_aload_n hx hb dL_law_272 rfl (lv_at hl 4 rfl) ?_
    refine rd_goI (rd_runV (As := []) (rest := []) hx hb hml hown hts hK hM okV_RL_94_X4_thrown hth hmo2 rfl rfl rfl ⟨Nat.le_of_ble_eq_true rfl, Nat.le_of_ble_eq_true rfl⟩ hl.1 rfl (Nat.le_of_ble_eq_true rfl) dL_law_273 ⟨by show 20 + 6 * k + mc1 + mc2 ≤ 601024; omega, by show 8000 + 100 * k + u + ms1 + ms2 ≤ 7293034; omega⟩) ?_
    refine lv_iload hx hb dL_law_276 (lv_at hl 1 rfl) ?_
    refine lv_icmp_eq (tgt := 283) hx hb dL_law_278 (by decide) (fun _ => ?_) (fun h => absurd rfl h)
    refine lv_iload hx hb dL_law_283 (lv_at hl 1 rfl) ?_
    refine lv_if_ne (tgt := 300) hx hb dL_law_285 (by decide) (fun hk0 => ?_) (fun hk0 => ?_)
    · refine lv_goto (tgt := 1885) hx hb dL_law_300 (by decide) ?_
      exact W.widen (by omega) (by omega) (J M2 (u + ms2) _ _ ls hG2 hM hS (lv_sub hl [2, 3, 4, 5, 6] rfl))
    · have hkk : kk = 0 := (nI_eq (by omega) (by decide)).mp (show nI kk = nI 0 from hk0)
      refine lv_aload_n hx hb dL_law_288 rfl (lv_at hl 3 rfl) ?_
      refine lv_iconst (v := nI 0) hx hb dL_law_289 (by decide) ?_
      refine w_lald hx hb hK hM hout2 0 (by decide) (by decide) dL_law_290 ?_
      refine lv_iload hx hb dL_law_291 (lv_at hl 0 rfl) ?_
      refine w_i2l hx hb dL_law_293 ?_
      refine lb_ceq (tgt := 300) (a := (ob 0)) (b := r.toInt64.toBitVec) hx hb dL_law_294 dL_law_295 (by decide) (fun _ => ?_) (fun h => absurd (hob hkk) h)
      refine lv_goto (tgt := 1885) hx hb dL_law_300 (by decide) ?_
      exact W.widen (by omega) (by omega) (J M2 (u + ms2) _ _ ls hG2 hM hS (lv_sub hl [2, 3, 4, 5, 6] rfl))
  · refine lv_aload_n hx hb dL_law_207 rfl (lv_at hl 3 rfl) ?_
    refine lv_aload_n hx hb dL_law_208 rfl (lv_at hl 4 rfl) ?_
    refine lv_iload hx hb dL_law_209 (lv_at hl 0 rfl) ?_
    refine lv_iconst (v := nI 1) hx hb dL_law_211 (by decide) ?_
    refine lv_iadd hx hb dL_law_212 ?_
    rw [nI_add]
    refine w_scr hx hb hXs hbl hbA hS (4 * k + 1) (by omega) hL2 dL_law_213 ?_
    refine lv_aload_n hx hb dL_law_214 rfl (lv_at hl 4 rfl) ?_
    refine lv_iload hx hb dL_law_215 (lv_at hl 0 rfl) ?_
    refine lv_iconst (v := nI 2) hx hb dL_law_217 (by decide) ?_
    refine lv_iadd hx hb dL_law_218 ?_
    rw [nI_add]
    refine w_scr hx hb hXs hbl hbA hS (4 * k + 2) (by omega) hL2 dL_law_219 ?_
    refine lv_aload_n hx hb dL_law_220 rfl (lv_at hl 4 rfl) ?_
    refine lv_iload hx hb dL_law_221 (lv_at hl 0 rfl) ?_
    refine lv_iconst (v := nI 3) hx hb dL_law_223 (by decide) ?_
    refine lv_iadd hx hb dL_law_224 ?_
    rw [nI_add]
    refine w_scr hx hb hXs hbl hbA hS (4 * k + 3) (by omega) hL2 dL_law_225 ?_
    refine lv_if_eq (tgt := 233) hx hb dL_law_226 (by decide) (fun h => absurd h hz3) (fun _ => ?_)
    refine lv_iconst (v := nI 1) hx hb dL_law_229 (by decide) ?_
    refine lv_goto (tgt := 234) hx hb dL_law_230 (by decide) ?_
    refine lv_aload_n hx hb dL_law_234 rfl (lv_at hl 1 rfl) ?_
    obtain ⟨d1, mc1, ms1, kk, Rm, hd1, hmc1, hms1, hkk3, hW1, hM1⟩ := semh_place l hl9 (D := D) (xs (4 * k + 1)) (xs (4 * k + 2)) true k M u H.size hk (fun q hq => hAs q (Nat.le_trans hS.1 hq)) hG
    refine hc_go (hc_runS (As := [.ref xo, .int (xs (4 * k + 1)), .int (xs (4 * k + 2)), .int (bI true), .ref out]) (rest := []) hx hb hml hown hts hK hX hM hS okH_place hW1 rfl ⟨by show d1 + 1 ≤ 13; omega, by show 8 + (6 + 11) + 40 * d1 ≤ 500; omega⟩ hl.1 rfl (Nat.le_of_ble_eq_true rfl) dL_law_235 ⟨by show 20 + 6 * k + mc1 ≤ 601024; omega, by show 8000 + 100 * k + u + ms1 ≤ 7293034; omega⟩) hS (fun M1 H1 locs1 hR1 hHs1 hM hS => ?_)
    obtain ⟨⟨fs1, hmo1⟩, hbs1, hN1⟩ := hM1 M1 hR1
    refine lv_istore (lv' := [(5, .int (nI kk)), (4, .int (nI (4 * k))), (3, .ref out), (2, .ref mo), (1, .ref xo), (0, .ref sb)]) hx hb dL_law_238 hl (by decide) rfl (fun ls hl => ?_)
    refine lv_aload_n hx hb dL_law_240 rfl (lv_at hl 3 rfl) ?_
    refine lv_aload_n hx hb dL_law_241 rfl (lv_at hl 5 rfl) ?_
    refine lv_iload hx hb dL_law_242 (lv_at hl 1 rfl) ?_
    refine lv_iconst (v := nI 1) hx hb dL_law_244 (by decide) ?_
    refine lv_iadd hx hb dL_law_245 ?_
    rw [nI_add]
    refine w_scr hx hb hXs hbl hbA hS (4 * k + 1) (by omega) hL2 dL_law_246 ?_
    refine lv_aload_n hx hb dL_law_247 rfl (lv_at hl 5 rfl) ?_
    refine lv_iload hx hb dL_law_248 (lv_at hl 1 rfl) ?_
    refine lv_iconst (v := nI 2) hx hb dL_law_250 (by decide) ?_
    refine lv_iadd hx hb dL_law_251 ?_
    rw [nI_add]
    refine w_scr hx hb hXs hbl hbA hS (4 * k + 2) (by omega) hL2 dL_law_252 ?_
    refine lv_aload_n hx hb dL_law_253 rfl (lv_at hl 5 rfl) ?_
    refine lv_iload hx hb dL_law_254 (lv_at hl 1 rfl) ?_
    refine lv_iconst (v := nI 3) hx hb dL_law_256 (by decide) ?_
    refine lv_iadd hx hb dL_law_257 ?_
    rw [nI_add]
    refine w_scr hx hb hXs hbl hbA hS (4 * k + 3) (by omega) hL2 dL_law_258 ?_
    refine lv_if_eq (tgt := 266) hx hb dL_law_259 (by decide) (fun h => absurd h hz3) (fun _ => ?_)
    refine lv_iconst (v := nI 1) hx hb dL_law_262 (by decide) ?_
    refine lv_goto (tgt := 267) hx hb dL_law_263 (by decide) ?_
    obtain ⟨d2, mc2, ms2, r, Rm2, hd2, hmc2, hms2, hW2, hM2⟩ := hN1 H1.size (fun q hq => hAs q (Nat.le_trans hS.1 hq))
    refine wr_go (wr_runV (As := [.int (xs (4 * k + 1)), .int (xs (4 * k + 2)), .int (bI true)]) (rest := []) hx hb hml hown hts hK hM okV_RL_93_X4_place hW2 hmo1 rfl rfl rfl ⟨by show d2 + 1 ≤ 13; omega, by show 8 + (6 + 11) + 40 * d2 ≤ 500; omega⟩ hl.1 rfl (Nat.le_of_ble_eq_true rfl) dL_law_267 ⟨by show 20 + 6 * k + mc1 + mc2 ≤ 601024; omega, by show 8000 + 100 * k + u + ms1 + ms2 ≤ 7293034; omega⟩) hS (fun M2 H2 locs2 hR2 hHs2 hM hS => ?_)
    obtain ⟨hG2, ⟨fs2, hmo2⟩, hth, hbs2, ob, hout2, hob⟩ := hM2 M2 hR2
    refine lv_istore (lv' := [(6, .int r), (5, .int (nI kk)), (4, .int (nI (4 * k))), (3, .ref out), (2, .ref mo), (1, .ref xo), (0, .ref sb)]) hx hb dL_law_270 hl (by decide) rfl (fun ls hl => ?_)
    refine lv_aload_n hx hb dL_law_272 rfl (lv_at hl 4 rfl) ?_
    refine rd_goI (rd_runV (As := []) (rest := []) hx hb hml hown hts hK hM okV_RL_94_X4_thrown hth hmo2 rfl rfl rfl ⟨Nat.le_of_ble_eq_true rfl, Nat.le_of_ble_eq_true rfl⟩ hl.1 rfl (Nat.le_of_ble_eq_true rfl) dL_law_273 ⟨by show 20 + 6 * k + mc1 + mc2 ≤ 601024; omega, by show 8000 + 100 * k + u + ms1 + ms2 ≤ 7293034; omega⟩) ?_
    refine lv_iload hx hb dL_law_276 (lv_at hl 1 rfl) ?_
    refine lv_icmp_eq (tgt := 283) hx hb dL_law_278 (by decide) (fun _ => ?_) (fun h => absurd rfl h)
    refine lv_iload hx hb dL_law_283 (lv_at hl 1 rfl) ?_
    refine lv_if_ne (tgt := 300) hx hb dL_law_285 (by decide) (fun hk0 => ?_) (fun hk0 => ?_)
    · refine lv_goto (tgt := 1885) hx hb dL_law_300 (by decide) ?_
      exact W.widen (by omega) (by omega) (J M2 (u + ms2) _ _ ls hG2 hM hS (lv_sub hl [2, 3, 4, 5, 6] rfl))
    · have hkk : kk = 0 := (nI_eq (by omega) (by decide)).mp (show nI kk = nI 0 from hk0)
      refine lv_aload_n hx hb dL_law_288 rfl (lv_at hl 3 rfl) ?_
      refine lv_iconst (v := nI 0) hx hb dL_law_289 (by decide) ?_
      refine w_lald hx hb hK hM hout2 0 (by decide) (by decide) dL_law_290 ?_
      refine lv_iload hx hb dL_law_291 (lv_at hl 0 rfl) ?_
      refine w_i2l hx hb dL_law_293 ?_
      refine lb_ceq (tgt := 300) (a := (ob 0)) (b := r.toInt64.toBitVec) hx hb dL_law_294 dL_law_295 (by decide) (fun _ => ?_) (fun h => absurd (hob hkk) h)
      refine lv_goto (tgt := 1885) hx hb dL_law_300 (by decide) ?_
      exact W.widen (by omega) (by omega) (J M2 (u + ms2) _ _ ls hG2 hM hS (lv_sub hl [2, 3, 4, 5, 6] rfl))
set_option maxHeartbeats 4000000 in
set_option maxRecDepth 100000 in
theorem law_2 {p : Program} {l : Launch} {e : Env} {s : State} {m : MethodId} {below : List Frame} {meth : Method} {c : Code} {H : Heap} {locs : List Loc} {Q : State → Prop} {ls : Array Slot} {D : va_G} {cI cJ : ClassId} {M : MP} {A : Nat → Prop} {sb L xo mo out : Nat} {xs : Nat → Int32} (S : LSt p l s m c D cI cJ A sb L xs) {k u : Nat} (hk : k < 512) (hL : 4 * k + 4 ≤ L) (hL2 : L ≤ 2048) (hG : GI cI cJ A sb L xs xo mo out k M u) (hM : HM D M H) (hS : va_S A s.heap H locs) (hl : lv_has ls 9 [(4, .int (nI (4 * k))), (3, .ref out), (2, .ref mo), (1, .ref xo), (0, .ref sb)]) (J : LJ p l e s m below meth c D cI cJ A sb L xs xo mo out k Q) : W p l e room_1 s m #[Value.ref sb] below meth c H locs (20 + 6 * k) (8000 + 100 * k + u) Q (F0 m 303 ls []) := by
  obtain ⟨hx, hb, hml, hown, hts, hK, hX, hl9, hAs, hXs, hbl, hbA⟩ := S
  have hu9 := hG.u_le
  have hbs := hG.scr
  refine lv_aload_n hx hb dL_law_303 rfl (lv_at hl 3 rfl) ?_
  refine lv_aload_n hx hb dL_law_304 rfl (lv_at hl 4 rfl) ?_
  refine lv_iload hx hb dL_law_305 (lv_at hl 0 rfl) ?_
  refine lv_iconst (v := nI 1) hx hb dL_law_307 (by decide) ?_
  refine lv_iadd hx hb dL_law_308 ?_
  rw [nI_add]
  refine w_scr hx hb hXs hbl hbA hS (4 * k + 1) (by omega) hL2 dL_law_309 ?_
  refine lv_aload_n hx hb dL_law_310 rfl (lv_at hl 1 rfl) ?_
  obtain ⟨d1, mc1, ms1, kk, Rm, hd1, hmc1, hms1, hkk3, hW1, hM1⟩ := semh_remove l hl9 (D := D) (xs (4 * k + 1)) k M u H.size hk (fun q hq => hAs q (Nat.le_trans hS.1 hq)) hG
  refine hc_go (hc_runS (As := [.ref xo, .int (xs (4 * k + 1)), .ref out]) (rest := []) hx hb hml hown hts hK hX hM hS okH_remove hW1 rfl ⟨by show d1 + 1 ≤ 13; omega, by show 8 + (4 + 11) + 40 * d1 ≤ 500; omega⟩ hl.1 rfl (Nat.le_of_ble_eq_true rfl) dL_law_311 ⟨by show 20 + 6 * k + mc1 ≤ 601024; omega, by show 8000 + 100 * k + u + ms1 ≤ 7293034; omega⟩) hS (fun M1 H1 locs1 hR1 hHs1 hM hS => ?_)
  obtain ⟨⟨fs1, hmo1⟩, hbs1, hN1⟩ := hM1 M1 hR1
  refine lv_istore (lv' := [(5, .int (nI kk)), (4, .int (nI (4 * k))), (3, .ref out), (2, .ref mo), (1, .ref xo), (0, .ref sb)]) hx hb dL_law_314 hl (by decide) rfl (fun ls hl => ?_)
  refine lv_aload_n hx hb dL_law_316 rfl (lv_at hl 3 rfl) ?_
  refine lv_aload_n hx hb dL_law_317 rfl (lv_at hl 5 rfl) ?_
  refine lv_iload hx hb dL_law_318 (lv_at hl 1 rfl) ?_
  refine lv_iconst (v := nI 1) hx hb dL_law_320 (by decide) ?_
  refine lv_iadd hx hb dL_law_321 ?_
  rw [nI_add]
  refine w_scr hx hb hXs hbl hbA hS (4 * k + 1) (by omega) hL2 dL_law_322 ?_
  obtain ⟨d2, mc2, ms2, r, Rm2, hd2, hmc2, hms2, hW2, hM2⟩ := hN1 H1.size (fun q hq => hAs q (Nat.le_trans hS.1 hq))
  refine wr_go (wr_runV (As := [.int (xs (4 * k + 1))]) (rest := []) hx hb hml hown hts hK hM okV_RL_100_X4_remove hW2 hmo1 rfl rfl rfl ⟨by show d2 + 1 ≤ 13; omega, by show 8 + (3 + 11) + 40 * d2 ≤ 500; omega⟩ hl.1 rfl (Nat.le_of_ble_eq_true rfl) dL_law_323 ⟨by show 20 + 6 * k + mc1 + mc2 ≤ 601024; omega, by show 8000 + 100 * k + u + ms1 + ms2 ≤ 7293034; omega⟩) hS (fun M2 H2 locs2 hR2 hHs2 hM hS => ?_)
  obtain ⟨hG2, ⟨fs2, hmo2⟩, hth, hbs2, ob, hout2, hob⟩ := hM2 M2 hR2
  refine lv_istore (lv' := [(6, .int r), (5, .int (nI kk)), (4, .int (nI (4 * k))), (3, .ref out), (2, .ref mo), (1, .ref xo), (0, .ref sb)]) hx hb dL_law_326 hl (by decide) rfl (fun ls hl => ?_)
  refine lv_aload_n hx hb dL_law_328 rfl (lv_at hl 4 rfl) ?_
  refine rd_goI (rd_runV (As := []) (rest := []) hx hb hml hown hts hK hM okV_RL_94_X4_thrown hth hmo2 rfl rfl rfl ⟨Nat.le_of_ble_eq_true rfl, Nat.le_of_ble_eq_true rfl⟩ hl.1 rfl (Nat.le_of_ble_eq_true rfl) dL_law_329 ⟨by show 20 + 6 * k + mc1 + mc2 ≤ 601024; omega, by show 8000 + 100 * k + u + ms1 + ms2 ≤ 7293034; omega⟩) ?_
  refine lv_iload hx hb dL_law_332 (lv_at hl 1 rfl) ?_
  refine lv_icmp_eq (tgt := 339) hx hb dL_law_334 (by decide) (fun _ => ?_) (fun h => absurd rfl h)
  refine lv_iload hx hb dL_law_339 (lv_at hl 1 rfl) ?_
  refine lv_if_ne (tgt := 356) hx hb dL_law_341 (by decide) (fun hk0 => ?_) (fun hk0 => ?_)
  · refine lv_goto (tgt := 1885) hx hb dL_law_356 (by decide) ?_
    exact W.widen (by omega) (by omega) (J M2 (u + ms2) _ _ ls hG2 hM hS (lv_sub hl [2, 3, 4, 5, 6] rfl))
  · have hkk : kk = 0 := (nI_eq (by omega) (by decide)).mp (show nI kk = nI 0 from hk0)
    refine lv_aload_n hx hb dL_law_344 rfl (lv_at hl 3 rfl) ?_
    refine lv_iconst (v := nI 0) hx hb dL_law_345 (by decide) ?_
    refine w_lald hx hb hK hM hout2 0 (by decide) (by decide) dL_law_346 ?_
    refine lv_iload hx hb dL_law_347 (lv_at hl 0 rfl) ?_
    refine w_i2l hx hb dL_law_349 ?_
    refine lb_ceq (tgt := 356) (a := (ob 0)) (b := r.toInt64.toBitVec) hx hb dL_law_350 dL_law_351 (by decide) (fun _ => ?_) (fun h => absurd (hob hkk) h)
    refine lv_goto (tgt := 1885) hx hb dL_law_356 (by decide) ?_
    exact W.widen (by omega) (by omega) (J M2 (u + ms2) _ _ ls hG2 hM hS (lv_sub hl [2, 3, 4, 5, 6] rfl))
set_option maxHeartbeats 4000000 in
set_option maxRecDepth 100000 in
theorem law_3 {p : Program} {l : Launch} {e : Env} {s : State} {m : MethodId} {below : List Frame} {meth : Method} {c : Code} {H : Heap} {locs : List Loc} {Q : State → Prop} {ls : Array Slot} {D : va_G} {cI cJ : ClassId} {M : MP} {A : Nat → Prop} {sb L xo mo out : Nat} {xs : Nat → Int32} (S : LSt p l s m c D cI cJ A sb L xs) {k u : Nat} (hk : k < 512) (hL : 4 * k + 4 ≤ L) (hL2 : L ≤ 2048) (hG : GI cI cJ A sb L xs xo mo out k M u) (hM : HM D M H) (hS : va_S A s.heap H locs) (hl : lv_has ls 9 [(4, .int (nI (4 * k))), (3, .ref out), (2, .ref mo), (1, .ref xo), (0, .ref sb)]) (J : LJ p l e s m below meth c D cI cJ A sb L xs xo mo out k Q) : W p l e room_1 s m #[Value.ref sb] below meth c H locs (20 + 6 * k) (8000 + 100 * k + u) Q (F0 m 359 ls []) := by
  obtain ⟨hx, hb, hml, hown, hts, hK, hX, hl9, hAs, hXs, hbl, hbA⟩ := S
  have hu9 := hG.u_le
  have hbs := hG.scr
  by_cases hz1 : xs (4 * k + 1) = 0
  · refine lv_aload_n hx hb dL_law_359 rfl (lv_at hl 3 rfl) ?_
    refine lv_aload_n hx hb dL_law_360 rfl (lv_at hl 4 rfl) ?_
    refine lv_iload hx hb dL_law_361 (lv_at hl 0 rfl) ?_
    refine lv_iconst (v := nI 1) hx hb dL_law_363 (by decide) ?_
    refine lv_iadd hx hb dL_law_364 ?_
    rw [nI_add]
    refine w_scr hx hb hXs hbl hbA hS (4 * k + 1) (by omega) hL2 dL_law_365 ?_
    refine lv_if_eq (tgt := 373) hx hb dL_law_366 (by decide) (fun _ => ?_) (fun h => absurd hz1 h)
    refine lv_iconst (v := nI 0) hx hb dL_law_373 (by decide) ?_
    refine lv_aload_n hx hb dL_law_374 rfl (lv_at hl 1 rfl) ?_
    obtain ⟨d1, mc1, ms1, kk, Rm, hd1, hmc1, hms1, hkk3, hW1, hM1⟩ := semh_endSetup l hl9 (D := D) false k M u H.size hk (fun q hq => hAs q (Nat.le_trans hS.1 hq)) hG
    refine hc_go (hc_runS (As := [.ref xo, .int (bI false), .ref out]) (rest := []) hx hb hml hown hts hK hX hM hS okH_endSetup hW1 rfl ⟨by show d1 + 1 ≤ 13; omega, by show 8 + (4 + 11) + 40 * d1 ≤ 500; omega⟩ hl.1 rfl (Nat.le_of_ble_eq_true rfl) dL_law_375 ⟨by show 20 + 6 * k + mc1 ≤ 601024; omega, by show 8000 + 100 * k + u + ms1 ≤ 7293034; omega⟩) hS (fun M1 H1 locs1 hR1 hHs1 hM hS => ?_)
    obtain ⟨⟨fs1, hmo1⟩, hbs1, hN1⟩ := hM1 M1 hR1
    refine lv_istore (lv' := [(5, .int (nI kk)), (4, .int (nI (4 * k))), (3, .ref out), (2, .ref mo), (1, .ref xo), (0, .ref sb)]) hx hb dL_law_378 hl (by decide) rfl (fun ls hl => ?_)
    refine lv_aload_n hx hb dL_law_380 rfl (lv_at hl 3 rfl) ?_
    refine lv_aload_n hx hb dL_law_381 rfl (lv_at hl 5 rfl) ?_
    refine lv_iload hx hb dL_law_382 (lv_at hl 1 rfl) ?_
    refine lv_iconst (v := nI 1) hx hb dL_law_384 (by decide) ?_
    refine lv_iadd hx hb dL_law_385 ?_
    rw [nI_add]
    refine w_scr hx hb hXs hbl hbA hS (4 * k + 1) (by omega) hL2 dL_law_386 ?_
    refine lv_if_eq (tgt := 394) hx hb dL_law_387 (by decide) (fun _ => ?_) (fun h => absurd hz1 h)
    refine lv_iconst (v := nI 0) hx hb dL_law_394 (by decide) ?_
    obtain ⟨d2, mc2, ms2, r, Rm2, hd2, hmc2, hms2, hW2, hM2⟩ := hN1 H1.size (fun q hq => hAs q (Nat.le_trans hS.1 hq))
    refine wr_go (wr_runV (As := [.int (bI false)]) (rest := []) hx hb hml hown hts hK hM okV_RL_104_X4_endSetup hW2 hmo1 rfl rfl rfl ⟨by show d2 + 1 ≤ 13; omega, by show 8 + (3 + 11) + 40 * d2 ≤ 500; omega⟩ hl.1 rfl (Nat.le_of_ble_eq_true rfl) dL_law_395 ⟨by show 20 + 6 * k + mc1 + mc2 ≤ 601024; omega, by show 8000 + 100 * k + u + ms1 + ms2 ≤ 7293034; omega⟩) hS (fun M2 H2 locs2 hR2 hHs2 hM hS => ?_)
    obtain ⟨hG2, ⟨fs2, hmo2⟩, hth, hbs2, ob, hout2, hob⟩ := hM2 M2 hR2
    refine lv_istore (lv' := [(6, .int r), (5, .int (nI kk)), (4, .int (nI (4 * k))), (3, .ref out), (2, .ref mo), (1, .ref xo), (0, .ref sb)]) hx hb dL_law_398 hl (by decide) rfl (fun ls hl => ?_)
    refine lv_aload_n hx hb dL_law_400 rfl (lv_at hl 4 rfl) ?_
    refine rd_goI (rd_runV (As := []) (rest := []) hx hb hml hown hts hK hM okV_RL_94_X4_thrown hth hmo2 rfl rfl rfl ⟨Nat.le_of_ble_eq_true rfl, Nat.le_of_ble_eq_true rfl⟩ hl.1 rfl (Nat.le_of_ble_eq_true rfl) dL_law_401 ⟨by show 20 + 6 * k + mc1 + mc2 ≤ 601024; omega, by show 8000 + 100 * k + u + ms1 + ms2 ≤ 7293034; omega⟩) ?_
    refine lv_iload hx hb dL_law_404 (lv_at hl 1 rfl) ?_
    refine lv_icmp_eq (tgt := 411) hx hb dL_law_406 (by decide) (fun _ => ?_) (fun h => absurd rfl h)
    refine lv_iload hx hb dL_law_411 (lv_at hl 1 rfl) ?_
    refine lv_if_ne (tgt := 428) hx hb dL_law_413 (by decide) (fun hk0 => ?_) (fun hk0 => ?_)
    · refine lv_goto (tgt := 1885) hx hb dL_law_428 (by decide) ?_
      exact W.widen (by omega) (by omega) (J M2 (u + ms2) _ _ ls hG2 hM hS (lv_sub hl [2, 3, 4, 5, 6] rfl))
    · have hkk : kk = 0 := (nI_eq (by omega) (by decide)).mp (show nI kk = nI 0 from hk0)
      refine lv_aload_n hx hb dL_law_416 rfl (lv_at hl 3 rfl) ?_
      refine lv_iconst (v := nI 0) hx hb dL_law_417 (by decide) ?_
      refine w_lald hx hb hK hM hout2 0 (by decide) (by decide) dL_law_418 ?_
      refine lv_iload hx hb dL_law_419 (lv_at hl 0 rfl) ?_
      refine w_i2l hx hb dL_law_421 ?_
      refine lb_ceq (tgt := 428) (a := (ob 0)) (b := r.toInt64.toBitVec) hx hb dL_law_422 dL_law_423 (by decide) (fun _ => ?_) (fun h => absurd (hob hkk) h)
      refine lv_goto (tgt := 1885) hx hb dL_law_428 (by decide) ?_
      exact W.widen (by omega) (by omega) (J M2 (u + ms2) _ _ ls hG2 hM hS (lv_sub hl [2, 3, 4, 5, 6] rfl))
  · refine lv_aload_n hx hb dL_law_359 rfl (lv_at hl 3 rfl) ?_
    refine lv_aload_n hx hb dL_law_360 rfl (lv_at hl 4 rfl) ?_
    refine lv_iload hx hb dL_law_361 (lv_at hl 0 rfl) ?_
    refine lv_iconst (v := nI 1) hx hb dL_law_363 (by decide) ?_
    refine lv_iadd hx hb dL_law_364 ?_
    rw [nI_add]
    refine w_scr hx hb hXs hbl hbA hS (4 * k + 1) (by omega) hL2 dL_law_365 ?_
    refine lv_if_eq (tgt := 373) hx hb dL_law_366 (by decide) (fun h => absurd h hz1) (fun _ => ?_)
    refine lv_iconst (v := nI 1) hx hb dL_law_369 (by decide) ?_
    refine lv_goto (tgt := 374) hx hb dL_law_370 (by decide) ?_
    refine lv_aload_n hx hb dL_law_374 rfl (lv_at hl 1 rfl) ?_
    obtain ⟨d1, mc1, ms1, kk, Rm, hd1, hmc1, hms1, hkk3, hW1, hM1⟩ := semh_endSetup l hl9 (D := D) true k M u H.size hk (fun q hq => hAs q (Nat.le_trans hS.1 hq)) hG
    refine hc_go (hc_runS (As := [.ref xo, .int (bI true), .ref out]) (rest := []) hx hb hml hown hts hK hX hM hS okH_endSetup hW1 rfl ⟨by show d1 + 1 ≤ 13; omega, by show 8 + (4 + 11) + 40 * d1 ≤ 500; omega⟩ hl.1 rfl (Nat.le_of_ble_eq_true rfl) dL_law_375 ⟨by show 20 + 6 * k + mc1 ≤ 601024; omega, by show 8000 + 100 * k + u + ms1 ≤ 7293034; omega⟩) hS (fun M1 H1 locs1 hR1 hHs1 hM hS => ?_)
    obtain ⟨⟨fs1, hmo1⟩, hbs1, hN1⟩ := hM1 M1 hR1
    refine lv_istore (lv' := [(5, .int (nI kk)), (4, .int (nI (4 * k))), (3, .ref out), (2, .ref mo), (1, .ref xo), (0, .ref sb)]) hx hb dL_law_378 hl (by decide) rfl (fun ls hl => ?_)
    refine lv_aload_n hx hb dL_law_380 rfl (lv_at hl 3 rfl) ?_
    refine lv_aload_n hx hb dL_law_381 rfl (lv_at hl 5 rfl) ?_
    refine lv_iload hx hb dL_law_382 (lv_at hl 1 rfl) ?_
    refine lv_iconst (v := nI 1) hx hb dL_law_384 (by decide) ?_
    refine lv_iadd hx hb dL_law_385 ?_
    rw [nI_add]
    refine w_scr hx hb hXs hbl hbA hS (4 * k + 1) (by omega) hL2 dL_law_386 ?_
    refine lv_if_eq (tgt := 394) hx hb dL_law_387 (by decide) (fun h => absurd h hz1) (fun _ => ?_)
    refine lv_iconst (v := nI 1) hx hb dL_law_390 (by decide) ?_
    refine lv_goto (tgt := 395) hx hb dL_law_391 (by decide) ?_
    obtain ⟨d2, mc2, ms2, r, Rm2, hd2, hmc2, hms2, hW2, hM2⟩ := hN1 H1.size (fun q hq => hAs q (Nat.le_trans hS.1 hq))
    refine wr_go (wr_runV (As := [.int (bI true)]) (rest := []) hx hb hml hown hts hK hM okV_RL_104_X4_endSetup hW2 hmo1 rfl rfl rfl ⟨by show d2 + 1 ≤ 13; omega, by show 8 + (3 + 11) + 40 * d2 ≤ 500; omega⟩ hl.1 rfl (Nat.le_of_ble_eq_true rfl) dL_law_395 ⟨by show 20 + 6 * k + mc1 + mc2 ≤ 601024; omega, by show 8000 + 100 * k + u + ms1 + ms2 ≤ 7293034; omega⟩) hS (fun M2 H2 locs2 hR2 hHs2 hM hS => ?_)
    obtain ⟨hG2, ⟨fs2, hmo2⟩, hth, hbs2, ob, hout2, hob⟩ := hM2 M2 hR2
    refine lv_istore (lv' := [(6, .int r), (5, .int (nI kk)), (4, .int (nI (4 * k))), (3, .ref out), (2, .ref mo), (1, .ref xo), (0, .ref sb)]) hx hb dL_law_398 hl (by decide) rfl (fun ls hl => ?_)
    refine lv_aload_n hx hb dL_law_400 rfl (lv_at hl 4 rfl) ?_
    refine rd_goI (rd_runV (As := []) (rest := []) hx hb hml hown hts hK hM okV_RL_94_X4_thrown hth hmo2 rfl rfl rfl ⟨Nat.le_of_ble_eq_true rfl, Nat.le_of_ble_eq_true rfl⟩ hl.1 rfl (Nat.le_of_ble_eq_true rfl) dL_law_401 ⟨by show 20 + 6 * k + mc1 + mc2 ≤ 601024; omega, by show 8000 + 100 * k + u + ms1 + ms2 ≤ 7293034; omega⟩) ?_
    refine lv_iload hx hb dL_law_404 (lv_at hl 1 rfl) ?_
    refine lv_icmp_eq (tgt := 411) hx hb dL_law_406 (by decide) (fun _ => ?_) (fun h => absurd rfl h)
    refine lv_iload hx hb dL_law_411 (lv_at hl 1 rfl) ?_
    refine lv_if_ne (tgt := 428) hx hb dL_law_413 (by decide) (fun hk0 => ?_) (fun hk0 => ?_)
    · refine lv_goto (tgt := 1885) hx hb dL_law_428 (by decide) ?_
      exact W.widen (by omega) (by omega) (J M2 (u + ms2) _ _ ls hG2 hM hS (lv_sub hl [2, 3, 4, 5, 6] rfl))
    · have hkk : kk = 0 := (nI_eq (by omega) (by decide)).mp (show nI kk = nI 0 from hk0)
      refine lv_aload_n hx hb dL_law_416 rfl (lv_at hl 3 rfl) ?_
      refine lv_iconst (v := nI 0) hx hb dL_law_417 (by decide) ?_
      refine w_lald hx hb hK hM hout2 0 (by decide) (by decide) dL_law_418 ?_
      refine lv_iload hx hb dL_law_419 (lv_at hl 0 rfl) ?_
      refine w_i2l hx hb dL_law_421 ?_
      refine lb_ceq (tgt := 428) (a := (ob 0)) (b := r.toInt64.toBitVec) hx hb dL_law_422 dL_law_423 (by decide) (fun _ => ?_) (fun h => absurd (hob hkk) h)
      refine lv_goto (tgt := 1885) hx hb dL_law_428 (by decide) ?_
      exact W.widen (by omega) (by omega) (J M2 (u + ms2) _ _ ls hG2 hM hS (lv_sub hl [2, 3, 4, 5, 6] rfl))
set_option maxHeartbeats 4000000 in
set_option maxRecDepth 100000 in
theorem law_4 {p : Program} {l : Launch} {e : Env} {s : State} {m : MethodId} {below : List Frame} {meth : Method} {c : Code} {H : Heap} {locs : List Loc} {Q : State → Prop} {ls : Array Slot} {D : va_G} {cI cJ : ClassId} {M : MP} {A : Nat → Prop} {sb L xo mo out : Nat} {xs : Nat → Int32} (S : LSt p l s m c D cI cJ A sb L xs) {k u : Nat} (hk : k < 512) (hL : 4 * k + 4 ≤ L) (hL2 : L ≤ 2048) (hG : GI cI cJ A sb L xs xo mo out k M u) (hM : HM D M H) (hS : va_S A s.heap H locs) (hl : lv_has ls 9 [(4, .int (nI (4 * k))), (3, .ref out), (2, .ref mo), (1, .ref xo), (0, .ref sb)]) (J : LJ p l e s m below meth c D cI cJ A sb L xs xo mo out k Q) : W p l e room_1 s m #[Value.ref sb] below meth c H locs (20 + 6 * k) (8000 + 100 * k + u) Q (F0 m 431 ls []) := by
  obtain ⟨hx, hb, hml, hown, hts, hK, hX, hl9, hAs, hXs, hbl, hbA⟩ := S
  have hu9 := hG.u_le
  have hbs := hG.scr
  refine lv_aload_n hx hb dL_law_431 rfl (lv_at hl 3 rfl) ?_
  obtain ⟨d1, r, Rm, hd1, hok, ⟨fs0, hxo⟩, hW1, hM1⟩ := sem_isSetup l (D := D) k M u H.size hk (fun q hq => hAs q (Nat.le_trans hS.1 hq)) hG
  refine wr_go (wr_runV (As := []) (rest := []) hx hb hml hown hts hK hM okV_RL_105_X3_isSetup hW1 hxo rfl rfl rfl ⟨by show d1 + 1 ≤ 13; omega, by show 8 + (1 + 11) + 40 * d1 ≤ 500; omega⟩ hl.1 rfl (Nat.le_of_ble_eq_true rfl) dL_law_432 ⟨by show 20 + 6 * k + 0 ≤ 601024; omega, by show 8000 + 100 * k + u + 0 ≤ 7293034; omega⟩) hS (fun M1 H1 locs1 hR1 hHs1 hM hS => ?_)
  obtain ⟨⟨fs1, hmo1⟩, hbs1, hN1⟩ := hM1 M1 hR1
  refine lv_aload_n hx hb dL_law_435 rfl (lv_at hl 2 rfl) ?_
  obtain ⟨d2, Rm2, hd2, hW2, hM2⟩ := hN1 H1.size
  refine wr_go (wr_runV (As := []) (rest := [.int r]) hx hb hml hown hts hK hM okV_RL_109_X4_isSetup hW2 hmo1 rfl rfl rfl ⟨by show d2 + 1 ≤ 13; omega, by show 8 + (1 + 11) + 40 * d2 ≤ 500; omega⟩ hl.1 rfl (Nat.le_of_ble_eq_true rfl) dL_law_436 ⟨by show 20 + 6 * k + 0 + 0 ≤ 601024; omega, by show 8000 + 100 * k + u + 0 + 0 ≤ 7293034; omega⟩) hS (fun M2 H2 locs2 hR2 hHs2 hM hS => ?_)
  have hG2 := hM2 M2 hR2
  refine lv_icmp_eq (tgt := 1885) hx hb dL_law_439 (by decide) (fun _ => ?_) (fun h => absurd rfl h)
  exact W.widen (by omega) (by omega) (J M2 (u) _ _ ls hG2 hM hS (lv_sub hl [0, 1, 2, 3, 4] rfl))
set_option maxHeartbeats 4000000 in
set_option maxRecDepth 100000 in
theorem law_5 {p : Program} {l : Launch} {e : Env} {s : State} {m : MethodId} {below : List Frame} {meth : Method} {c : Code} {H : Heap} {locs : List Loc} {Q : State → Prop} {ls : Array Slot} {D : va_G} {cI cJ : ClassId} {M : MP} {A : Nat → Prop} {sb L xo mo out : Nat} {xs : Nat → Int32} (S : LSt p l s m c D cI cJ A sb L xs) {k u : Nat} (hk : k < 512) (hL : 4 * k + 4 ≤ L) (hL2 : L ≤ 2048) (hG : GI cI cJ A sb L xs xo mo out k M u) (hM : HM D M H) (hS : va_S A s.heap H locs) (hl : lv_has ls 9 [(4, .int (nI (4 * k))), (3, .ref out), (2, .ref mo), (1, .ref xo), (0, .ref sb)]) (J : LJ p l e s m below meth c D cI cJ A sb L xs xo mo out k Q) : W p l e room_1 s m #[Value.ref sb] below meth c H locs (20 + 6 * k) (8000 + 100 * k + u) Q (F0 m 444 ls []) := by
  obtain ⟨hx, hb, hml, hown, hts, hK, hX, hl9, hAs, hXs, hbl, hbA⟩ := S
  have hu9 := hG.u_le
  have hbs := hG.scr
  refine lv_aload_n hx hb dL_law_444 rfl (lv_at hl 3 rfl) ?_
  obtain ⟨d1, r, Rm, hd1, hok, ⟨fs0, hxo⟩, hW1, hM1⟩ := sem_whiteToAct l (D := D) k M u H.size hk (fun q hq => hAs q (Nat.le_trans hS.1 hq)) hG
  refine wr_go (wr_runV (As := []) (rest := []) hx hb hml hown hts hK hM okV_RL_110_X3_whiteToAct hW1 hxo rfl rfl rfl ⟨by show d1 + 1 ≤ 13; omega, by show 8 + (1 + 11) + 40 * d1 ≤ 500; omega⟩ hl.1 rfl (Nat.le_of_ble_eq_true rfl) dL_law_445 ⟨by show 20 + 6 * k + 0 ≤ 601024; omega, by show 8000 + 100 * k + u + 0 ≤ 7293034; omega⟩) hS (fun M1 H1 locs1 hR1 hHs1 hM hS => ?_)
  obtain ⟨⟨fs1, hmo1⟩, hbs1, hN1⟩ := hM1 M1 hR1
  refine lv_aload_n hx hb dL_law_448 rfl (lv_at hl 2 rfl) ?_
  obtain ⟨d2, Rm2, hd2, hW2, hM2⟩ := hN1 H1.size
  refine wr_go (wr_runV (As := []) (rest := [.int r]) hx hb hml hown hts hK hM okV_RL_113_X4_whiteToAct hW2 hmo1 rfl rfl rfl ⟨by show d2 + 1 ≤ 13; omega, by show 8 + (1 + 11) + 40 * d2 ≤ 500; omega⟩ hl.1 rfl (Nat.le_of_ble_eq_true rfl) dL_law_449 ⟨by show 20 + 6 * k + 0 + 0 ≤ 601024; omega, by show 8000 + 100 * k + u + 0 + 0 ≤ 7293034; omega⟩) hS (fun M2 H2 locs2 hR2 hHs2 hM hS => ?_)
  have hG2 := hM2 M2 hR2
  refine lv_icmp_eq (tgt := 1885) hx hb dL_law_452 (by decide) (fun _ => ?_) (fun h => absurd rfl h)
  exact W.widen (by omega) (by omega) (J M2 (u) _ _ ls hG2 hM hS (lv_sub hl [0, 1, 2, 3, 4] rfl))
set_option maxHeartbeats 4000000 in
set_option maxRecDepth 100000 in
theorem law_6 {p : Program} {l : Launch} {e : Env} {s : State} {m : MethodId} {below : List Frame} {meth : Method} {c : Code} {H : Heap} {locs : List Loc} {Q : State → Prop} {ls : Array Slot} {D : va_G} {cI cJ : ClassId} {M : MP} {A : Nat → Prop} {sb L xo mo out : Nat} {xs : Nat → Int32} (S : LSt p l s m c D cI cJ A sb L xs) {k u : Nat} (hk : k < 512) (hL : 4 * k + 4 ≤ L) (hL2 : L ≤ 2048) (hG : GI cI cJ A sb L xs xo mo out k M u) (hM : HM D M H) (hS : va_S A s.heap H locs) (hl : lv_has ls 9 [(4, .int (nI (4 * k))), (3, .ref out), (2, .ref mo), (1, .ref xo), (0, .ref sb)]) (J : LJ p l e s m below meth c D cI cJ A sb L xs xo mo out k Q) : W p l e room_1 s m #[Value.ref sb] below meth c H locs (20 + 6 * k) (8000 + 100 * k + u) Q (F0 m 457 ls []) := by
  obtain ⟨hx, hb, hml, hown, hts, hK, hX, hl9, hAs, hXs, hbl, hbA⟩ := S
  have hu9 := hG.u_le
  have hbs := hG.scr
  refine lv_aload_n hx hb dL_law_457 rfl (lv_at hl 3 rfl) ?_
  refine lv_aload_n hx hb dL_law_458 rfl (lv_at hl 4 rfl) ?_
  refine lv_iload hx hb dL_law_459 (lv_at hl 0 rfl) ?_
  refine lv_iconst (v := nI 1) hx hb dL_law_461 (by decide) ?_
  refine lv_iadd hx hb dL_law_462 ?_
  rw [nI_add]
  refine w_scr hx hb hXs hbl hbA hS (4 * k + 1) (by omega) hL2 dL_law_463 ?_
  refine lv_aload_n hx hb dL_law_464 rfl (lv_at hl 1 rfl) ?_
  obtain ⟨d1, mc1, ms1, kk, Rm, hd1, hmc1, hms1, hkk3, hW1, hM1⟩ := semh_pieceAt l hl9 (D := D) (xs (4 * k + 1)) k M u H.size hk (fun q hq => hAs q (Nat.le_trans hS.1 hq)) hG
  refine hc_go (hc_runS (As := [.ref xo, .int (xs (4 * k + 1)), .ref out]) (rest := []) hx hb hml hown hts hK hX hM hS okH_pieceAt hW1 rfl ⟨by show d1 + 1 ≤ 13; omega, by show 8 + (4 + 11) + 40 * d1 ≤ 500; omega⟩ hl.1 rfl (Nat.le_of_ble_eq_true rfl) dL_law_465 ⟨by show 20 + 6 * k + mc1 ≤ 601024; omega, by show 8000 + 100 * k + u + ms1 ≤ 7293034; omega⟩) hS (fun M1 H1 locs1 hR1 hHs1 hM hS => ?_)
  obtain ⟨⟨fs1, hmo1⟩, hbs1, hN1⟩ := hM1 M1 hR1
  refine lv_istore (lv' := [(5, .int (nI kk)), (4, .int (nI (4 * k))), (3, .ref out), (2, .ref mo), (1, .ref xo), (0, .ref sb)]) hx hb dL_law_468 hl (by decide) rfl (fun ls hl => ?_)
  refine lv_aload_n hx hb dL_law_470 rfl (lv_at hl 3 rfl) ?_
  refine lv_aload_n hx hb dL_law_471 rfl (lv_at hl 5 rfl) ?_
  refine lv_iload hx hb dL_law_472 (lv_at hl 1 rfl) ?_
  refine lv_iconst (v := nI 1) hx hb dL_law_474 (by decide) ?_
  refine lv_iadd hx hb dL_law_475 ?_
  rw [nI_add]
  refine w_scr hx hb hXs hbl hbA hS (4 * k + 1) (by omega) hL2 dL_law_476 ?_
  obtain ⟨d2, mc2, ms2, r, Rm2, hd2, hmc2, hms2, hW2, hM2⟩ := hN1 H1.size (fun q hq => hAs q (Nat.le_trans hS.1 hq))
  refine wr_go (wr_runV (As := [.int (xs (4 * k + 1))]) (rest := []) hx hb hml hown hts hK hM okV_RL_116_X4_pieceAt hW2 hmo1 rfl rfl rfl ⟨by show d2 + 1 ≤ 13; omega, by show 8 + (2 + 11) + 40 * d2 ≤ 500; omega⟩ hl.1 rfl (Nat.le_of_ble_eq_true rfl) dL_law_477 ⟨by show 20 + 6 * k + mc1 + mc2 ≤ 601024; omega, by show 8000 + 100 * k + u + ms1 + ms2 ≤ 7293034; omega⟩) hS (fun M2 H2 locs2 hR2 hHs2 hM hS => ?_)
  obtain ⟨hG2, ⟨fs2, hmo2⟩, hth, hbs2, ob, hout2, hob⟩ := hM2 M2 hR2
  refine lv_istore (lv' := [(6, .int r), (5, .int (nI kk)), (4, .int (nI (4 * k))), (3, .ref out), (2, .ref mo), (1, .ref xo), (0, .ref sb)]) hx hb dL_law_480 hl (by decide) rfl (fun ls hl => ?_)
  refine lv_aload_n hx hb dL_law_482 rfl (lv_at hl 4 rfl) ?_
  refine rd_goI (rd_runV (As := []) (rest := []) hx hb hml hown hts hK hM okV_RL_94_X4_thrown hth hmo2 rfl rfl rfl ⟨Nat.le_of_ble_eq_true rfl, Nat.le_of_ble_eq_true rfl⟩ hl.1 rfl (Nat.le_of_ble_eq_true rfl) dL_law_483 ⟨by show 20 + 6 * k + mc1 + mc2 ≤ 601024; omega, by show 8000 + 100 * k + u + ms1 + ms2 ≤ 7293034; omega⟩) ?_
  refine lv_iload hx hb dL_law_486 (lv_at hl 1 rfl) ?_
  refine lv_icmp_eq (tgt := 493) hx hb dL_law_488 (by decide) (fun _ => ?_) (fun h => absurd rfl h)
  refine lv_iload hx hb dL_law_493 (lv_at hl 1 rfl) ?_
  refine lv_if_ne (tgt := 510) hx hb dL_law_495 (by decide) (fun hk0 => ?_) (fun hk0 => ?_)
  · refine lv_goto (tgt := 1885) hx hb dL_law_510 (by decide) ?_
    exact W.widen (by omega) (by omega) (J M2 (u + ms2) _ _ ls hG2 hM hS (lv_sub hl [2, 3, 4, 5, 6] rfl))
  · have hkk : kk = 0 := (nI_eq (by omega) (by decide)).mp (show nI kk = nI 0 from hk0)
    refine lv_aload_n hx hb dL_law_498 rfl (lv_at hl 3 rfl) ?_
    refine lv_iconst (v := nI 0) hx hb dL_law_499 (by decide) ?_
    refine w_lald hx hb hK hM hout2 0 (by decide) (by decide) dL_law_500 ?_
    refine lv_iload hx hb dL_law_501 (lv_at hl 0 rfl) ?_
    refine w_i2l hx hb dL_law_503 ?_
    refine lb_ceq (tgt := 510) (a := (ob 0)) (b := r.toInt64.toBitVec) hx hb dL_law_504 dL_law_505 (by decide) (fun _ => ?_) (fun h => absurd (hob hkk) h)
    refine lv_goto (tgt := 1885) hx hb dL_law_510 (by decide) ?_
    exact W.widen (by omega) (by omega) (J M2 (u + ms2) _ _ ls hG2 hM hS (lv_sub hl [2, 3, 4, 5, 6] rfl))
set_option maxHeartbeats 4000000 in
set_option maxRecDepth 100000 in
theorem law_7 {p : Program} {l : Launch} {e : Env} {s : State} {m : MethodId} {below : List Frame} {meth : Method} {c : Code} {H : Heap} {locs : List Loc} {Q : State → Prop} {ls : Array Slot} {D : va_G} {cI cJ : ClassId} {M : MP} {A : Nat → Prop} {sb L xo mo out : Nat} {xs : Nat → Int32} (S : LSt p l s m c D cI cJ A sb L xs) {k u : Nat} (hk : k < 512) (hL : 4 * k + 4 ≤ L) (hL2 : L ≤ 2048) (hG : GI cI cJ A sb L xs xo mo out k M u) (hM : HM D M H) (hS : va_S A s.heap H locs) (hl : lv_has ls 9 [(4, .int (nI (4 * k))), (3, .ref out), (2, .ref mo), (1, .ref xo), (0, .ref sb)]) (J : LJ p l e s m below meth c D cI cJ A sb L xs xo mo out k Q) : W p l e room_1 s m #[Value.ref sb] below meth c H locs (20 + 6 * k) (8000 + 100 * k + u) Q (F0 m 513 ls []) := by
  obtain ⟨hx, hb, hml, hown, hts, hK, hX, hl9, hAs, hXs, hbl, hbA⟩ := S
  have hu9 := hG.u_le
  have hbs := hG.scr
  refine lv_aload_n hx hb dL_law_513 rfl (lv_at hl 3 rfl) ?_
  refine lv_aload_n hx hb dL_law_514 rfl (lv_at hl 4 rfl) ?_
  refine lv_iload hx hb dL_law_515 (lv_at hl 0 rfl) ?_
  refine lv_iconst (v := nI 1) hx hb dL_law_517 (by decide) ?_
  refine lv_iadd hx hb dL_law_518 ?_
  rw [nI_add]
  refine w_scr hx hb hXs hbl hbA hS (4 * k + 1) (by omega) hL2 dL_law_519 ?_
  refine lv_aload_n hx hb dL_law_520 rfl (lv_at hl 1 rfl) ?_
  obtain ⟨d1, mc1, ms1, kk, Rm, hd1, hmc1, hms1, hkk3, hW1, hM1⟩ := semh_isWhite l hl9 (D := D) (xs (4 * k + 1)) k M u H.size hk (fun q hq => hAs q (Nat.le_trans hS.1 hq)) hG
  refine hc_go (hc_runS (As := [.ref xo, .int (xs (4 * k + 1)), .ref out]) (rest := []) hx hb hml hown hts hK hX hM hS okH_isWhite hW1 rfl ⟨by show d1 + 1 ≤ 13; omega, by show 8 + (4 + 11) + 40 * d1 ≤ 500; omega⟩ hl.1 rfl (Nat.le_of_ble_eq_true rfl) dL_law_521 ⟨by show 20 + 6 * k + mc1 ≤ 601024; omega, by show 8000 + 100 * k + u + ms1 ≤ 7293034; omega⟩) hS (fun M1 H1 locs1 hR1 hHs1 hM hS => ?_)
  obtain ⟨⟨fs1, hmo1⟩, hbs1, hN1⟩ := hM1 M1 hR1
  refine lv_istore (lv' := [(5, .int (nI kk)), (4, .int (nI (4 * k))), (3, .ref out), (2, .ref mo), (1, .ref xo), (0, .ref sb)]) hx hb dL_law_524 hl (by decide) rfl (fun ls hl => ?_)
  refine lv_aload_n hx hb dL_law_526 rfl (lv_at hl 3 rfl) ?_
  refine lv_aload_n hx hb dL_law_527 rfl (lv_at hl 5 rfl) ?_
  refine lv_iload hx hb dL_law_528 (lv_at hl 1 rfl) ?_
  refine lv_iconst (v := nI 1) hx hb dL_law_530 (by decide) ?_
  refine lv_iadd hx hb dL_law_531 ?_
  rw [nI_add]
  refine w_scr hx hb hXs hbl hbA hS (4 * k + 1) (by omega) hL2 dL_law_532 ?_
  obtain ⟨d2, mc2, ms2, r, Rm2, hd2, hmc2, hms2, hW2, hM2⟩ := hN1 H1.size (fun q hq => hAs q (Nat.le_trans hS.1 hq))
  refine wr_go (wr_runV (As := [.int (xs (4 * k + 1))]) (rest := []) hx hb hml hown hts hK hM okV_RL_119_X4_isWhite hW2 hmo1 rfl rfl rfl ⟨by show d2 + 1 ≤ 13; omega, by show 8 + (2 + 11) + 40 * d2 ≤ 500; omega⟩ hl.1 rfl (Nat.le_of_ble_eq_true rfl) dL_law_533 ⟨by show 20 + 6 * k + mc1 + mc2 ≤ 601024; omega, by show 8000 + 100 * k + u + ms1 + ms2 ≤ 7293034; omega⟩) hS (fun M2 H2 locs2 hR2 hHs2 hM hS => ?_)
  obtain ⟨hG2, ⟨fs2, hmo2⟩, hth, hbs2, ob, hout2, hob⟩ := hM2 M2 hR2
  refine lv_istore (lv' := [(6, .int (bI r)), (5, .int (nI kk)), (4, .int (nI (4 * k))), (3, .ref out), (2, .ref mo), (1, .ref xo), (0, .ref sb)]) hx hb dL_law_536 hl (by decide) rfl (fun ls hl => ?_)
  refine lv_aload_n hx hb dL_law_538 rfl (lv_at hl 4 rfl) ?_
  refine rd_goI (rd_runV (As := []) (rest := []) hx hb hml hown hts hK hM okV_RL_94_X4_thrown hth hmo2 rfl rfl rfl ⟨Nat.le_of_ble_eq_true rfl, Nat.le_of_ble_eq_true rfl⟩ hl.1 rfl (Nat.le_of_ble_eq_true rfl) dL_law_539 ⟨by show 20 + 6 * k + mc1 + mc2 ≤ 601024; omega, by show 8000 + 100 * k + u + ms1 + ms2 ≤ 7293034; omega⟩) ?_
  refine lv_iload hx hb dL_law_542 (lv_at hl 1 rfl) ?_
  refine lv_icmp_eq (tgt := 549) hx hb dL_law_544 (by decide) (fun _ => ?_) (fun h => absurd rfl h)
  refine lv_iload hx hb dL_law_549 (lv_at hl 1 rfl) ?_
  refine lv_if_ne (tgt := 573) hx hb dL_law_551 (by decide) (fun hk0 => ?_) (fun hk0 => ?_)
  · refine lv_goto (tgt := 1885) hx hb dL_law_573 (by decide) ?_
    exact W.widen (by omega) (by omega) (J M2 (u + ms2) _ _ ls hG2 hM hS (lv_sub hl [2, 3, 4, 5, 6] rfl))
  · have hkk : kk = 0 := (nI_eq (by omega) (by decide)).mp (show nI kk = nI 0 from hk0)
    cases hrv : r
    · rw [hrv] at hl hob
      refine lv_aload_n hx hb dL_law_554 rfl (lv_at hl 3 rfl) ?_
      refine lv_iconst (v := nI 0) hx hb dL_law_555 (by decide) ?_
      refine w_lald hx hb hK hM hout2 0 (by decide) (by decide) dL_law_556 ?_
      refine lv_iload hx hb dL_law_557 (lv_at hl 0 rfl) ?_
      refine lv_if_eq (tgt := 566) hx hb dL_law_559 (by decide) (fun _ => ?_) (fun h => absurd (by decide) h)
      refine lb_const hx hb 0#64 dL_law_566 rfl ?_
      refine lb_ceq (tgt := 573) (a := (ob 0)) (b := 0#64) hx hb dL_law_567 dL_law_568 (by decide) (fun _ => ?_) (fun h => absurd (hob hkk) h)
      refine lv_goto (tgt := 1885) hx hb dL_law_573 (by decide) ?_
      exact W.widen (by omega) (by omega) (J M2 (u + ms2) _ _ ls hG2 hM hS (lv_sub hl [2, 3, 4, 5, 6] rfl))
    · rw [hrv] at hl hob
      refine lv_aload_n hx hb dL_law_554 rfl (lv_at hl 3 rfl) ?_
      refine lv_iconst (v := nI 0) hx hb dL_law_555 (by decide) ?_
      refine w_lald hx hb hK hM hout2 0 (by decide) (by decide) dL_law_556 ?_
      refine lv_iload hx hb dL_law_557 (lv_at hl 0 rfl) ?_
      refine lv_if_eq (tgt := 566) hx hb dL_law_559 (by decide) (fun h => absurd h (by decide)) (fun _ => ?_)
      refine lb_const hx hb 1#64 dL_law_562 rfl ?_
      refine lv_goto (tgt := 567) hx hb dL_law_563 (by decide) ?_
      refine lb_ceq (tgt := 573) (a := (ob 0)) (b := 1#64) hx hb dL_law_567 dL_law_568 (by decide) (fun _ => ?_) (fun h => absurd (hob hkk) h)
      refine lv_goto (tgt := 1885) hx hb dL_law_573 (by decide) ?_
      exact W.widen (by omega) (by omega) (J M2 (u + ms2) _ _ ls hG2 hM hS (lv_sub hl [2, 3, 4, 5, 6] rfl))
set_option maxHeartbeats 4000000 in
set_option maxRecDepth 100000 in
theorem law_8 {p : Program} {l : Launch} {e : Env} {s : State} {m : MethodId} {below : List Frame} {meth : Method} {c : Code} {H : Heap} {locs : List Loc} {Q : State → Prop} {ls : Array Slot} {D : va_G} {cI cJ : ClassId} {M : MP} {A : Nat → Prop} {sb L xo mo out : Nat} {xs : Nat → Int32} (S : LSt p l s m c D cI cJ A sb L xs) {k u : Nat} (hk : k < 512) (hL : 4 * k + 4 ≤ L) (hL2 : L ≤ 2048) (hG : GI cI cJ A sb L xs xo mo out k M u) (hM : HM D M H) (hS : va_S A s.heap H locs) (hl : lv_has ls 9 [(4, .int (nI (4 * k))), (3, .ref out), (2, .ref mo), (1, .ref xo), (0, .ref sb)]) (J : LJ p l e s m below meth c D cI cJ A sb L xs xo mo out k Q) : W p l e room_1 s m #[Value.ref sb] below meth c H locs (20 + 6 * k) (8000 + 100 * k + u) Q (F0 m 576 ls []) := by
  obtain ⟨hx, hb, hml, hown, hts, hK, hX, hl9, hAs, hXs, hbl, hbA⟩ := S
  have hu9 := hG.u_le
  have hbs := hG.scr
  by_cases hz1 : xs (4 * k + 1) = 0
  · refine lv_aload_n hx hb dL_law_576 rfl (lv_at hl 3 rfl) ?_
    refine lv_aload_n hx hb dL_law_577 rfl (lv_at hl 4 rfl) ?_
    refine lv_iload hx hb dL_law_578 (lv_at hl 0 rfl) ?_
    refine lv_iconst (v := nI 1) hx hb dL_law_580 (by decide) ?_
    refine lv_iadd hx hb dL_law_581 ?_
    rw [nI_add]
    refine w_scr hx hb hXs hbl hbA hS (4 * k + 1) (by omega) hL2 dL_law_582 ?_
    refine lv_if_eq (tgt := 590) hx hb dL_law_583 (by decide) (fun _ => ?_) (fun h => absurd hz1 h)
    refine lv_iconst (v := nI 0) hx hb dL_law_590 (by decide) ?_
    obtain ⟨d1, r, Rm, hd1, hok, ⟨fs0, hxo⟩, hW1, hM1⟩ := sem_piecesOf l (D := D) false k M u H.size hk (fun q hq => hAs q (Nat.le_trans hS.1 hq)) hG
    refine wr_go (wr_runV (As := [.int (bI false)]) (rest := []) hx hb hml hown hts hK hM okV_RL_120_X3_piecesOf hW1 hxo rfl rfl rfl ⟨by show d1 + 1 ≤ 13; omega, by show 8 + (2 + 11) + 40 * d1 ≤ 500; omega⟩ hl.1 rfl (Nat.le_of_ble_eq_true rfl) dL_law_591 ⟨by show 20 + 6 * k + 0 ≤ 601024; omega, by show 8000 + 100 * k + u + 0 ≤ 7293034; omega⟩) hS (fun M1 H1 locs1 hR1 hHs1 hM hS => ?_)
    obtain ⟨⟨fs1, hmo1⟩, hbs1, hN1⟩ := hM1 M1 hR1
    refine lv_aload_n hx hb dL_law_594 rfl (lv_at hl 2 rfl) ?_
    refine lv_aload_n hx hb dL_law_595 rfl (lv_at hl 4 rfl) ?_
    refine lv_iload hx hb dL_law_596 (lv_at hl 0 rfl) ?_
    refine lv_iconst (v := nI 1) hx hb dL_law_598 (by decide) ?_
    refine lv_iadd hx hb dL_law_599 ?_
    rw [nI_add]
    refine w_scr hx hb hXs hbl hbA hS (4 * k + 1) (by omega) hL2 dL_law_600 ?_
    refine lv_if_eq (tgt := 608) hx hb dL_law_601 (by decide) (fun _ => ?_) (fun h => absurd hz1 h)
    refine lv_iconst (v := nI 0) hx hb dL_law_608 (by decide) ?_
    obtain ⟨d2, Rm2, hd2, hW2, hM2⟩ := hN1 H1.size
    refine wr_go (wr_runV (As := [.int (bI false)]) (rest := [.long (bL r)]) hx hb hml hown hts hK hM okV_RL_124_X4_piecesOf hW2 hmo1 rfl rfl rfl ⟨by show d2 + 1 ≤ 13; omega, by show 8 + (5 + 11) + 40 * d2 ≤ 500; omega⟩ hl.1 rfl (Nat.le_of_ble_eq_true rfl) dL_law_609 ⟨by show 20 + 6 * k + 0 + 0 ≤ 601024; omega, by show 8000 + 100 * k + u + 0 + 0 ≤ 7293034; omega⟩) hS (fun M2 H2 locs2 hR2 hHs2 hM hS => ?_)
    have hG2 := hM2 M2 hR2
    refine lb_ceq (tgt := 1885) hx hb dL_law_612 dL_law_613 (by decide) (fun _ => ?_) (fun h => absurd rfl h)
    exact W.widen (by omega) (by omega) (J M2 (u) _ _ ls hG2 hM hS (lv_sub hl [0, 1, 2, 3, 4] rfl))
  · refine lv_aload_n hx hb dL_law_576 rfl (lv_at hl 3 rfl) ?_
    refine lv_aload_n hx hb dL_law_577 rfl (lv_at hl 4 rfl) ?_
    refine lv_iload hx hb dL_law_578 (lv_at hl 0 rfl) ?_
    refine lv_iconst (v := nI 1) hx hb dL_law_580 (by decide) ?_
    refine lv_iadd hx hb dL_law_581 ?_
    rw [nI_add]
    refine w_scr hx hb hXs hbl hbA hS (4 * k + 1) (by omega) hL2 dL_law_582 ?_
    refine lv_if_eq (tgt := 590) hx hb dL_law_583 (by decide) (fun h => absurd h hz1) (fun _ => ?_)
    refine lv_iconst (v := nI 1) hx hb dL_law_586 (by decide) ?_
    refine lv_goto (tgt := 591) hx hb dL_law_587 (by decide) ?_
    obtain ⟨d1, r, Rm, hd1, hok, ⟨fs0, hxo⟩, hW1, hM1⟩ := sem_piecesOf l (D := D) true k M u H.size hk (fun q hq => hAs q (Nat.le_trans hS.1 hq)) hG
    refine wr_go (wr_runV (As := [.int (bI true)]) (rest := []) hx hb hml hown hts hK hM okV_RL_120_X3_piecesOf hW1 hxo rfl rfl rfl ⟨by show d1 + 1 ≤ 13; omega, by show 8 + (2 + 11) + 40 * d1 ≤ 500; omega⟩ hl.1 rfl (Nat.le_of_ble_eq_true rfl) dL_law_591 ⟨by show 20 + 6 * k + 0 ≤ 601024; omega, by show 8000 + 100 * k + u + 0 ≤ 7293034; omega⟩) hS (fun M1 H1 locs1 hR1 hHs1 hM hS => ?_)
    obtain ⟨⟨fs1, hmo1⟩, hbs1, hN1⟩ := hM1 M1 hR1
    refine lv_aload_n hx hb dL_law_594 rfl (lv_at hl 2 rfl) ?_
    refine lv_aload_n hx hb dL_law_595 rfl (lv_at hl 4 rfl) ?_
    refine lv_iload hx hb dL_law_596 (lv_at hl 0 rfl) ?_
    refine lv_iconst (v := nI 1) hx hb dL_law_598 (by decide) ?_
    refine lv_iadd hx hb dL_law_599 ?_
    rw [nI_add]
    refine w_scr hx hb hXs hbl hbA hS (4 * k + 1) (by omega) hL2 dL_law_600 ?_
    refine lv_if_eq (tgt := 608) hx hb dL_law_601 (by decide) (fun h => absurd h hz1) (fun _ => ?_)
    refine lv_iconst (v := nI 1) hx hb dL_law_604 (by decide) ?_
    refine lv_goto (tgt := 609) hx hb dL_law_605 (by decide) ?_
    obtain ⟨d2, Rm2, hd2, hW2, hM2⟩ := hN1 H1.size
    refine wr_go (wr_runV (As := [.int (bI true)]) (rest := [.long (bL r)]) hx hb hml hown hts hK hM okV_RL_124_X4_piecesOf hW2 hmo1 rfl rfl rfl ⟨by show d2 + 1 ≤ 13; omega, by show 8 + (5 + 11) + 40 * d2 ≤ 500; omega⟩ hl.1 rfl (Nat.le_of_ble_eq_true rfl) dL_law_609 ⟨by show 20 + 6 * k + 0 + 0 ≤ 601024; omega, by show 8000 + 100 * k + u + 0 + 0 ≤ 7293034; omega⟩) hS (fun M2 H2 locs2 hR2 hHs2 hM hS => ?_)
    have hG2 := hM2 M2 hR2
    refine lb_ceq (tgt := 1885) hx hb dL_law_612 dL_law_613 (by decide) (fun _ => ?_) (fun h => absurd rfl h)
    exact W.widen (by omega) (by omega) (J M2 (u) _ _ ls hG2 hM hS (lv_sub hl [0, 1, 2, 3, 4] rfl))
set_option maxHeartbeats 4000000 in
set_option maxRecDepth 100000 in
theorem law_9 {p : Program} {l : Launch} {e : Env} {s : State} {m : MethodId} {below : List Frame} {meth : Method} {c : Code} {H : Heap} {locs : List Loc} {Q : State → Prop} {ls : Array Slot} {D : va_G} {cI cJ : ClassId} {M : MP} {A : Nat → Prop} {sb L xo mo out : Nat} {xs : Nat → Int32} (S : LSt p l s m c D cI cJ A sb L xs) {k u : Nat} (hk : k < 512) (hL : 4 * k + 4 ≤ L) (hL2 : L ≤ 2048) (hG : GI cI cJ A sb L xs xo mo out k M u) (hM : HM D M H) (hS : va_S A s.heap H locs) (hl : lv_has ls 9 [(4, .int (nI (4 * k))), (3, .ref out), (2, .ref mo), (1, .ref xo), (0, .ref sb)]) (J : LJ p l e s m below meth c D cI cJ A sb L xs xo mo out k Q) : W p l e room_1 s m #[Value.ref sb] below meth c H locs (20 + 6 * k) (8000 + 100 * k + u) Q (F0 m 618 ls []) := by
  obtain ⟨hx, hb, hml, hown, hts, hK, hX, hl9, hAs, hXs, hbl, hbA⟩ := S
  have hu9 := hG.u_le
  have hbs := hG.scr
  by_cases hz1 : xs (4 * k + 1) = 0
  · refine lv_aload_n hx hb dL_law_618 rfl (lv_at hl 3 rfl) ?_
    refine lv_aload_n hx hb dL_law_619 rfl (lv_at hl 4 rfl) ?_
    refine lv_iload hx hb dL_law_620 (lv_at hl 0 rfl) ?_
    refine lv_iconst (v := nI 1) hx hb dL_law_622 (by decide) ?_
    refine lv_iadd hx hb dL_law_623 ?_
    rw [nI_add]
    refine w_scr hx hb hXs hbl hbA hS (4 * k + 1) (by omega) hL2 dL_law_624 ?_
    refine lv_if_eq (tgt := 632) hx hb dL_law_625 (by decide) (fun _ => ?_) (fun h => absurd hz1 h)
    refine lv_iconst (v := nI 0) hx hb dL_law_632 (by decide) ?_
    obtain ⟨d1, r, Rm, hd1, hok, ⟨fs0, hxo⟩, hW1, hM1⟩ := sem_kingSquare l (D := D) false k M u H.size hk (fun q hq => hAs q (Nat.le_trans hS.1 hq)) hG
    refine wr_go (wr_runV (As := [.int (bI false)]) (rest := []) hx hb hml hown hts hK hM okV_RL_125_X3_kingSquare hW1 hxo rfl rfl rfl ⟨by show d1 + 1 ≤ 13; omega, by show 8 + (2 + 11) + 40 * d1 ≤ 500; omega⟩ hl.1 rfl (Nat.le_of_ble_eq_true rfl) dL_law_633 ⟨by show 20 + 6 * k + 0 ≤ 601024; omega, by show 8000 + 100 * k + u + 0 ≤ 7293034; omega⟩) hS (fun M1 H1 locs1 hR1 hHs1 hM hS => ?_)
    obtain ⟨⟨fs1, hmo1⟩, hbs1, hN1⟩ := hM1 M1 hR1
    refine lv_aload_n hx hb dL_law_636 rfl (lv_at hl 2 rfl) ?_
    refine lv_aload_n hx hb dL_law_637 rfl (lv_at hl 4 rfl) ?_
    refine lv_iload hx hb dL_law_638 (lv_at hl 0 rfl) ?_
    refine lv_iconst (v := nI 1) hx hb dL_law_640 (by decide) ?_
    refine lv_iadd hx hb dL_law_641 ?_
    rw [nI_add]
    refine w_scr hx hb hXs hbl hbA hS (4 * k + 1) (by omega) hL2 dL_law_642 ?_
    refine lv_if_eq (tgt := 650) hx hb dL_law_643 (by decide) (fun _ => ?_) (fun h => absurd hz1 h)
    refine lv_iconst (v := nI 0) hx hb dL_law_650 (by decide) ?_
    obtain ⟨d2, Rm2, hd2, hW2, hM2⟩ := hN1 H1.size
    refine wr_go (wr_runV (As := [.int (bI false)]) (rest := [.int r]) hx hb hml hown hts hK hM okV_RL_128_X4_kingSquare hW2 hmo1 rfl rfl rfl ⟨by show d2 + 1 ≤ 13; omega, by show 8 + (2 + 11) + 40 * d2 ≤ 500; omega⟩ hl.1 rfl (Nat.le_of_ble_eq_true rfl) dL_law_651 ⟨by show 20 + 6 * k + 0 + 0 ≤ 601024; omega, by show 8000 + 100 * k + u + 0 + 0 ≤ 7293034; omega⟩) hS (fun M2 H2 locs2 hR2 hHs2 hM hS => ?_)
    have hG2 := hM2 M2 hR2
    refine lv_icmp_eq (tgt := 1885) hx hb dL_law_654 (by decide) (fun _ => ?_) (fun h => absurd rfl h)
    exact W.widen (by omega) (by omega) (J M2 (u) _ _ ls hG2 hM hS (lv_sub hl [0, 1, 2, 3, 4] rfl))
  · refine lv_aload_n hx hb dL_law_618 rfl (lv_at hl 3 rfl) ?_
    refine lv_aload_n hx hb dL_law_619 rfl (lv_at hl 4 rfl) ?_
    refine lv_iload hx hb dL_law_620 (lv_at hl 0 rfl) ?_
    refine lv_iconst (v := nI 1) hx hb dL_law_622 (by decide) ?_
    refine lv_iadd hx hb dL_law_623 ?_
    rw [nI_add]
    refine w_scr hx hb hXs hbl hbA hS (4 * k + 1) (by omega) hL2 dL_law_624 ?_
    refine lv_if_eq (tgt := 632) hx hb dL_law_625 (by decide) (fun h => absurd h hz1) (fun _ => ?_)
    refine lv_iconst (v := nI 1) hx hb dL_law_628 (by decide) ?_
    refine lv_goto (tgt := 633) hx hb dL_law_629 (by decide) ?_
    obtain ⟨d1, r, Rm, hd1, hok, ⟨fs0, hxo⟩, hW1, hM1⟩ := sem_kingSquare l (D := D) true k M u H.size hk (fun q hq => hAs q (Nat.le_trans hS.1 hq)) hG
    refine wr_go (wr_runV (As := [.int (bI true)]) (rest := []) hx hb hml hown hts hK hM okV_RL_125_X3_kingSquare hW1 hxo rfl rfl rfl ⟨by show d1 + 1 ≤ 13; omega, by show 8 + (2 + 11) + 40 * d1 ≤ 500; omega⟩ hl.1 rfl (Nat.le_of_ble_eq_true rfl) dL_law_633 ⟨by show 20 + 6 * k + 0 ≤ 601024; omega, by show 8000 + 100 * k + u + 0 ≤ 7293034; omega⟩) hS (fun M1 H1 locs1 hR1 hHs1 hM hS => ?_)
    obtain ⟨⟨fs1, hmo1⟩, hbs1, hN1⟩ := hM1 M1 hR1
    refine lv_aload_n hx hb dL_law_636 rfl (lv_at hl 2 rfl) ?_
    refine lv_aload_n hx hb dL_law_637 rfl (lv_at hl 4 rfl) ?_
    refine lv_iload hx hb dL_law_638 (lv_at hl 0 rfl) ?_
    refine lv_iconst (v := nI 1) hx hb dL_law_640 (by decide) ?_
    refine lv_iadd hx hb dL_law_641 ?_
    rw [nI_add]
    refine w_scr hx hb hXs hbl hbA hS (4 * k + 1) (by omega) hL2 dL_law_642 ?_
    refine lv_if_eq (tgt := 650) hx hb dL_law_643 (by decide) (fun h => absurd h hz1) (fun _ => ?_)
    refine lv_iconst (v := nI 1) hx hb dL_law_646 (by decide) ?_
    refine lv_goto (tgt := 651) hx hb dL_law_647 (by decide) ?_
    obtain ⟨d2, Rm2, hd2, hW2, hM2⟩ := hN1 H1.size
    refine wr_go (wr_runV (As := [.int (bI true)]) (rest := [.int r]) hx hb hml hown hts hK hM okV_RL_128_X4_kingSquare hW2 hmo1 rfl rfl rfl ⟨by show d2 + 1 ≤ 13; omega, by show 8 + (2 + 11) + 40 * d2 ≤ 500; omega⟩ hl.1 rfl (Nat.le_of_ble_eq_true rfl) dL_law_651 ⟨by show 20 + 6 * k + 0 + 0 ≤ 601024; omega, by show 8000 + 100 * k + u + 0 + 0 ≤ 7293034; omega⟩) hS (fun M2 H2 locs2 hR2 hHs2 hM hS => ?_)
    have hG2 := hM2 M2 hR2
    refine lv_icmp_eq (tgt := 1885) hx hb dL_law_654 (by decide) (fun _ => ?_) (fun h => absurd rfl h)
    exact W.widen (by omega) (by omega) (J M2 (u) _ _ ls hG2 hM hS (lv_sub hl [0, 1, 2, 3, 4] rfl))
set_option maxHeartbeats 4000000 in
set_option maxRecDepth 100000 in
theorem law_10 {p : Program} {l : Launch} {e : Env} {s : State} {m : MethodId} {below : List Frame} {meth : Method} {c : Code} {H : Heap} {locs : List Loc} {Q : State → Prop} {ls : Array Slot} {D : va_G} {cI cJ : ClassId} {M : MP} {A : Nat → Prop} {sb L xo mo out : Nat} {xs : Nat → Int32} (S : LSt p l s m c D cI cJ A sb L xs) {k u : Nat} (hk : k < 512) (hL : 4 * k + 4 ≤ L) (hL2 : L ≤ 2048) (hG : GI cI cJ A sb L xs xo mo out k M u) (hM : HM D M H) (hS : va_S A s.heap H locs) (hl : lv_has ls 9 [(4, .int (nI (4 * k))), (3, .ref out), (2, .ref mo), (1, .ref xo), (0, .ref sb)]) (J : LJ p l e s m below meth c D cI cJ A sb L xs xo mo out k Q) : W p l e room_1 s m #[Value.ref sb] below meth c H locs (20 + 6 * k) (8000 + 100 * k + u) Q (F0 m 659 ls []) := by
  obtain ⟨hx, hb, hml, hown, hts, hK, hX, hl9, hAs, hXs, hbl, hbA⟩ := S
  have hu9 := hG.u_le
  have hbs := hG.scr
  refine lv_aload_n hx hb dL_law_659 rfl (lv_at hl 3 rfl) ?_
  refine lv_aload_n hx hb dL_law_660 rfl (lv_at hl 4 rfl) ?_
  refine lv_iload hx hb dL_law_661 (lv_at hl 0 rfl) ?_
  refine lv_iconst (v := nI 1) hx hb dL_law_663 (by decide) ?_
  refine lv_iadd hx hb dL_law_664 ?_
  rw [nI_add]
  refine w_scr hx hb hXs hbl hbA hS (4 * k + 1) (by omega) hL2 dL_law_665 ?_
  refine lv_aload_n hx hb dL_law_666 rfl (lv_at hl 1 rfl) ?_
  obtain ⟨d1, mc1, ms1, kk, Rm, hd1, hmc1, hms1, hkk3, hW1, hM1⟩ := semh_bondOf l hl9 (D := D) (xs (4 * k + 1)) k M u H.size hk (fun q hq => hAs q (Nat.le_trans hS.1 hq)) hG
  refine hc_go (hc_runS (As := [.ref xo, .int (xs (4 * k + 1)), .ref out]) (rest := []) hx hb hml hown hts hK hX hM hS okH_bondOf hW1 rfl ⟨by show d1 + 1 ≤ 13; omega, by show 8 + (4 + 11) + 40 * d1 ≤ 500; omega⟩ hl.1 rfl (Nat.le_of_ble_eq_true rfl) dL_law_667 ⟨by show 20 + 6 * k + mc1 ≤ 601024; omega, by show 8000 + 100 * k + u + ms1 ≤ 7293034; omega⟩) hS (fun M1 H1 locs1 hR1 hHs1 hM hS => ?_)
  obtain ⟨⟨fs1, hmo1⟩, hbs1, hN1⟩ := hM1 M1 hR1
  refine lv_istore (lv' := [(5, .int (nI kk)), (4, .int (nI (4 * k))), (3, .ref out), (2, .ref mo), (1, .ref xo), (0, .ref sb)]) hx hb dL_law_670 hl (by decide) rfl (fun ls hl => ?_)
  refine lv_aload_n hx hb dL_law_672 rfl (lv_at hl 3 rfl) ?_
  refine lv_aload_n hx hb dL_law_673 rfl (lv_at hl 5 rfl) ?_
  refine lv_iload hx hb dL_law_674 (lv_at hl 1 rfl) ?_
  refine lv_iconst (v := nI 1) hx hb dL_law_676 (by decide) ?_
  refine lv_iadd hx hb dL_law_677 ?_
  rw [nI_add]
  refine w_scr hx hb hXs hbl hbA hS (4 * k + 1) (by omega) hL2 dL_law_678 ?_
  obtain ⟨d2, mc2, ms2, r, Rm2, hd2, hmc2, hms2, hW2, hM2⟩ := hN1 H1.size (fun q hq => hAs q (Nat.le_trans hS.1 hq))
  refine wr_go (wr_runV (As := [.int (xs (4 * k + 1))]) (rest := []) hx hb hml hown hts hK hM okV_RL_131_X4_bondOf hW2 hmo1 rfl rfl rfl ⟨by show d2 + 1 ≤ 13; omega, by show 8 + (2 + 11) + 40 * d2 ≤ 500; omega⟩ hl.1 rfl (Nat.le_of_ble_eq_true rfl) dL_law_679 ⟨by show 20 + 6 * k + mc1 + mc2 ≤ 601024; omega, by show 8000 + 100 * k + u + ms1 + ms2 ≤ 7293034; omega⟩) hS (fun M2 H2 locs2 hR2 hHs2 hM hS => ?_)
  obtain ⟨hG2, ⟨fs2, hmo2⟩, hth, hbs2, ob, hout2, hob⟩ := hM2 M2 hR2
  refine lv_istore (lv' := [(6, .int r), (5, .int (nI kk)), (4, .int (nI (4 * k))), (3, .ref out), (2, .ref mo), (1, .ref xo), (0, .ref sb)]) hx hb dL_law_682 hl (by decide) rfl (fun ls hl => ?_)
  refine lv_aload_n hx hb dL_law_684 rfl (lv_at hl 4 rfl) ?_
  refine rd_goI (rd_runV (As := []) (rest := []) hx hb hml hown hts hK hM okV_RL_94_X4_thrown hth hmo2 rfl rfl rfl ⟨Nat.le_of_ble_eq_true rfl, Nat.le_of_ble_eq_true rfl⟩ hl.1 rfl (Nat.le_of_ble_eq_true rfl) dL_law_685 ⟨by show 20 + 6 * k + mc1 + mc2 ≤ 601024; omega, by show 8000 + 100 * k + u + ms1 + ms2 ≤ 7293034; omega⟩) ?_
  refine lv_iload hx hb dL_law_688 (lv_at hl 1 rfl) ?_
  refine lv_icmp_eq (tgt := 695) hx hb dL_law_690 (by decide) (fun _ => ?_) (fun h => absurd rfl h)
  refine lv_iload hx hb dL_law_695 (lv_at hl 1 rfl) ?_
  refine lv_if_ne (tgt := 712) hx hb dL_law_697 (by decide) (fun hk0 => ?_) (fun hk0 => ?_)
  · refine lv_goto (tgt := 1885) hx hb dL_law_712 (by decide) ?_
    exact W.widen (by omega) (by omega) (J M2 (u + ms2) _ _ ls hG2 hM hS (lv_sub hl [2, 3, 4, 5, 6] rfl))
  · have hkk : kk = 0 := (nI_eq (by omega) (by decide)).mp (show nI kk = nI 0 from hk0)
    refine lv_aload_n hx hb dL_law_700 rfl (lv_at hl 3 rfl) ?_
    refine lv_iconst (v := nI 0) hx hb dL_law_701 (by decide) ?_
    refine w_lald hx hb hK hM hout2 0 (by decide) (by decide) dL_law_702 ?_
    refine lv_iload hx hb dL_law_703 (lv_at hl 0 rfl) ?_
    refine w_i2l hx hb dL_law_705 ?_
    refine lb_ceq (tgt := 712) (a := (ob 0)) (b := r.toInt64.toBitVec) hx hb dL_law_706 dL_law_707 (by decide) (fun _ => ?_) (fun h => absurd (hob hkk) h)
    refine lv_goto (tgt := 1885) hx hb dL_law_712 (by decide) ?_
    exact W.widen (by omega) (by omega) (J M2 (u + ms2) _ _ ls hG2 hM hS (lv_sub hl [2, 3, 4, 5, 6] rfl))
set_option maxHeartbeats 4000000 in
set_option maxRecDepth 100000 in
theorem law_11 {p : Program} {l : Launch} {e : Env} {s : State} {m : MethodId} {below : List Frame} {meth : Method} {c : Code} {H : Heap} {locs : List Loc} {Q : State → Prop} {ls : Array Slot} {D : va_G} {cI cJ : ClassId} {M : MP} {A : Nat → Prop} {sb L xo mo out : Nat} {xs : Nat → Int32} (S : LSt p l s m c D cI cJ A sb L xs) {k u : Nat} (hk : k < 512) (hL : 4 * k + 4 ≤ L) (hL2 : L ≤ 2048) (hG : GI cI cJ A sb L xs xo mo out k M u) (hM : HM D M H) (hS : va_S A s.heap H locs) (hl : lv_has ls 9 [(4, .int (nI (4 * k))), (3, .ref out), (2, .ref mo), (1, .ref xo), (0, .ref sb)]) (J : LJ p l e s m below meth c D cI cJ A sb L xs xo mo out k Q) : W p l e room_1 s m #[Value.ref sb] below meth c H locs (20 + 6 * k) (8000 + 100 * k + u) Q (F0 m 715 ls []) := by
  obtain ⟨hx, hb, hml, hown, hts, hK, hX, hl9, hAs, hXs, hbl, hbA⟩ := S
  have hu9 := hG.u_le
  have hbs := hG.scr
  by_cases hz1 : xs (4 * k + 1) = 0
  · refine lv_aload_n hx hb dL_law_715 rfl (lv_at hl 3 rfl) ?_
    refine lv_aload_n hx hb dL_law_716 rfl (lv_at hl 4 rfl) ?_
    refine lv_iload hx hb dL_law_717 (lv_at hl 0 rfl) ?_
    refine lv_iconst (v := nI 1) hx hb dL_law_719 (by decide) ?_
    refine lv_iadd hx hb dL_law_720 ?_
    rw [nI_add]
    refine w_scr hx hb hXs hbl hbA hS (4 * k + 1) (by omega) hL2 dL_law_721 ?_
    refine lv_if_eq (tgt := 729) hx hb dL_law_722 (by decide) (fun _ => ?_) (fun h => absurd hz1 h)
    refine lv_iconst (v := nI 0) hx hb dL_law_729 (by decide) ?_
    obtain ⟨d1, r, Rm, hd1, hok, ⟨fs0, hxo⟩, hW1, hM1⟩ := sem_bondCount l (D := D) false k M u H.size hk (fun q hq => hAs q (Nat.le_trans hS.1 hq)) hG
    refine wr_go (wr_runV (As := [.int (bI false)]) (rest := []) hx hb hml hown hts hK hM okV_RL_132_X3_bondCount hW1 hxo rfl rfl rfl ⟨by show d1 + 1 ≤ 13; omega, by show 8 + (2 + 11) + 40 * d1 ≤ 500; omega⟩ hl.1 rfl (Nat.le_of_ble_eq_true rfl) dL_law_730 ⟨by show 20 + 6 * k + 0 ≤ 601024; omega, by show 8000 + 100 * k + u + 0 ≤ 7293034; omega⟩) hS (fun M1 H1 locs1 hR1 hHs1 hM hS => ?_)
    obtain ⟨⟨fs1, hmo1⟩, hbs1, hN1⟩ := hM1 M1 hR1
    refine lv_aload_n hx hb dL_law_733 rfl (lv_at hl 2 rfl) ?_
    refine lv_aload_n hx hb dL_law_734 rfl (lv_at hl 4 rfl) ?_
    refine lv_iload hx hb dL_law_735 (lv_at hl 0 rfl) ?_
    refine lv_iconst (v := nI 1) hx hb dL_law_737 (by decide) ?_
    refine lv_iadd hx hb dL_law_738 ?_
    rw [nI_add]
    refine w_scr hx hb hXs hbl hbA hS (4 * k + 1) (by omega) hL2 dL_law_739 ?_
    refine lv_if_eq (tgt := 747) hx hb dL_law_740 (by decide) (fun _ => ?_) (fun h => absurd hz1 h)
    refine lv_iconst (v := nI 0) hx hb dL_law_747 (by decide) ?_
    obtain ⟨d2, Rm2, hd2, hW2, hM2⟩ := hN1 H1.size
    refine wr_go (wr_runV (As := [.int (bI false)]) (rest := [.int r]) hx hb hml hown hts hK hM okV_RL_135_X4_bondCount hW2 hmo1 rfl rfl rfl ⟨by show d2 + 1 ≤ 13; omega, by show 8 + (4 + 11) + 40 * d2 ≤ 500; omega⟩ hl.1 rfl (Nat.le_of_ble_eq_true rfl) dL_law_748 ⟨by show 20 + 6 * k + 0 + 0 ≤ 601024; omega, by show 8000 + 100 * k + u + 0 + 0 ≤ 7293034; omega⟩) hS (fun M2 H2 locs2 hR2 hHs2 hM hS => ?_)
    have hG2 := hM2 M2 hR2
    refine lv_icmp_eq (tgt := 1885) hx hb dL_law_751 (by decide) (fun _ => ?_) (fun h => absurd rfl h)
    exact W.widen (by omega) (by omega) (J M2 (u) _ _ ls hG2 hM hS (lv_sub hl [0, 1, 2, 3, 4] rfl))
  · refine lv_aload_n hx hb dL_law_715 rfl (lv_at hl 3 rfl) ?_
    refine lv_aload_n hx hb dL_law_716 rfl (lv_at hl 4 rfl) ?_
    refine lv_iload hx hb dL_law_717 (lv_at hl 0 rfl) ?_
    refine lv_iconst (v := nI 1) hx hb dL_law_719 (by decide) ?_
    refine lv_iadd hx hb dL_law_720 ?_
    rw [nI_add]
    refine w_scr hx hb hXs hbl hbA hS (4 * k + 1) (by omega) hL2 dL_law_721 ?_
    refine lv_if_eq (tgt := 729) hx hb dL_law_722 (by decide) (fun h => absurd h hz1) (fun _ => ?_)
    refine lv_iconst (v := nI 1) hx hb dL_law_725 (by decide) ?_
    refine lv_goto (tgt := 730) hx hb dL_law_726 (by decide) ?_
    obtain ⟨d1, r, Rm, hd1, hok, ⟨fs0, hxo⟩, hW1, hM1⟩ := sem_bondCount l (D := D) true k M u H.size hk (fun q hq => hAs q (Nat.le_trans hS.1 hq)) hG
    refine wr_go (wr_runV (As := [.int (bI true)]) (rest := []) hx hb hml hown hts hK hM okV_RL_132_X3_bondCount hW1 hxo rfl rfl rfl ⟨by show d1 + 1 ≤ 13; omega, by show 8 + (2 + 11) + 40 * d1 ≤ 500; omega⟩ hl.1 rfl (Nat.le_of_ble_eq_true rfl) dL_law_730 ⟨by show 20 + 6 * k + 0 ≤ 601024; omega, by show 8000 + 100 * k + u + 0 ≤ 7293034; omega⟩) hS (fun M1 H1 locs1 hR1 hHs1 hM hS => ?_)
    obtain ⟨⟨fs1, hmo1⟩, hbs1, hN1⟩ := hM1 M1 hR1
    refine lv_aload_n hx hb dL_law_733 rfl (lv_at hl 2 rfl) ?_
    refine lv_aload_n hx hb dL_law_734 rfl (lv_at hl 4 rfl) ?_
    refine lv_iload hx hb dL_law_735 (lv_at hl 0 rfl) ?_
    refine lv_iconst (v := nI 1) hx hb dL_law_737 (by decide) ?_
    refine lv_iadd hx hb dL_law_738 ?_
    rw [nI_add]
    refine w_scr hx hb hXs hbl hbA hS (4 * k + 1) (by omega) hL2 dL_law_739 ?_
    refine lv_if_eq (tgt := 747) hx hb dL_law_740 (by decide) (fun h => absurd h hz1) (fun _ => ?_)
    refine lv_iconst (v := nI 1) hx hb dL_law_743 (by decide) ?_
    refine lv_goto (tgt := 748) hx hb dL_law_744 (by decide) ?_
    obtain ⟨d2, Rm2, hd2, hW2, hM2⟩ := hN1 H1.size
    refine wr_go (wr_runV (As := [.int (bI true)]) (rest := [.int r]) hx hb hml hown hts hK hM okV_RL_135_X4_bondCount hW2 hmo1 rfl rfl rfl ⟨by show d2 + 1 ≤ 13; omega, by show 8 + (4 + 11) + 40 * d2 ≤ 500; omega⟩ hl.1 rfl (Nat.le_of_ble_eq_true rfl) dL_law_748 ⟨by show 20 + 6 * k + 0 + 0 ≤ 601024; omega, by show 8000 + 100 * k + u + 0 + 0 ≤ 7293034; omega⟩) hS (fun M2 H2 locs2 hR2 hHs2 hM hS => ?_)
    have hG2 := hM2 M2 hR2
    refine lv_icmp_eq (tgt := 1885) hx hb dL_law_751 (by decide) (fun _ => ?_) (fun h => absurd rfl h)
    exact W.widen (by omega) (by omega) (J M2 (u) _ _ ls hG2 hM hS (lv_sub hl [0, 1, 2, 3, 4] rfl))
set_option maxHeartbeats 4000000 in
set_option maxRecDepth 100000 in
theorem law_12 {p : Program} {l : Launch} {e : Env} {s : State} {m : MethodId} {below : List Frame} {meth : Method} {c : Code} {H : Heap} {locs : List Loc} {Q : State → Prop} {ls : Array Slot} {D : va_G} {cI cJ : ClassId} {M : MP} {A : Nat → Prop} {sb L xo mo out : Nat} {xs : Nat → Int32} (S : LSt p l s m c D cI cJ A sb L xs) {k u : Nat} (hk : k < 512) (hL : 4 * k + 4 ≤ L) (hL2 : L ≤ 2048) (hG : GI cI cJ A sb L xs xo mo out k M u) (hM : HM D M H) (hS : va_S A s.heap H locs) (hl : lv_has ls 9 [(4, .int (nI (4 * k))), (3, .ref out), (2, .ref mo), (1, .ref xo), (0, .ref sb)]) (J : LJ p l e s m below meth c D cI cJ A sb L xs xo mo out k Q) : W p l e room_1 s m #[Value.ref sb] below meth c H locs (20 + 6 * k) (8000 + 100 * k + u) Q (F0 m 756 ls []) := by
  obtain ⟨hx, hb, hml, hown, hts, hK, hX, hl9, hAs, hXs, hbl, hbA⟩ := S
  have hu9 := hG.u_le
  have hbs := hG.scr
  by_cases hz1 : xs (4 * k + 1) = 0
  · refine lv_aload_n hx hb dL_law_756 rfl (lv_at hl 3 rfl) ?_
    refine lv_aload_n hx hb dL_law_757 rfl (lv_at hl 4 rfl) ?_
    refine lv_iload hx hb dL_law_758 (lv_at hl 0 rfl) ?_
    refine lv_iconst (v := nI 1) hx hb dL_law_760 (by decide) ?_
    refine lv_iadd hx hb dL_law_761 ?_
    rw [nI_add]
    refine w_scr hx hb hXs hbl hbA hS (4 * k + 1) (by omega) hL2 dL_law_762 ?_
    refine lv_if_eq (tgt := 770) hx hb dL_law_763 (by decide) (fun _ => ?_) (fun h => absurd hz1 h)
    refine lv_iconst (v := nI 0) hx hb dL_law_770 (by decide) ?_
    obtain ⟨d1, r, Rm, hd1, hok, ⟨fs0, hxo⟩, hW1, hM1⟩ := sem_longestBond l (D := D) false k M u H.size hk (fun q hq => hAs q (Nat.le_trans hS.1 hq)) hG
    refine wr_go (wr_runV (As := [.int (bI false)]) (rest := []) hx hb hml hown hts hK hM okV_RL_136_X3_longestBond hW1 hxo rfl rfl rfl ⟨by show d1 + 1 ≤ 13; omega, by show 8 + (7 + 11) + 40 * d1 ≤ 500; omega⟩ hl.1 rfl (Nat.le_of_ble_eq_true rfl) dL_law_771 ⟨by show 20 + 6 * k + 0 ≤ 601024; omega, by show 8000 + 100 * k + u + 0 ≤ 7293034; omega⟩) hS (fun M1 H1 locs1 hR1 hHs1 hM hS => ?_)
    obtain ⟨⟨fs1, hmo1⟩, hbs1, hN1⟩ := hM1 M1 hR1
    refine lv_aload_n hx hb dL_law_774 rfl (lv_at hl 2 rfl) ?_
    refine lv_aload_n hx hb dL_law_775 rfl (lv_at hl 4 rfl) ?_
    refine lv_iload hx hb dL_law_776 (lv_at hl 0 rfl) ?_
    refine lv_iconst (v := nI 1) hx hb dL_law_778 (by decide) ?_
    refine lv_iadd hx hb dL_law_779 ?_
    rw [nI_add]
    refine w_scr hx hb hXs hbl hbA hS (4 * k + 1) (by omega) hL2 dL_law_780 ?_
    refine lv_if_eq (tgt := 788) hx hb dL_law_781 (by decide) (fun _ => ?_) (fun h => absurd hz1 h)
    refine lv_iconst (v := nI 0) hx hb dL_law_788 (by decide) ?_
    obtain ⟨d2, Rm2, hd2, hW2, hM2⟩ := hN1 H1.size
    refine wr_go (wr_runV (As := [.int (bI false)]) (rest := [.int r]) hx hb hml hown hts hK hM okV_RL_139_X4_longestBond hW2 hmo1 rfl rfl rfl ⟨by show d2 + 1 ≤ 13; omega, by show 8 + (4 + 11) + 40 * d2 ≤ 500; omega⟩ hl.1 rfl (Nat.le_of_ble_eq_true rfl) dL_law_789 ⟨by show 20 + 6 * k + 0 + 0 ≤ 601024; omega, by show 8000 + 100 * k + u + 0 + 0 ≤ 7293034; omega⟩) hS (fun M2 H2 locs2 hR2 hHs2 hM hS => ?_)
    have hG2 := hM2 M2 hR2
    refine lv_icmp_eq (tgt := 1885) hx hb dL_law_792 (by decide) (fun _ => ?_) (fun h => absurd rfl h)
    exact W.widen (by omega) (by omega) (J M2 (u) _ _ ls hG2 hM hS (lv_sub hl [0, 1, 2, 3, 4] rfl))
  · refine lv_aload_n hx hb dL_law_756 rfl (lv_at hl 3 rfl) ?_
    refine lv_aload_n hx hb dL_law_757 rfl (lv_at hl 4 rfl) ?_
    refine lv_iload hx hb dL_law_758 (lv_at hl 0 rfl) ?_
    refine lv_iconst (v := nI 1) hx hb dL_law_760 (by decide) ?_
    refine lv_iadd hx hb dL_law_761 ?_
    rw [nI_add]
    refine w_scr hx hb hXs hbl hbA hS (4 * k + 1) (by omega) hL2 dL_law_762 ?_
    refine lv_if_eq (tgt := 770) hx hb dL_law_763 (by decide) (fun h => absurd h hz1) (fun _ => ?_)
    refine lv_iconst (v := nI 1) hx hb dL_law_766 (by decide) ?_
    refine lv_goto (tgt := 771) hx hb dL_law_767 (by decide) ?_
    obtain ⟨d1, r, Rm, hd1, hok, ⟨fs0, hxo⟩, hW1, hM1⟩ := sem_longestBond l (D := D) true k M u H.size hk (fun q hq => hAs q (Nat.le_trans hS.1 hq)) hG
    refine wr_go (wr_runV (As := [.int (bI true)]) (rest := []) hx hb hml hown hts hK hM okV_RL_136_X3_longestBond hW1 hxo rfl rfl rfl ⟨by show d1 + 1 ≤ 13; omega, by show 8 + (7 + 11) + 40 * d1 ≤ 500; omega⟩ hl.1 rfl (Nat.le_of_ble_eq_true rfl) dL_law_771 ⟨by show 20 + 6 * k + 0 ≤ 601024; omega, by show 8000 + 100 * k + u + 0 ≤ 7293034; omega⟩) hS (fun M1 H1 locs1 hR1 hHs1 hM hS => ?_)
    obtain ⟨⟨fs1, hmo1⟩, hbs1, hN1⟩ := hM1 M1 hR1
    refine lv_aload_n hx hb dL_law_774 rfl (lv_at hl 2 rfl) ?_
    refine lv_aload_n hx hb dL_law_775 rfl (lv_at hl 4 rfl) ?_
    refine lv_iload hx hb dL_law_776 (lv_at hl 0 rfl) ?_
    refine lv_iconst (v := nI 1) hx hb dL_law_778 (by decide) ?_
    refine lv_iadd hx hb dL_law_779 ?_
    rw [nI_add]
    refine w_scr hx hb hXs hbl hbA hS (4 * k + 1) (by omega) hL2 dL_law_780 ?_
    refine lv_if_eq (tgt := 788) hx hb dL_law_781 (by decide) (fun h => absurd h hz1) (fun _ => ?_)
    refine lv_iconst (v := nI 1) hx hb dL_law_784 (by decide) ?_
    refine lv_goto (tgt := 789) hx hb dL_law_785 (by decide) ?_
    obtain ⟨d2, Rm2, hd2, hW2, hM2⟩ := hN1 H1.size
    refine wr_go (wr_runV (As := [.int (bI true)]) (rest := [.int r]) hx hb hml hown hts hK hM okV_RL_139_X4_longestBond hW2 hmo1 rfl rfl rfl ⟨by show d2 + 1 ≤ 13; omega, by show 8 + (4 + 11) + 40 * d2 ≤ 500; omega⟩ hl.1 rfl (Nat.le_of_ble_eq_true rfl) dL_law_789 ⟨by show 20 + 6 * k + 0 + 0 ≤ 601024; omega, by show 8000 + 100 * k + u + 0 + 0 ≤ 7293034; omega⟩) hS (fun M2 H2 locs2 hR2 hHs2 hM hS => ?_)
    have hG2 := hM2 M2 hR2
    refine lv_icmp_eq (tgt := 1885) hx hb dL_law_792 (by decide) (fun _ => ?_) (fun h => absurd rfl h)
    exact W.widen (by omega) (by omega) (J M2 (u) _ _ ls hG2 hM hS (lv_sub hl [0, 1, 2, 3, 4] rfl))
set_option maxHeartbeats 4000000 in
set_option maxRecDepth 100000 in
theorem law_13 {p : Program} {l : Launch} {e : Env} {s : State} {m : MethodId} {below : List Frame} {meth : Method} {c : Code} {H : Heap} {locs : List Loc} {Q : State → Prop} {ls : Array Slot} {D : va_G} {cI cJ : ClassId} {M : MP} {A : Nat → Prop} {sb L xo mo out : Nat} {xs : Nat → Int32} (S : LSt p l s m c D cI cJ A sb L xs) {k u : Nat} (hk : k < 512) (hL : 4 * k + 4 ≤ L) (hL2 : L ≤ 2048) (hG : GI cI cJ A sb L xs xo mo out k M u) (hM : HM D M H) (hS : va_S A s.heap H locs) (hl : lv_has ls 9 [(4, .int (nI (4 * k))), (3, .ref out), (2, .ref mo), (1, .ref xo), (0, .ref sb)]) (J : LJ p l e s m below meth c D cI cJ A sb L xs xo mo out k Q) : W p l e room_1 s m #[Value.ref sb] below meth c H locs (20 + 6 * k) (8000 + 100 * k + u) Q (F0 m 797 ls []) := by
  obtain ⟨hx, hb, hml, hown, hts, hK, hX, hl9, hAs, hXs, hbl, hbA⟩ := S
  have hu9 := hG.u_le
  have hbs := hG.scr
  refine lv_aload_n hx hb dL_law_797 rfl (lv_at hl 3 rfl) ?_
  refine lv_aload_n hx hb dL_law_798 rfl (lv_at hl 4 rfl) ?_
  refine lv_iload hx hb dL_law_799 (lv_at hl 0 rfl) ?_
  refine lv_iconst (v := nI 1) hx hb dL_law_801 (by decide) ?_
  refine lv_iadd hx hb dL_law_802 ?_
  rw [nI_add]
  refine w_scr hx hb hXs hbl hbA hS (4 * k + 1) (by omega) hL2 dL_law_803 ?_
  refine lv_aload_n hx hb dL_law_804 rfl (lv_at hl 4 rfl) ?_
  refine lv_iload hx hb dL_law_805 (lv_at hl 0 rfl) ?_
  refine lv_iconst (v := nI 2) hx hb dL_law_807 (by decide) ?_
  refine lv_iadd hx hb dL_law_808 ?_
  rw [nI_add]
  refine w_scr hx hb hXs hbl hbA hS (4 * k + 2) (by omega) hL2 dL_law_809 ?_
  refine lv_aload_n hx hb dL_law_810 rfl (lv_at hl 1 rfl) ?_
  obtain ⟨d1, mc1, ms1, kk, Rm, hd1, hmc1, hms1, hkk3, hW1, hM1⟩ := semh_knightDistance l hl9 (D := D) (xs (4 * k + 1)) (xs (4 * k + 2)) k M u H.size hk (fun q hq => hAs q (Nat.le_trans hS.1 hq)) hG
  refine hc_go (hc_runS (As := [.ref xo, .int (xs (4 * k + 1)), .int (xs (4 * k + 2)), .ref out]) (rest := []) hx hb hml hown hts hK hX hM hS okH_knightDistance hW1 rfl ⟨by show d1 + 1 ≤ 13; omega, by show 8 + (5 + 11) + 40 * d1 ≤ 500; omega⟩ hl.1 rfl (Nat.le_of_ble_eq_true rfl) dL_law_811 ⟨by show 20 + 6 * k + mc1 ≤ 601024; omega, by show 8000 + 100 * k + u + ms1 ≤ 7293034; omega⟩) hS (fun M1 H1 locs1 hR1 hHs1 hM hS => ?_)
  obtain ⟨⟨fs1, hmo1⟩, hbs1, hN1⟩ := hM1 M1 hR1
  refine lv_istore (lv' := [(5, .int (nI kk)), (4, .int (nI (4 * k))), (3, .ref out), (2, .ref mo), (1, .ref xo), (0, .ref sb)]) hx hb dL_law_814 hl (by decide) rfl (fun ls hl => ?_)
  refine lv_aload_n hx hb dL_law_816 rfl (lv_at hl 3 rfl) ?_
  refine lv_aload_n hx hb dL_law_817 rfl (lv_at hl 5 rfl) ?_
  refine lv_iload hx hb dL_law_818 (lv_at hl 1 rfl) ?_
  refine lv_iconst (v := nI 1) hx hb dL_law_820 (by decide) ?_
  refine lv_iadd hx hb dL_law_821 ?_
  rw [nI_add]
  refine w_scr hx hb hXs hbl hbA hS (4 * k + 1) (by omega) hL2 dL_law_822 ?_
  refine lv_aload_n hx hb dL_law_823 rfl (lv_at hl 5 rfl) ?_
  refine lv_iload hx hb dL_law_824 (lv_at hl 1 rfl) ?_
  refine lv_iconst (v := nI 2) hx hb dL_law_826 (by decide) ?_
  refine lv_iadd hx hb dL_law_827 ?_
  rw [nI_add]
  refine w_scr hx hb hXs hbl hbA hS (4 * k + 2) (by omega) hL2 dL_law_828 ?_
  obtain ⟨d2, mc2, ms2, r, Rm2, hd2, hmc2, hms2, hW2, hM2⟩ := hN1 H1.size (fun q hq => hAs q (Nat.le_trans hS.1 hq))
  refine wr_go (wr_runV (As := [.int (xs (4 * k + 1)), .int (xs (4 * k + 2))]) (rest := []) hx hb hml hown hts hK hM okV_RL_143_X4_knightDistance hW2 hmo1 rfl rfl rfl ⟨by show d2 + 1 ≤ 13; omega, by show 8 + (3 + 11) + 40 * d2 ≤ 500; omega⟩ hl.1 rfl (Nat.le_of_ble_eq_true rfl) dL_law_829 ⟨by show 20 + 6 * k + mc1 + mc2 ≤ 601024; omega, by show 8000 + 100 * k + u + ms1 + ms2 ≤ 7293034; omega⟩) hS (fun M2 H2 locs2 hR2 hHs2 hM hS => ?_)
  obtain ⟨hG2, ⟨fs2, hmo2⟩, hth, hbs2, ob, hout2, hob⟩ := hM2 M2 hR2
  refine lv_istore (lv' := [(6, .int r), (5, .int (nI kk)), (4, .int (nI (4 * k))), (3, .ref out), (2, .ref mo), (1, .ref xo), (0, .ref sb)]) hx hb dL_law_832 hl (by decide) rfl (fun ls hl => ?_)
  refine lv_aload_n hx hb dL_law_834 rfl (lv_at hl 4 rfl) ?_
  refine rd_goI (rd_runV (As := []) (rest := []) hx hb hml hown hts hK hM okV_RL_94_X4_thrown hth hmo2 rfl rfl rfl ⟨Nat.le_of_ble_eq_true rfl, Nat.le_of_ble_eq_true rfl⟩ hl.1 rfl (Nat.le_of_ble_eq_true rfl) dL_law_835 ⟨by show 20 + 6 * k + mc1 + mc2 ≤ 601024; omega, by show 8000 + 100 * k + u + ms1 + ms2 ≤ 7293034; omega⟩) ?_
  refine lv_iload hx hb dL_law_838 (lv_at hl 1 rfl) ?_
  refine lv_icmp_eq (tgt := 845) hx hb dL_law_840 (by decide) (fun _ => ?_) (fun h => absurd rfl h)
  refine lv_iload hx hb dL_law_845 (lv_at hl 1 rfl) ?_
  refine lv_if_ne (tgt := 862) hx hb dL_law_847 (by decide) (fun hk0 => ?_) (fun hk0 => ?_)
  · refine lv_goto (tgt := 1885) hx hb dL_law_862 (by decide) ?_
    exact W.widen (by omega) (by omega) (J M2 (u + ms2) _ _ ls hG2 hM hS (lv_sub hl [2, 3, 4, 5, 6] rfl))
  · have hkk : kk = 0 := (nI_eq (by omega) (by decide)).mp (show nI kk = nI 0 from hk0)
    refine lv_aload_n hx hb dL_law_850 rfl (lv_at hl 3 rfl) ?_
    refine lv_iconst (v := nI 0) hx hb dL_law_851 (by decide) ?_
    refine w_lald hx hb hK hM hout2 0 (by decide) (by decide) dL_law_852 ?_
    refine lv_iload hx hb dL_law_853 (lv_at hl 0 rfl) ?_
    refine w_i2l hx hb dL_law_855 ?_
    refine lb_ceq (tgt := 862) (a := (ob 0)) (b := r.toInt64.toBitVec) hx hb dL_law_856 dL_law_857 (by decide) (fun _ => ?_) (fun h => absurd (hob hkk) h)
    refine lv_goto (tgt := 1885) hx hb dL_law_862 (by decide) ?_
    exact W.widen (by omega) (by omega) (J M2 (u + ms2) _ _ ls hG2 hM hS (lv_sub hl [2, 3, 4, 5, 6] rfl))
set_option maxHeartbeats 4000000 in
set_option maxRecDepth 100000 in
theorem law_14 {p : Program} {l : Launch} {e : Env} {s : State} {m : MethodId} {below : List Frame} {meth : Method} {c : Code} {H : Heap} {locs : List Loc} {Q : State → Prop} {ls : Array Slot} {D : va_G} {cI cJ : ClassId} {M : MP} {A : Nat → Prop} {sb L xo mo out : Nat} {xs : Nat → Int32} (S : LSt p l s m c D cI cJ A sb L xs) {k u : Nat} (hk : k < 512) (hL : 4 * k + 4 ≤ L) (hL2 : L ≤ 2048) (hG : GI cI cJ A sb L xs xo mo out k M u) (hM : HM D M H) (hS : va_S A s.heap H locs) (hl : lv_has ls 9 [(4, .int (nI (4 * k))), (3, .ref out), (2, .ref mo), (1, .ref xo), (0, .ref sb)]) (J : LJ p l e s m below meth c D cI cJ A sb L xs xo mo out k Q) : W p l e room_1 s m #[Value.ref sb] below meth c H locs (20 + 6 * k) (8000 + 100 * k + u) Q (F0 m 865 ls []) := by
  obtain ⟨hx, hb, hml, hown, hts, hK, hX, hl9, hAs, hXs, hbl, hbA⟩ := S
  have hu9 := hG.u_le
  have hbs := hG.scr
  by_cases hz2 : xs (4 * k + 2) = 0
  · refine lv_aload_n hx hb dL_law_865 rfl (lv_at hl 3 rfl) ?_
    refine lv_aload_n hx hb dL_law_866 rfl (lv_at hl 4 rfl) ?_
    refine lv_iload hx hb dL_law_867 (lv_at hl 0 rfl) ?_
    refine lv_iconst (v := nI 1) hx hb dL_law_869 (by decide) ?_
    refine lv_iadd hx hb dL_law_870 ?_
    rw [nI_add]
    refine w_scr hx hb hXs hbl hbA hS (4 * k + 1) (by omega) hL2 dL_law_871 ?_
    refine lv_aload_n hx hb dL_law_872 rfl (lv_at hl 4 rfl) ?_
    refine lv_iload hx hb dL_law_873 (lv_at hl 0 rfl) ?_
    refine lv_iconst (v := nI 2) hx hb dL_law_875 (by decide) ?_
    refine lv_iadd hx hb dL_law_876 ?_
    rw [nI_add]
    refine w_scr hx hb hXs hbl hbA hS (4 * k + 2) (by omega) hL2 dL_law_877 ?_
    refine lv_if_eq (tgt := 885) hx hb dL_law_878 (by decide) (fun _ => ?_) (fun h => absurd hz2 h)
    refine lv_iconst (v := nI 0) hx hb dL_law_885 (by decide) ?_
    refine lv_aload_n hx hb dL_law_886 rfl (lv_at hl 1 rfl) ?_
    obtain ⟨d1, mc1, ms1, kk, Rm, hd1, hmc1, hms1, hkk3, hW1, hM1⟩ := semh_attackers l hl9 (D := D) (xs (4 * k + 1)) false k M u H.size hk (fun q hq => hAs q (Nat.le_trans hS.1 hq)) hG
    refine hc_go (hc_runS (As := [.ref xo, .int (xs (4 * k + 1)), .int (bI false), .ref out]) (rest := []) hx hb hml hown hts hK hX hM hS okH_attackers hW1 rfl ⟨by show d1 + 1 ≤ 13; omega, by show 8 + (5 + 11) + 40 * d1 ≤ 500; omega⟩ hl.1 rfl (Nat.le_of_ble_eq_true rfl) dL_law_887 ⟨by show 20 + 6 * k + mc1 ≤ 601024; omega, by show 8000 + 100 * k + u + ms1 ≤ 7293034; omega⟩) hS (fun M1 H1 locs1 hR1 hHs1 hM hS => ?_)
    obtain ⟨⟨fs1, hmo1⟩, hbs1, hN1⟩ := hM1 M1 hR1
    refine lv_istore (lv' := [(5, .int (nI kk)), (4, .int (nI (4 * k))), (3, .ref out), (2, .ref mo), (1, .ref xo), (0, .ref sb)]) hx hb dL_law_890 hl (by decide) rfl (fun ls hl => ?_)
    refine lv_aload_n hx hb dL_law_892 rfl (lv_at hl 3 rfl) ?_
    refine lv_aload_n hx hb dL_law_893 rfl (lv_at hl 5 rfl) ?_
    refine lv_iload hx hb dL_law_894 (lv_at hl 1 rfl) ?_
    refine lv_iconst (v := nI 1) hx hb dL_law_896 (by decide) ?_
    refine lv_iadd hx hb dL_law_897 ?_
    rw [nI_add]
    refine w_scr hx hb hXs hbl hbA hS (4 * k + 1) (by omega) hL2 dL_law_898 ?_
    refine lv_aload_n hx hb dL_law_899 rfl (lv_at hl 5 rfl) ?_
    refine lv_iload hx hb dL_law_900 (lv_at hl 1 rfl) ?_
    refine lv_iconst (v := nI 2) hx hb dL_law_902 (by decide) ?_
    refine lv_iadd hx hb dL_law_903 ?_
    rw [nI_add]
    refine w_scr hx hb hXs hbl hbA hS (4 * k + 2) (by omega) hL2 dL_law_904 ?_
    refine lv_if_eq (tgt := 912) hx hb dL_law_905 (by decide) (fun _ => ?_) (fun h => absurd hz2 h)
    refine lv_iconst (v := nI 0) hx hb dL_law_912 (by decide) ?_
    obtain ⟨d2, mc2, ms2, r, Rm2, hd2, hmc2, hms2, hW2, hM2⟩ := hN1 H1.size (fun q hq => hAs q (Nat.le_trans hS.1 hq))
    refine wr_go (wr_runV (As := [.int (xs (4 * k + 1)), .int (bI false)]) (rest := []) hx hb hml hown hts hK hM okV_RL_147_X4_attackers hW2 hmo1 rfl rfl rfl ⟨by show d2 + 1 ≤ 13; omega, by show 8 + (6 + 11) + 40 * d2 ≤ 500; omega⟩ hl.1 rfl (Nat.le_of_ble_eq_true rfl) dL_law_913 ⟨by show 20 + 6 * k + mc1 + mc2 ≤ 601024; omega, by show 8000 + 100 * k + u + ms1 + ms2 ≤ 7293034; omega⟩) hS (fun M2 H2 locs2 hR2 hHs2 hM hS => ?_)
    obtain ⟨hG2, ⟨fs2, hmo2⟩, hth, hbs2, ob, hout2, hob⟩ := hM2 M2 hR2
    refine lv_lstore (lv' := [(6, .long (bL r)), (5, .int (nI kk)), (4, .int (nI (4 * k))), (3, .ref out), (2, .ref mo), (1, .ref xo), (0, .ref sb)]) hx hb dL_law_916 hl (by decide) rfl (fun ls hl => ?_)
    refine lv_aload_n hx hb dL_law_918 rfl (lv_at hl 4 rfl) ?_
    refine rd_goI (rd_runV (As := []) (rest := []) hx hb hml hown hts hK hM okV_RL_94_X4_thrown hth hmo2 rfl rfl rfl ⟨Nat.le_of_ble_eq_true rfl, Nat.le_of_ble_eq_true rfl⟩ hl.1 rfl (Nat.le_of_ble_eq_true rfl) dL_law_919 ⟨by show 20 + 6 * k + mc1 + mc2 ≤ 601024; omega, by show 8000 + 100 * k + u + ms1 + ms2 ≤ 7293034; omega⟩) ?_
    refine lv_iload hx hb dL_law_922 (lv_at hl 1 rfl) ?_
    refine lv_icmp_eq (tgt := 929) hx hb dL_law_924 (by decide) (fun _ => ?_) (fun h => absurd rfl h)
    refine lv_iload hx hb dL_law_929 (lv_at hl 1 rfl) ?_
    refine lv_if_ne (tgt := 945) hx hb dL_law_931 (by decide) (fun hk0 => ?_) (fun hk0 => ?_)
    · refine lv_goto (tgt := 1885) hx hb dL_law_945 (by decide) ?_
      exact W.widen (by omega) (by omega) (J M2 (u + ms2) _ _ ls hG2 hM hS (lv_sub hl [2, 3, 4, 5, 6] rfl))
    · have hkk : kk = 0 := (nI_eq (by omega) (by decide)).mp (show nI kk = nI 0 from hk0)
      refine lv_aload_n hx hb dL_law_934 rfl (lv_at hl 3 rfl) ?_
      refine lv_iconst (v := nI 0) hx hb dL_law_935 (by decide) ?_
      refine w_lald hx hb hK hM hout2 0 (by decide) (by decide) dL_law_936 ?_
      refine lv_lload hx hb dL_law_937 (lv_at hl 0 rfl) ?_
      refine lb_ceq (tgt := 945) (a := (ob 0)) (b := r) hx hb dL_law_939 dL_law_940 (by decide) (fun _ => ?_) (fun h => absurd (hob hkk) h)
      refine lv_goto (tgt := 1885) hx hb dL_law_945 (by decide) ?_
      exact W.widen (by omega) (by omega) (J M2 (u + ms2) _ _ ls hG2 hM hS (lv_sub hl [2, 3, 4, 5, 6] rfl))
  · refine lv_aload_n hx hb dL_law_865 rfl (lv_at hl 3 rfl) ?_
    refine lv_aload_n hx hb dL_law_866 rfl (lv_at hl 4 rfl) ?_
    refine lv_iload hx hb dL_law_867 (lv_at hl 0 rfl) ?_
    refine lv_iconst (v := nI 1) hx hb dL_law_869 (by decide) ?_
    refine lv_iadd hx hb dL_law_870 ?_
    rw [nI_add]
    refine w_scr hx hb hXs hbl hbA hS (4 * k + 1) (by omega) hL2 dL_law_871 ?_
    refine lv_aload_n hx hb dL_law_872 rfl (lv_at hl 4 rfl) ?_
    refine lv_iload hx hb dL_law_873 (lv_at hl 0 rfl) ?_
    refine lv_iconst (v := nI 2) hx hb dL_law_875 (by decide) ?_
    refine lv_iadd hx hb dL_law_876 ?_
    rw [nI_add]
    refine w_scr hx hb hXs hbl hbA hS (4 * k + 2) (by omega) hL2 dL_law_877 ?_
    refine lv_if_eq (tgt := 885) hx hb dL_law_878 (by decide) (fun h => absurd h hz2) (fun _ => ?_)
    refine lv_iconst (v := nI 1) hx hb dL_law_881 (by decide) ?_
    refine lv_goto (tgt := 886) hx hb dL_law_882 (by decide) ?_
    refine lv_aload_n hx hb dL_law_886 rfl (lv_at hl 1 rfl) ?_
    obtain ⟨d1, mc1, ms1, kk, Rm, hd1, hmc1, hms1, hkk3, hW1, hM1⟩ := semh_attackers l hl9 (D := D) (xs (4 * k + 1)) true k M u H.size hk (fun q hq => hAs q (Nat.le_trans hS.1 hq)) hG
    refine hc_go (hc_runS (As := [.ref xo, .int (xs (4 * k + 1)), .int (bI true), .ref out]) (rest := []) hx hb hml hown hts hK hX hM hS okH_attackers hW1 rfl ⟨by show d1 + 1 ≤ 13; omega, by show 8 + (5 + 11) + 40 * d1 ≤ 500; omega⟩ hl.1 rfl (Nat.le_of_ble_eq_true rfl) dL_law_887 ⟨by show 20 + 6 * k + mc1 ≤ 601024; omega, by show 8000 + 100 * k + u + ms1 ≤ 7293034; omega⟩) hS (fun M1 H1 locs1 hR1 hHs1 hM hS => ?_)
    obtain ⟨⟨fs1, hmo1⟩, hbs1, hN1⟩ := hM1 M1 hR1
    refine lv_istore (lv' := [(5, .int (nI kk)), (4, .int (nI (4 * k))), (3, .ref out), (2, .ref mo), (1, .ref xo), (0, .ref sb)]) hx hb dL_law_890 hl (by decide) rfl (fun ls hl => ?_)
    refine lv_aload_n hx hb dL_law_892 rfl (lv_at hl 3 rfl) ?_
    refine lv_aload_n hx hb dL_law_893 rfl (lv_at hl 5 rfl) ?_
    refine lv_iload hx hb dL_law_894 (lv_at hl 1 rfl) ?_
    refine lv_iconst (v := nI 1) hx hb dL_law_896 (by decide) ?_
    refine lv_iadd hx hb dL_law_897 ?_
    rw [nI_add]
    refine w_scr hx hb hXs hbl hbA hS (4 * k + 1) (by omega) hL2 dL_law_898 ?_
    refine lv_aload_n hx hb dL_law_899 rfl (lv_at hl 5 rfl) ?_
    refine lv_iload hx hb dL_law_900 (lv_at hl 1 rfl) ?_
    refine lv_iconst (v := nI 2) hx hb dL_law_902 (by decide) ?_
    refine lv_iadd hx hb dL_law_903 ?_
    rw [nI_add]
    refine w_scr hx hb hXs hbl hbA hS (4 * k + 2) (by omega) hL2 dL_law_904 ?_
    refine lv_if_eq (tgt := 912) hx hb dL_law_905 (by decide) (fun h => absurd h hz2) (fun _ => ?_)
    refine lv_iconst (v := nI 1) hx hb dL_law_908 (by decide) ?_
    refine lv_goto (tgt := 913) hx hb dL_law_909 (by decide) ?_
    obtain ⟨d2, mc2, ms2, r, Rm2, hd2, hmc2, hms2, hW2, hM2⟩ := hN1 H1.size (fun q hq => hAs q (Nat.le_trans hS.1 hq))
    refine wr_go (wr_runV (As := [.int (xs (4 * k + 1)), .int (bI true)]) (rest := []) hx hb hml hown hts hK hM okV_RL_147_X4_attackers hW2 hmo1 rfl rfl rfl ⟨by show d2 + 1 ≤ 13; omega, by show 8 + (6 + 11) + 40 * d2 ≤ 500; omega⟩ hl.1 rfl (Nat.le_of_ble_eq_true rfl) dL_law_913 ⟨by show 20 + 6 * k + mc1 + mc2 ≤ 601024; omega, by show 8000 + 100 * k + u + ms1 + ms2 ≤ 7293034; omega⟩) hS (fun M2 H2 locs2 hR2 hHs2 hM hS => ?_)
    obtain ⟨hG2, ⟨fs2, hmo2⟩, hth, hbs2, ob, hout2, hob⟩ := hM2 M2 hR2
    refine lv_lstore (lv' := [(6, .long (bL r)), (5, .int (nI kk)), (4, .int (nI (4 * k))), (3, .ref out), (2, .ref mo), (1, .ref xo), (0, .ref sb)]) hx hb dL_law_916 hl (by decide) rfl (fun ls hl => ?_)
    refine lv_aload_n hx hb dL_law_918 rfl (lv_at hl 4 rfl) ?_
    refine rd_goI (rd_runV (As := []) (rest := []) hx hb hml hown hts hK hM okV_RL_94_X4_thrown hth hmo2 rfl rfl rfl ⟨Nat.le_of_ble_eq_true rfl, Nat.le_of_ble_eq_true rfl⟩ hl.1 rfl (Nat.le_of_ble_eq_true rfl) dL_law_919 ⟨by show 20 + 6 * k + mc1 + mc2 ≤ 601024; omega, by show 8000 + 100 * k + u + ms1 + ms2 ≤ 7293034; omega⟩) ?_
    refine lv_iload hx hb dL_law_922 (lv_at hl 1 rfl) ?_
    refine lv_icmp_eq (tgt := 929) hx hb dL_law_924 (by decide) (fun _ => ?_) (fun h => absurd rfl h)
    refine lv_iload hx hb dL_law_929 (lv_at hl 1 rfl) ?_
    refine lv_if_ne (tgt := 945) hx hb dL_law_931 (by decide) (fun hk0 => ?_) (fun hk0 => ?_)
    · refine lv_goto (tgt := 1885) hx hb dL_law_945 (by decide) ?_
      exact W.widen (by omega) (by omega) (J M2 (u + ms2) _ _ ls hG2 hM hS (lv_sub hl [2, 3, 4, 5, 6] rfl))
    · have hkk : kk = 0 := (nI_eq (by omega) (by decide)).mp (show nI kk = nI 0 from hk0)
      refine lv_aload_n hx hb dL_law_934 rfl (lv_at hl 3 rfl) ?_
      refine lv_iconst (v := nI 0) hx hb dL_law_935 (by decide) ?_
      refine w_lald hx hb hK hM hout2 0 (by decide) (by decide) dL_law_936 ?_
      refine lv_lload hx hb dL_law_937 (lv_at hl 0 rfl) ?_
      refine lb_ceq (tgt := 945) (a := (ob 0)) (b := r) hx hb dL_law_939 dL_law_940 (by decide) (fun _ => ?_) (fun h => absurd (hob hkk) h)
      refine lv_goto (tgt := 1885) hx hb dL_law_945 (by decide) ?_
      exact W.widen (by omega) (by omega) (J M2 (u + ms2) _ _ ls hG2 hM hS (lv_sub hl [2, 3, 4, 5, 6] rfl))
set_option maxHeartbeats 4000000 in
set_option maxRecDepth 100000 in
theorem law_15 {p : Program} {l : Launch} {e : Env} {s : State} {m : MethodId} {below : List Frame} {meth : Method} {c : Code} {H : Heap} {locs : List Loc} {Q : State → Prop} {ls : Array Slot} {D : va_G} {cI cJ : ClassId} {M : MP} {A : Nat → Prop} {sb L xo mo out : Nat} {xs : Nat → Int32} (S : LSt p l s m c D cI cJ A sb L xs) {k u : Nat} (hk : k < 512) (hL : 4 * k + 4 ≤ L) (hL2 : L ≤ 2048) (hG : GI cI cJ A sb L xs xo mo out k M u) (hM : HM D M H) (hS : va_S A s.heap H locs) (hl : lv_has ls 9 [(4, .int (nI (4 * k))), (3, .ref out), (2, .ref mo), (1, .ref xo), (0, .ref sb)]) (J : LJ p l e s m below meth c D cI cJ A sb L xs xo mo out k Q) : W p l e room_1 s m #[Value.ref sb] below meth c H locs (20 + 6 * k) (8000 + 100 * k + u) Q (F0 m 948 ls []) := by
  obtain ⟨hx, hb, hml, hown, hts, hK, hX, hl9, hAs, hXs, hbl, hbA⟩ := S
  have hu9 := hG.u_le
  have hbs := hG.scr
  by_cases hz1 : xs (4 * k + 1) = 0
  · refine lv_aload_n hx hb dL_law_948 rfl (lv_at hl 3 rfl) ?_
    refine lv_aload_n hx hb dL_law_949 rfl (lv_at hl 4 rfl) ?_
    refine lv_iload hx hb dL_law_950 (lv_at hl 0 rfl) ?_
    refine lv_iconst (v := nI 1) hx hb dL_law_952 (by decide) ?_
    refine lv_iadd hx hb dL_law_953 ?_
    rw [nI_add]
    refine w_scr hx hb hXs hbl hbA hS (4 * k + 1) (by omega) hL2 dL_law_954 ?_
    refine lv_if_eq (tgt := 962) hx hb dL_law_955 (by decide) (fun _ => ?_) (fun h => absurd hz1 h)
    refine lv_iconst (v := nI 0) hx hb dL_law_962 (by decide) ?_
    obtain ⟨d1, r, Rm, hd1, hok, ⟨fs0, hxo⟩, hW1, hM1⟩ := sem_attackedSquares l (D := D) false k M u H.size hk (fun q hq => hAs q (Nat.le_trans hS.1 hq)) hG
    refine wr_go (wr_runV (As := [.int (bI false)]) (rest := []) hx hb hml hown hts hK hM okV_RL_148_X3_attackedSquares hW1 hxo rfl rfl rfl ⟨by show d1 + 1 ≤ 13; omega, by show 8 + (2 + 11) + 40 * d1 ≤ 500; omega⟩ hl.1 rfl (Nat.le_of_ble_eq_true rfl) dL_law_963 ⟨by show 20 + 6 * k + 0 ≤ 601024; omega, by show 8000 + 100 * k + u + 0 ≤ 7293034; omega⟩) hS (fun M1 H1 locs1 hR1 hHs1 hM hS => ?_)
    obtain ⟨⟨fs1, hmo1⟩, hbs1, hN1⟩ := hM1 M1 hR1
    refine lv_aload_n hx hb dL_law_966 rfl (lv_at hl 2 rfl) ?_
    refine lv_aload_n hx hb dL_law_967 rfl (lv_at hl 4 rfl) ?_
    refine lv_iload hx hb dL_law_968 (lv_at hl 0 rfl) ?_
    refine lv_iconst (v := nI 1) hx hb dL_law_970 (by decide) ?_
    refine lv_iadd hx hb dL_law_971 ?_
    rw [nI_add]
    refine w_scr hx hb hXs hbl hbA hS (4 * k + 1) (by omega) hL2 dL_law_972 ?_
    refine lv_if_eq (tgt := 980) hx hb dL_law_973 (by decide) (fun _ => ?_) (fun h => absurd hz1 h)
    refine lv_iconst (v := nI 0) hx hb dL_law_980 (by decide) ?_
    obtain ⟨d2, Rm2, hd2, hW2, hM2⟩ := hN1 H1.size
    refine wr_go (wr_runV (As := [.int (bI false)]) (rest := [.long (bL r)]) hx hb hml hown hts hK hM okV_RL_151_X4_attackedSquares hW2 hmo1 rfl rfl rfl ⟨by show d2 + 1 ≤ 13; omega, by show 8 + (2 + 11) + 40 * d2 ≤ 500; omega⟩ hl.1 rfl (Nat.le_of_ble_eq_true rfl) dL_law_981 ⟨by show 20 + 6 * k + 0 + 0 ≤ 601024; omega, by show 8000 + 100 * k + u + 0 + 0 ≤ 7293034; omega⟩) hS (fun M2 H2 locs2 hR2 hHs2 hM hS => ?_)
    have hG2 := hM2 M2 hR2
    refine lb_ceq (tgt := 1885) hx hb dL_law_984 dL_law_985 (by decide) (fun _ => ?_) (fun h => absurd rfl h)
    exact W.widen (by omega) (by omega) (J M2 (u) _ _ ls hG2 hM hS (lv_sub hl [0, 1, 2, 3, 4] rfl))
  · refine lv_aload_n hx hb dL_law_948 rfl (lv_at hl 3 rfl) ?_
    refine lv_aload_n hx hb dL_law_949 rfl (lv_at hl 4 rfl) ?_
    refine lv_iload hx hb dL_law_950 (lv_at hl 0 rfl) ?_
    refine lv_iconst (v := nI 1) hx hb dL_law_952 (by decide) ?_
    refine lv_iadd hx hb dL_law_953 ?_
    rw [nI_add]
    refine w_scr hx hb hXs hbl hbA hS (4 * k + 1) (by omega) hL2 dL_law_954 ?_
    refine lv_if_eq (tgt := 962) hx hb dL_law_955 (by decide) (fun h => absurd h hz1) (fun _ => ?_)
    refine lv_iconst (v := nI 1) hx hb dL_law_958 (by decide) ?_
    refine lv_goto (tgt := 963) hx hb dL_law_959 (by decide) ?_
    obtain ⟨d1, r, Rm, hd1, hok, ⟨fs0, hxo⟩, hW1, hM1⟩ := sem_attackedSquares l (D := D) true k M u H.size hk (fun q hq => hAs q (Nat.le_trans hS.1 hq)) hG
    refine wr_go (wr_runV (As := [.int (bI true)]) (rest := []) hx hb hml hown hts hK hM okV_RL_148_X3_attackedSquares hW1 hxo rfl rfl rfl ⟨by show d1 + 1 ≤ 13; omega, by show 8 + (2 + 11) + 40 * d1 ≤ 500; omega⟩ hl.1 rfl (Nat.le_of_ble_eq_true rfl) dL_law_963 ⟨by show 20 + 6 * k + 0 ≤ 601024; omega, by show 8000 + 100 * k + u + 0 ≤ 7293034; omega⟩) hS (fun M1 H1 locs1 hR1 hHs1 hM hS => ?_)
    obtain ⟨⟨fs1, hmo1⟩, hbs1, hN1⟩ := hM1 M1 hR1
    refine lv_aload_n hx hb dL_law_966 rfl (lv_at hl 2 rfl) ?_
    refine lv_aload_n hx hb dL_law_967 rfl (lv_at hl 4 rfl) ?_
    refine lv_iload hx hb dL_law_968 (lv_at hl 0 rfl) ?_
    refine lv_iconst (v := nI 1) hx hb dL_law_970 (by decide) ?_
    refine lv_iadd hx hb dL_law_971 ?_
    rw [nI_add]
    refine w_scr hx hb hXs hbl hbA hS (4 * k + 1) (by omega) hL2 dL_law_972 ?_
    refine lv_if_eq (tgt := 980) hx hb dL_law_973 (by decide) (fun h => absurd h hz1) (fun _ => ?_)
    refine lv_iconst (v := nI 1) hx hb dL_law_976 (by decide) ?_
    refine lv_goto (tgt := 981) hx hb dL_law_977 (by decide) ?_
    obtain ⟨d2, Rm2, hd2, hW2, hM2⟩ := hN1 H1.size
    refine wr_go (wr_runV (As := [.int (bI true)]) (rest := [.long (bL r)]) hx hb hml hown hts hK hM okV_RL_151_X4_attackedSquares hW2 hmo1 rfl rfl rfl ⟨by show d2 + 1 ≤ 13; omega, by show 8 + (2 + 11) + 40 * d2 ≤ 500; omega⟩ hl.1 rfl (Nat.le_of_ble_eq_true rfl) dL_law_981 ⟨by show 20 + 6 * k + 0 + 0 ≤ 601024; omega, by show 8000 + 100 * k + u + 0 + 0 ≤ 7293034; omega⟩) hS (fun M2 H2 locs2 hR2 hHs2 hM hS => ?_)
    have hG2 := hM2 M2 hR2
    refine lb_ceq (tgt := 1885) hx hb dL_law_984 dL_law_985 (by decide) (fun _ => ?_) (fun h => absurd rfl h)
    exact W.widen (by omega) (by omega) (J M2 (u) _ _ ls hG2 hM hS (lv_sub hl [0, 1, 2, 3, 4] rfl))
set_option maxHeartbeats 4000000 in
set_option maxRecDepth 100000 in
theorem law_16 {p : Program} {l : Launch} {e : Env} {s : State} {m : MethodId} {below : List Frame} {meth : Method} {c : Code} {H : Heap} {locs : List Loc} {Q : State → Prop} {ls : Array Slot} {D : va_G} {cI cJ : ClassId} {M : MP} {A : Nat → Prop} {sb L xo mo out : Nat} {xs : Nat → Int32} (S : LSt p l s m c D cI cJ A sb L xs) {k u : Nat} (hk : k < 512) (hL : 4 * k + 4 ≤ L) (hL2 : L ≤ 2048) (hG : GI cI cJ A sb L xs xo mo out k M u) (hM : HM D M H) (hS : va_S A s.heap H locs) (hl : lv_has ls 9 [(4, .int (nI (4 * k))), (3, .ref out), (2, .ref mo), (1, .ref xo), (0, .ref sb)]) (J : LJ p l e s m below meth c D cI cJ A sb L xs xo mo out k Q) : W p l e room_1 s m #[Value.ref sb] below meth c H locs (20 + 6 * k) (8000 + 100 * k + u) Q (F0 m 990 ls []) := by
  obtain ⟨hx, hb, hml, hown, hts, hK, hX, hl9, hAs, hXs, hbl, hbA⟩ := S
  have hu9 := hG.u_le
  have hbs := hG.scr
  by_cases hz1 : xs (4 * k + 1) = 0
  · refine lv_aload_n hx hb dL_law_990 rfl (lv_at hl 3 rfl) ?_
    refine lv_aload_n hx hb dL_law_991 rfl (lv_at hl 4 rfl) ?_
    refine lv_iload hx hb dL_law_992 (lv_at hl 0 rfl) ?_
    refine lv_iconst (v := nI 1) hx hb dL_law_994 (by decide) ?_
    refine lv_iadd hx hb dL_law_995 ?_
    rw [nI_add]
    refine w_scr hx hb hXs hbl hbA hS (4 * k + 1) (by omega) hL2 dL_law_996 ?_
    refine lv_if_eq (tgt := 1004) hx hb dL_law_997 (by decide) (fun _ => ?_) (fun h => absurd hz1 h)
    refine lv_iconst (v := nI 0) hx hb dL_law_1004 (by decide) ?_
    obtain ⟨d1, r, Rm, hd1, hok, ⟨fs0, hxo⟩, hW1, hM1⟩ := sem_isInCheck l (D := D) false k M u H.size hk (fun q hq => hAs q (Nat.le_trans hS.1 hq)) hG
    refine wr_go (wr_runV (As := [.int (bI false)]) (rest := []) hx hb hml hown hts hK hM okV_RL_152_X3_isInCheck hW1 hxo rfl rfl rfl ⟨by show d1 + 1 ≤ 13; omega, by show 8 + (2 + 11) + 40 * d1 ≤ 500; omega⟩ hl.1 rfl (Nat.le_of_ble_eq_true rfl) dL_law_1005 ⟨by show 20 + 6 * k + 0 ≤ 601024; omega, by show 8000 + 100 * k + u + 0 ≤ 7293034; omega⟩) hS (fun M1 H1 locs1 hR1 hHs1 hM hS => ?_)
    obtain ⟨⟨fs1, hmo1⟩, hbs1, hN1⟩ := hM1 M1 hR1
    refine lv_aload_n hx hb dL_law_1008 rfl (lv_at hl 2 rfl) ?_
    refine lv_aload_n hx hb dL_law_1009 rfl (lv_at hl 4 rfl) ?_
    refine lv_iload hx hb dL_law_1010 (lv_at hl 0 rfl) ?_
    refine lv_iconst (v := nI 1) hx hb dL_law_1012 (by decide) ?_
    refine lv_iadd hx hb dL_law_1013 ?_
    rw [nI_add]
    refine w_scr hx hb hXs hbl hbA hS (4 * k + 1) (by omega) hL2 dL_law_1014 ?_
    refine lv_if_eq (tgt := 1022) hx hb dL_law_1015 (by decide) (fun _ => ?_) (fun h => absurd hz1 h)
    refine lv_iconst (v := nI 0) hx hb dL_law_1022 (by decide) ?_
    obtain ⟨d2, Rm2, hd2, hW2, hM2⟩ := hN1 H1.size
    refine wr_go (wr_runV (As := [.int (bI false)]) (rest := [.int r]) hx hb hml hown hts hK hM okV_RL_156_X4_isInCheck hW2 hmo1 rfl rfl rfl ⟨by show d2 + 1 ≤ 13; omega, by show 8 + (2 + 11) + 40 * d2 ≤ 500; omega⟩ hl.1 rfl (Nat.le_of_ble_eq_true rfl) dL_law_1023 ⟨by show 20 + 6 * k + 0 + 0 ≤ 601024; omega, by show 8000 + 100 * k + u + 0 + 0 ≤ 7293034; omega⟩) hS (fun M2 H2 locs2 hR2 hHs2 hM hS => ?_)
    have hG2 := hM2 M2 hR2
    refine lv_icmp_eq (tgt := 1885) hx hb dL_law_1026 (by decide) (fun _ => ?_) (fun h => absurd rfl h)
    exact W.widen (by omega) (by omega) (J M2 (u) _ _ ls hG2 hM hS (lv_sub hl [0, 1, 2, 3, 4] rfl))
  · refine lv_aload_n hx hb dL_law_990 rfl (lv_at hl 3 rfl) ?_
    refine lv_aload_n hx hb dL_law_991 rfl (lv_at hl 4 rfl) ?_
    refine lv_iload hx hb dL_law_992 (lv_at hl 0 rfl) ?_
    refine lv_iconst (v := nI 1) hx hb dL_law_994 (by decide) ?_
    refine lv_iadd hx hb dL_law_995 ?_
    rw [nI_add]
    refine w_scr hx hb hXs hbl hbA hS (4 * k + 1) (by omega) hL2 dL_law_996 ?_
    refine lv_if_eq (tgt := 1004) hx hb dL_law_997 (by decide) (fun h => absurd h hz1) (fun _ => ?_)
    refine lv_iconst (v := nI 1) hx hb dL_law_1000 (by decide) ?_
    refine lv_goto (tgt := 1005) hx hb dL_law_1001 (by decide) ?_
    obtain ⟨d1, r, Rm, hd1, hok, ⟨fs0, hxo⟩, hW1, hM1⟩ := sem_isInCheck l (D := D) true k M u H.size hk (fun q hq => hAs q (Nat.le_trans hS.1 hq)) hG
    refine wr_go (wr_runV (As := [.int (bI true)]) (rest := []) hx hb hml hown hts hK hM okV_RL_152_X3_isInCheck hW1 hxo rfl rfl rfl ⟨by show d1 + 1 ≤ 13; omega, by show 8 + (2 + 11) + 40 * d1 ≤ 500; omega⟩ hl.1 rfl (Nat.le_of_ble_eq_true rfl) dL_law_1005 ⟨by show 20 + 6 * k + 0 ≤ 601024; omega, by show 8000 + 100 * k + u + 0 ≤ 7293034; omega⟩) hS (fun M1 H1 locs1 hR1 hHs1 hM hS => ?_)
    obtain ⟨⟨fs1, hmo1⟩, hbs1, hN1⟩ := hM1 M1 hR1
    refine lv_aload_n hx hb dL_law_1008 rfl (lv_at hl 2 rfl) ?_
    refine lv_aload_n hx hb dL_law_1009 rfl (lv_at hl 4 rfl) ?_
    refine lv_iload hx hb dL_law_1010 (lv_at hl 0 rfl) ?_
    refine lv_iconst (v := nI 1) hx hb dL_law_1012 (by decide) ?_
    refine lv_iadd hx hb dL_law_1013 ?_
    rw [nI_add]
    refine w_scr hx hb hXs hbl hbA hS (4 * k + 1) (by omega) hL2 dL_law_1014 ?_
    refine lv_if_eq (tgt := 1022) hx hb dL_law_1015 (by decide) (fun h => absurd h hz1) (fun _ => ?_)
    refine lv_iconst (v := nI 1) hx hb dL_law_1018 (by decide) ?_
    refine lv_goto (tgt := 1023) hx hb dL_law_1019 (by decide) ?_
    obtain ⟨d2, Rm2, hd2, hW2, hM2⟩ := hN1 H1.size
    refine wr_go (wr_runV (As := [.int (bI true)]) (rest := [.int r]) hx hb hml hown hts hK hM okV_RL_156_X4_isInCheck hW2 hmo1 rfl rfl rfl ⟨by show d2 + 1 ≤ 13; omega, by show 8 + (2 + 11) + 40 * d2 ≤ 500; omega⟩ hl.1 rfl (Nat.le_of_ble_eq_true rfl) dL_law_1023 ⟨by show 20 + 6 * k + 0 + 0 ≤ 601024; omega, by show 8000 + 100 * k + u + 0 + 0 ≤ 7293034; omega⟩) hS (fun M2 H2 locs2 hR2 hHs2 hM hS => ?_)
    have hG2 := hM2 M2 hR2
    refine lv_icmp_eq (tgt := 1885) hx hb dL_law_1026 (by decide) (fun _ => ?_) (fun h => absurd rfl h)
    exact W.widen (by omega) (by omega) (J M2 (u) _ _ ls hG2 hM hS (lv_sub hl [0, 1, 2, 3, 4] rfl))
set_option maxHeartbeats 4000000 in
set_option maxRecDepth 100000 in
theorem law_17 {p : Program} {l : Launch} {e : Env} {s : State} {m : MethodId} {below : List Frame} {meth : Method} {c : Code} {H : Heap} {locs : List Loc} {Q : State → Prop} {ls : Array Slot} {D : va_G} {cI cJ : ClassId} {M : MP} {A : Nat → Prop} {sb L xo mo out : Nat} {xs : Nat → Int32} (S : LSt p l s m c D cI cJ A sb L xs) {k u : Nat} (hk : k < 512) (hL : 4 * k + 4 ≤ L) (hL2 : L ≤ 2048) (hG : GI cI cJ A sb L xs xo mo out k M u) (hM : HM D M H) (hS : va_S A s.heap H locs) (hl : lv_has ls 9 [(4, .int (nI (4 * k))), (3, .ref out), (2, .ref mo), (1, .ref xo), (0, .ref sb)]) (J : LJ p l e s m below meth c D cI cJ A sb L xs xo mo out k Q) : W p l e room_1 s m #[Value.ref sb] below meth c H locs (20 + 6 * k) (8000 + 100 * k + u) Q (F0 m 1031 ls []) := by
  obtain ⟨hx, hb, hml, hown, hts, hK, hX, hl9, hAs, hXs, hbl, hbA⟩ := S
  have hu9 := hG.u_le
  have hbs := hG.scr
  refine lv_aload_n hx hb dL_law_1031 rfl (lv_at hl 3 rfl) ?_
  refine lv_aload_n hx hb dL_law_1032 rfl (lv_at hl 4 rfl) ?_
  refine lv_iload hx hb dL_law_1033 (lv_at hl 0 rfl) ?_
  refine lv_iconst (v := nI 1) hx hb dL_law_1035 (by decide) ?_
  refine lv_iadd hx hb dL_law_1036 ?_
  rw [nI_add]
  refine w_scr hx hb hXs hbl hbA hS (4 * k + 1) (by omega) hL2 dL_law_1037 ?_
  refine lv_aload_n hx hb dL_law_1038 rfl (lv_at hl 1 rfl) ?_
  obtain ⟨d1, mc1, ms1, kk, Rm, hd1, hmc1, hms1, hkk3, hW1, hM1⟩ := semh_legalMoves l hl9 (D := D) (xs (4 * k + 1)) k M u H.size hk (fun q hq => hAs q (Nat.le_trans hS.1 hq)) hG
  refine hc_go (hc_runS (As := [.ref xo, .int (xs (4 * k + 1)), .ref out]) (rest := []) hx hb hml hown hts hK hX hM hS okH_legalMoves hW1 rfl ⟨by show d1 + 1 ≤ 13; omega, by show 8 + (4 + 11) + 40 * d1 ≤ 500; omega⟩ hl.1 rfl (Nat.le_of_ble_eq_true rfl) dL_law_1039 ⟨by show 20 + 6 * k + mc1 ≤ 601024; omega, by show 8000 + 100 * k + u + ms1 ≤ 7293034; omega⟩) hS (fun M1 H1 locs1 hR1 hHs1 hM hS => ?_)
  obtain ⟨⟨fs1, hmo1⟩, hbs1, hN1⟩ := hM1 M1 hR1
  refine lv_istore (lv' := [(5, .int (nI kk)), (4, .int (nI (4 * k))), (3, .ref out), (2, .ref mo), (1, .ref xo), (0, .ref sb)]) hx hb dL_law_1042 hl (by decide) rfl (fun ls hl => ?_)
  refine lv_aload_n hx hb dL_law_1044 rfl (lv_at hl 3 rfl) ?_
  refine lv_aload_n hx hb dL_law_1045 rfl (lv_at hl 5 rfl) ?_
  refine lv_iload hx hb dL_law_1046 (lv_at hl 1 rfl) ?_
  refine lv_iconst (v := nI 1) hx hb dL_law_1048 (by decide) ?_
  refine lv_iadd hx hb dL_law_1049 ?_
  rw [nI_add]
  refine w_scr hx hb hXs hbl hbA hS (4 * k + 1) (by omega) hL2 dL_law_1050 ?_
  obtain ⟨d2, mc2, ms2, r, Rm2, hd2, hmc2, hms2, hW2, hM2⟩ := hN1 H1.size (fun q hq => hAs q (Nat.le_trans hS.1 hq))
  refine wr_go (wr_runV (As := [.int (xs (4 * k + 1))]) (rest := []) hx hb hml hown hts hK hM okV_RL_159_X4_legalMoves hW2 hmo1 rfl rfl rfl ⟨by show d2 + 1 ≤ 13; omega, by show 8 + (5 + 11) + 40 * d2 ≤ 500; omega⟩ hl.1 rfl (Nat.le_of_ble_eq_true rfl) dL_law_1051 ⟨by show 20 + 6 * k + mc1 + mc2 ≤ 601024; omega, by show 8000 + 100 * k + u + ms1 + ms2 ≤ 7293034; omega⟩) hS (fun M2 H2 locs2 hR2 hHs2 hM hS => ?_)
  obtain ⟨hG2, ⟨fs2, hmo2⟩, hth, hbs2, ob, hout2, hob⟩ := hM2 M2 hR2
  refine lv_lstore (lv' := [(6, .long (bL r)), (5, .int (nI kk)), (4, .int (nI (4 * k))), (3, .ref out), (2, .ref mo), (1, .ref xo), (0, .ref sb)]) hx hb dL_law_1054 hl (by decide) rfl (fun ls hl => ?_)
  refine lv_aload_n hx hb dL_law_1056 rfl (lv_at hl 4 rfl) ?_
  refine rd_goI (rd_runV (As := []) (rest := []) hx hb hml hown hts hK hM okV_RL_94_X4_thrown hth hmo2 rfl rfl rfl ⟨Nat.le_of_ble_eq_true rfl, Nat.le_of_ble_eq_true rfl⟩ hl.1 rfl (Nat.le_of_ble_eq_true rfl) dL_law_1057 ⟨by show 20 + 6 * k + mc1 + mc2 ≤ 601024; omega, by show 8000 + 100 * k + u + ms1 + ms2 ≤ 7293034; omega⟩) ?_
  refine lv_iload hx hb dL_law_1060 (lv_at hl 1 rfl) ?_
  refine lv_icmp_eq (tgt := 1067) hx hb dL_law_1062 (by decide) (fun _ => ?_) (fun h => absurd rfl h)
  refine lv_iload hx hb dL_law_1067 (lv_at hl 1 rfl) ?_
  refine lv_if_ne (tgt := 1083) hx hb dL_law_1069 (by decide) (fun hk0 => ?_) (fun hk0 => ?_)
  · refine lv_goto (tgt := 1885) hx hb dL_law_1083 (by decide) ?_
    exact W.widen (by omega) (by omega) (J M2 (u + ms2) _ _ ls hG2 hM hS (lv_sub hl [2, 3, 4, 5, 6] rfl))
  · have hkk : kk = 0 := (nI_eq (by omega) (by decide)).mp (show nI kk = nI 0 from hk0)
    refine lv_aload_n hx hb dL_law_1072 rfl (lv_at hl 3 rfl) ?_
    refine lv_iconst (v := nI 0) hx hb dL_law_1073 (by decide) ?_
    refine w_lald hx hb hK hM hout2 0 (by decide) (by decide) dL_law_1074 ?_
    refine lv_lload hx hb dL_law_1075 (lv_at hl 0 rfl) ?_
    refine lb_ceq (tgt := 1083) (a := (ob 0)) (b := r) hx hb dL_law_1077 dL_law_1078 (by decide) (fun _ => ?_) (fun h => absurd (hob hkk) h)
    refine lv_goto (tgt := 1885) hx hb dL_law_1083 (by decide) ?_
    exact W.widen (by omega) (by omega) (J M2 (u + ms2) _ _ ls hG2 hM hS (lv_sub hl [2, 3, 4, 5, 6] rfl))
set_option maxHeartbeats 4000000 in
set_option maxRecDepth 100000 in
theorem law_18 {p : Program} {l : Launch} {e : Env} {s : State} {m : MethodId} {below : List Frame} {meth : Method} {c : Code} {H : Heap} {locs : List Loc} {Q : State → Prop} {ls : Array Slot} {D : va_G} {cI cJ : ClassId} {M : MP} {A : Nat → Prop} {sb L xo mo out : Nat} {xs : Nat → Int32} (S : LSt p l s m c D cI cJ A sb L xs) {k u : Nat} (hk : k < 512) (hL : 4 * k + 4 ≤ L) (hL2 : L ≤ 2048) (hG : GI cI cJ A sb L xs xo mo out k M u) (hM : HM D M H) (hS : va_S A s.heap H locs) (hl : lv_has ls 9 [(4, .int (nI (4 * k))), (3, .ref out), (2, .ref mo), (1, .ref xo), (0, .ref sb)]) (J : LJ p l e s m below meth c D cI cJ A sb L xs xo mo out k Q) : W p l e room_1 s m #[Value.ref sb] below meth c H locs (20 + 6 * k) (8000 + 100 * k + u) Q (F0 m 1086 ls []) := by
  obtain ⟨hx, hb, hml, hown, hts, hK, hX, hl9, hAs, hXs, hbl, hbA⟩ := S
  have hu9 := hG.u_le
  have hbs := hG.scr
  refine lv_aload_n hx hb dL_law_1086 rfl (lv_at hl 3 rfl) ?_
  obtain ⟨d1, r, Rm, hd1, hok, ⟨fs0, hxo⟩, hW1, hM1⟩ := sem_legalMoveCount l (D := D) k M u H.size hk (fun q hq => hAs q (Nat.le_trans hS.1 hq)) hG
  refine wr_go (wr_runV (As := []) (rest := []) hx hb hml hown hts hK hM okV_RL_160_X3_legalMoveCount hW1 hxo rfl rfl rfl ⟨by show d1 + 1 ≤ 13; omega, by show 8 + (1 + 11) + 40 * d1 ≤ 500; omega⟩ hl.1 rfl (Nat.le_of_ble_eq_true rfl) dL_law_1087 ⟨by show 20 + 6 * k + 0 ≤ 601024; omega, by show 8000 + 100 * k + u + 0 ≤ 7293034; omega⟩) hS (fun M1 H1 locs1 hR1 hHs1 hM hS => ?_)
  obtain ⟨⟨fs1, hmo1⟩, hbs1, hN1⟩ := hM1 M1 hR1
  refine lv_aload_n hx hb dL_law_1090 rfl (lv_at hl 2 rfl) ?_
  obtain ⟨d2, Rm2, hd2, hW2, hM2⟩ := hN1 H1.size
  refine wr_go (wr_runV (As := []) (rest := [.int r]) hx hb hml hown hts hK hM okV_RL_163_X4_legalMoveCount hW2 hmo1 rfl rfl rfl ⟨by show d2 + 1 ≤ 13; omega, by show 8 + (1 + 11) + 40 * d2 ≤ 500; omega⟩ hl.1 rfl (Nat.le_of_ble_eq_true rfl) dL_law_1091 ⟨by show 20 + 6 * k + 0 + 0 ≤ 601024; omega, by show 8000 + 100 * k + u + 0 + 0 ≤ 7293034; omega⟩) hS (fun M2 H2 locs2 hR2 hHs2 hM hS => ?_)
  have hG2 := hM2 M2 hR2
  refine lv_icmp_eq (tgt := 1885) hx hb dL_law_1094 (by decide) (fun _ => ?_) (fun h => absurd rfl h)
  exact W.widen (by omega) (by omega) (J M2 (u) _ _ ls hG2 hM hS (lv_sub hl [0, 1, 2, 3, 4] rfl))
set_option maxHeartbeats 4000000 in
set_option maxRecDepth 100000 in
theorem law_19 {p : Program} {l : Launch} {e : Env} {s : State} {m : MethodId} {below : List Frame} {meth : Method} {c : Code} {H : Heap} {locs : List Loc} {Q : State → Prop} {ls : Array Slot} {D : va_G} {cI cJ : ClassId} {M : MP} {A : Nat → Prop} {sb L xo mo out : Nat} {xs : Nat → Int32} (S : LSt p l s m c D cI cJ A sb L xs) {k u : Nat} (hk : k < 512) (hL : 4 * k + 4 ≤ L) (hL2 : L ≤ 2048) (hG : GI cI cJ A sb L xs xo mo out k M u) (hM : HM D M H) (hS : va_S A s.heap H locs) (hl : lv_has ls 9 [(4, .int (nI (4 * k))), (3, .ref out), (2, .ref mo), (1, .ref xo), (0, .ref sb)]) (J : LJ p l e s m below meth c D cI cJ A sb L xs xo mo out k Q) : W p l e room_1 s m #[Value.ref sb] below meth c H locs (20 + 6 * k) (8000 + 100 * k + u) Q (F0 m 1099 ls []) := by
  obtain ⟨hx, hb, hml, hown, hts, hK, hX, hl9, hAs, hXs, hbl, hbA⟩ := S
  have hu9 := hG.u_le
  have hbs := hG.scr
  refine lv_aload_n hx hb dL_law_1099 rfl (lv_at hl 3 rfl) ?_
  refine lv_aload_n hx hb dL_law_1100 rfl (lv_at hl 4 rfl) ?_
  refine lv_iload hx hb dL_law_1101 (lv_at hl 0 rfl) ?_
  refine lv_iconst (v := nI 1) hx hb dL_law_1103 (by decide) ?_
  refine lv_iadd hx hb dL_law_1104 ?_
  rw [nI_add]
  refine w_scr hx hb hXs hbl hbA hS (4 * k + 1) (by omega) hL2 dL_law_1105 ?_
  refine lv_aload_n hx hb dL_law_1106 rfl (lv_at hl 4 rfl) ?_
  refine lv_iload hx hb dL_law_1107 (lv_at hl 0 rfl) ?_
  refine lv_iconst (v := nI 2) hx hb dL_law_1109 (by decide) ?_
  refine lv_iadd hx hb dL_law_1110 ?_
  rw [nI_add]
  refine w_scr hx hb hXs hbl hbA hS (4 * k + 2) (by omega) hL2 dL_law_1111 ?_
  refine lv_aload_n hx hb dL_law_1112 rfl (lv_at hl 1 rfl) ?_
  obtain ⟨d1, mc1, ms1, kk, Rm, hd1, hmc1, hms1, hkk3, hW1, hM1⟩ := semh_moveRefusal l hl9 (D := D) (xs (4 * k + 1)) (xs (4 * k + 2)) k M u H.size hk (fun q hq => hAs q (Nat.le_trans hS.1 hq)) hG
  refine hc_go (hc_runS (As := [.ref xo, .int (xs (4 * k + 1)), .int (xs (4 * k + 2)), .ref out]) (rest := []) hx hb hml hown hts hK hX hM hS okH_moveRefusal hW1 rfl ⟨by show d1 + 1 ≤ 13; omega, by show 8 + (5 + 11) + 40 * d1 ≤ 500; omega⟩ hl.1 rfl (Nat.le_of_ble_eq_true rfl) dL_law_1113 ⟨by show 20 + 6 * k + mc1 ≤ 601024; omega, by show 8000 + 100 * k + u + ms1 ≤ 7293034; omega⟩) hS (fun M1 H1 locs1 hR1 hHs1 hM hS => ?_)
  obtain ⟨⟨fs1, hmo1⟩, hbs1, hN1⟩ := hM1 M1 hR1
  refine lv_istore (lv' := [(5, .int (nI kk)), (4, .int (nI (4 * k))), (3, .ref out), (2, .ref mo), (1, .ref xo), (0, .ref sb)]) hx hb dL_law_1116 hl (by decide) rfl (fun ls hl => ?_)
  refine lv_aload_n hx hb dL_law_1118 rfl (lv_at hl 3 rfl) ?_
  refine lv_aload_n hx hb dL_law_1119 rfl (lv_at hl 5 rfl) ?_
  refine lv_iload hx hb dL_law_1120 (lv_at hl 1 rfl) ?_
  refine lv_iconst (v := nI 1) hx hb dL_law_1122 (by decide) ?_
  refine lv_iadd hx hb dL_law_1123 ?_
  rw [nI_add]
  refine w_scr hx hb hXs hbl hbA hS (4 * k + 1) (by omega) hL2 dL_law_1124 ?_
  refine lv_aload_n hx hb dL_law_1125 rfl (lv_at hl 5 rfl) ?_
  refine lv_iload hx hb dL_law_1126 (lv_at hl 1 rfl) ?_
  refine lv_iconst (v := nI 2) hx hb dL_law_1128 (by decide) ?_
  refine lv_iadd hx hb dL_law_1129 ?_
  rw [nI_add]
  refine w_scr hx hb hXs hbl hbA hS (4 * k + 2) (by omega) hL2 dL_law_1130 ?_
  obtain ⟨d2, mc2, ms2, r, Rm2, hd2, hmc2, hms2, hW2, hM2⟩ := hN1 H1.size (fun q hq => hAs q (Nat.le_trans hS.1 hq))
  refine wr_go (wr_runV (As := [.int (xs (4 * k + 1)), .int (xs (4 * k + 2))]) (rest := []) hx hb hml hown hts hK hM okV_RL_166_X4_moveRefusal hW2 hmo1 rfl rfl rfl ⟨by show d2 + 1 ≤ 13; omega, by show 8 + (3 + 11) + 40 * d2 ≤ 500; omega⟩ hl.1 rfl (Nat.le_of_ble_eq_true rfl) dL_law_1131 ⟨by show 20 + 6 * k + mc1 + mc2 ≤ 601024; omega, by show 8000 + 100 * k + u + ms1 + ms2 ≤ 7293034; omega⟩) hS (fun M2 H2 locs2 hR2 hHs2 hM hS => ?_)
  obtain ⟨hG2, ⟨fs2, hmo2⟩, hth, hbs2, ob, hout2, hob⟩ := hM2 M2 hR2
  refine lv_istore (lv' := [(6, .int r), (5, .int (nI kk)), (4, .int (nI (4 * k))), (3, .ref out), (2, .ref mo), (1, .ref xo), (0, .ref sb)]) hx hb dL_law_1134 hl (by decide) rfl (fun ls hl => ?_)
  refine lv_aload_n hx hb dL_law_1136 rfl (lv_at hl 4 rfl) ?_
  refine rd_goI (rd_runV (As := []) (rest := []) hx hb hml hown hts hK hM okV_RL_94_X4_thrown hth hmo2 rfl rfl rfl ⟨Nat.le_of_ble_eq_true rfl, Nat.le_of_ble_eq_true rfl⟩ hl.1 rfl (Nat.le_of_ble_eq_true rfl) dL_law_1137 ⟨by show 20 + 6 * k + mc1 + mc2 ≤ 601024; omega, by show 8000 + 100 * k + u + ms1 + ms2 ≤ 7293034; omega⟩) ?_
  refine lv_iload hx hb dL_law_1140 (lv_at hl 1 rfl) ?_
  refine lv_icmp_eq (tgt := 1147) hx hb dL_law_1142 (by decide) (fun _ => ?_) (fun h => absurd rfl h)
  refine lv_iload hx hb dL_law_1147 (lv_at hl 1 rfl) ?_
  refine lv_if_ne (tgt := 1164) hx hb dL_law_1149 (by decide) (fun hk0 => ?_) (fun hk0 => ?_)
  · refine lv_goto (tgt := 1885) hx hb dL_law_1164 (by decide) ?_
    exact W.widen (by omega) (by omega) (J M2 (u + ms2) _ _ ls hG2 hM hS (lv_sub hl [2, 3, 4, 5, 6] rfl))
  · have hkk : kk = 0 := (nI_eq (by omega) (by decide)).mp (show nI kk = nI 0 from hk0)
    refine lv_aload_n hx hb dL_law_1152 rfl (lv_at hl 3 rfl) ?_
    refine lv_iconst (v := nI 0) hx hb dL_law_1153 (by decide) ?_
    refine w_lald hx hb hK hM hout2 0 (by decide) (by decide) dL_law_1154 ?_
    refine lv_iload hx hb dL_law_1155 (lv_at hl 0 rfl) ?_
    refine w_i2l hx hb dL_law_1157 ?_
    refine lb_ceq (tgt := 1164) (a := (ob 0)) (b := r.toInt64.toBitVec) hx hb dL_law_1158 dL_law_1159 (by decide) (fun _ => ?_) (fun h => absurd (hob hkk) h)
    refine lv_goto (tgt := 1885) hx hb dL_law_1164 (by decide) ?_
    exact W.widen (by omega) (by omega) (J M2 (u + ms2) _ _ ls hG2 hM hS (lv_sub hl [2, 3, 4, 5, 6] rfl))
set_option maxHeartbeats 4000000 in
set_option maxRecDepth 100000 in
theorem law_20 {p : Program} {l : Launch} {e : Env} {s : State} {m : MethodId} {below : List Frame} {meth : Method} {c : Code} {H : Heap} {locs : List Loc} {Q : State → Prop} {ls : Array Slot} {D : va_G} {cI cJ : ClassId} {M : MP} {A : Nat → Prop} {sb L xo mo out : Nat} {xs : Nat → Int32} (S : LSt p l s m c D cI cJ A sb L xs) {k u : Nat} (hk : k < 512) (hL : 4 * k + 4 ≤ L) (hL2 : L ≤ 2048) (hG : GI cI cJ A sb L xs xo mo out k M u) (hM : HM D M H) (hS : va_S A s.heap H locs) (hl : lv_has ls 9 [(4, .int (nI (4 * k))), (3, .ref out), (2, .ref mo), (1, .ref xo), (0, .ref sb)]) (J : LJ p l e s m below meth c D cI cJ A sb L xs xo mo out k Q) : W p l e room_1 s m #[Value.ref sb] below meth c H locs (20 + 6 * k) (8000 + 100 * k + u) Q (F0 m 1167 ls []) := by
  obtain ⟨hx, hb, hml, hown, hts, hK, hX, hl9, hAs, hXs, hbl, hbA⟩ := S
  have hu9 := hG.u_le
  have hbs := hG.scr
  refine lv_aload_n hx hb dL_law_1167 rfl (lv_at hl 3 rfl) ?_
  refine lv_aload_n hx hb dL_law_1168 rfl (lv_at hl 4 rfl) ?_
  refine lv_iload hx hb dL_law_1169 (lv_at hl 0 rfl) ?_
  refine lv_iconst (v := nI 1) hx hb dL_law_1171 (by decide) ?_
  refine lv_iadd hx hb dL_law_1172 ?_
  rw [nI_add]
  refine w_scr hx hb hXs hbl hbA hS (4 * k + 1) (by omega) hL2 dL_law_1173 ?_
  refine lv_aload_n hx hb dL_law_1174 rfl (lv_at hl 4 rfl) ?_
  refine lv_iload hx hb dL_law_1175 (lv_at hl 0 rfl) ?_
  refine lv_iconst (v := nI 2) hx hb dL_law_1177 (by decide) ?_
  refine lv_iadd hx hb dL_law_1178 ?_
  rw [nI_add]
  refine w_scr hx hb hXs hbl hbA hS (4 * k + 2) (by omega) hL2 dL_law_1179 ?_
  refine lv_aload_n hx hb dL_law_1180 rfl (lv_at hl 1 rfl) ?_
  obtain ⟨d1, mc1, ms1, kk, Rm, hd1, hmc1, hms1, hkk3, hW1, hM1⟩ := semh_bondRefusal l hl9 (D := D) (xs (4 * k + 1)) (xs (4 * k + 2)) k M u H.size hk (fun q hq => hAs q (Nat.le_trans hS.1 hq)) hG
  refine hc_go (hc_runS (As := [.ref xo, .int (xs (4 * k + 1)), .int (xs (4 * k + 2)), .ref out]) (rest := []) hx hb hml hown hts hK hX hM hS okH_bondRefusal hW1 rfl ⟨by show d1 + 1 ≤ 13; omega, by show 8 + (5 + 11) + 40 * d1 ≤ 500; omega⟩ hl.1 rfl (Nat.le_of_ble_eq_true rfl) dL_law_1181 ⟨by show 20 + 6 * k + mc1 ≤ 601024; omega, by show 8000 + 100 * k + u + ms1 ≤ 7293034; omega⟩) hS (fun M1 H1 locs1 hR1 hHs1 hM hS => ?_)
  obtain ⟨⟨fs1, hmo1⟩, hbs1, hN1⟩ := hM1 M1 hR1
  refine lv_istore (lv' := [(5, .int (nI kk)), (4, .int (nI (4 * k))), (3, .ref out), (2, .ref mo), (1, .ref xo), (0, .ref sb)]) hx hb dL_law_1184 hl (by decide) rfl (fun ls hl => ?_)
  refine lv_aload_n hx hb dL_law_1186 rfl (lv_at hl 3 rfl) ?_
  refine lv_aload_n hx hb dL_law_1187 rfl (lv_at hl 5 rfl) ?_
  refine lv_iload hx hb dL_law_1188 (lv_at hl 1 rfl) ?_
  refine lv_iconst (v := nI 1) hx hb dL_law_1190 (by decide) ?_
  refine lv_iadd hx hb dL_law_1191 ?_
  rw [nI_add]
  refine w_scr hx hb hXs hbl hbA hS (4 * k + 1) (by omega) hL2 dL_law_1192 ?_
  refine lv_aload_n hx hb dL_law_1193 rfl (lv_at hl 5 rfl) ?_
  refine lv_iload hx hb dL_law_1194 (lv_at hl 1 rfl) ?_
  refine lv_iconst (v := nI 2) hx hb dL_law_1196 (by decide) ?_
  refine lv_iadd hx hb dL_law_1197 ?_
  rw [nI_add]
  refine w_scr hx hb hXs hbl hbA hS (4 * k + 2) (by omega) hL2 dL_law_1198 ?_
  obtain ⟨d2, mc2, ms2, r, Rm2, hd2, hmc2, hms2, hW2, hM2⟩ := hN1 H1.size (fun q hq => hAs q (Nat.le_trans hS.1 hq))
  refine wr_go (wr_runV (As := [.int (xs (4 * k + 1)), .int (xs (4 * k + 2))]) (rest := []) hx hb hml hown hts hK hM okV_RL_169_X4_bondRefusal hW2 hmo1 rfl rfl rfl ⟨by show d2 + 1 ≤ 13; omega, by show 8 + (3 + 11) + 40 * d2 ≤ 500; omega⟩ hl.1 rfl (Nat.le_of_ble_eq_true rfl) dL_law_1199 ⟨by show 20 + 6 * k + mc1 + mc2 ≤ 601024; omega, by show 8000 + 100 * k + u + ms1 + ms2 ≤ 7293034; omega⟩) hS (fun M2 H2 locs2 hR2 hHs2 hM hS => ?_)
  obtain ⟨hG2, ⟨fs2, hmo2⟩, hth, hbs2, ob, hout2, hob⟩ := hM2 M2 hR2
  refine lv_istore (lv' := [(6, .int r), (5, .int (nI kk)), (4, .int (nI (4 * k))), (3, .ref out), (2, .ref mo), (1, .ref xo), (0, .ref sb)]) hx hb dL_law_1202 hl (by decide) rfl (fun ls hl => ?_)
  refine lv_aload_n hx hb dL_law_1204 rfl (lv_at hl 4 rfl) ?_
  refine rd_goI (rd_runV (As := []) (rest := []) hx hb hml hown hts hK hM okV_RL_94_X4_thrown hth hmo2 rfl rfl rfl ⟨Nat.le_of_ble_eq_true rfl, Nat.le_of_ble_eq_true rfl⟩ hl.1 rfl (Nat.le_of_ble_eq_true rfl) dL_law_1205 ⟨by show 20 + 6 * k + mc1 + mc2 ≤ 601024; omega, by show 8000 + 100 * k + u + ms1 + ms2 ≤ 7293034; omega⟩) ?_
  refine lv_iload hx hb dL_law_1208 (lv_at hl 1 rfl) ?_
  refine lv_icmp_eq (tgt := 1215) hx hb dL_law_1210 (by decide) (fun _ => ?_) (fun h => absurd rfl h)
  refine lv_iload hx hb dL_law_1215 (lv_at hl 1 rfl) ?_
  refine lv_if_ne (tgt := 1232) hx hb dL_law_1217 (by decide) (fun hk0 => ?_) (fun hk0 => ?_)
  · refine lv_goto (tgt := 1885) hx hb dL_law_1232 (by decide) ?_
    exact W.widen (by omega) (by omega) (J M2 (u + ms2) _ _ ls hG2 hM hS (lv_sub hl [2, 3, 4, 5, 6] rfl))
  · have hkk : kk = 0 := (nI_eq (by omega) (by decide)).mp (show nI kk = nI 0 from hk0)
    refine lv_aload_n hx hb dL_law_1220 rfl (lv_at hl 3 rfl) ?_
    refine lv_iconst (v := nI 0) hx hb dL_law_1221 (by decide) ?_
    refine w_lald hx hb hK hM hout2 0 (by decide) (by decide) dL_law_1222 ?_
    refine lv_iload hx hb dL_law_1223 (lv_at hl 0 rfl) ?_
    refine w_i2l hx hb dL_law_1225 ?_
    refine lb_ceq (tgt := 1232) (a := (ob 0)) (b := r.toInt64.toBitVec) hx hb dL_law_1226 dL_law_1227 (by decide) (fun _ => ?_) (fun h => absurd (hob hkk) h)
    refine lv_goto (tgt := 1885) hx hb dL_law_1232 (by decide) ?_
    exact W.widen (by omega) (by omega) (J M2 (u + ms2) _ _ ls hG2 hM hS (lv_sub hl [2, 3, 4, 5, 6] rfl))
set_option maxHeartbeats 4000000 in
set_option maxRecDepth 100000 in
theorem law_21 {p : Program} {l : Launch} {e : Env} {s : State} {m : MethodId} {below : List Frame} {meth : Method} {c : Code} {H : Heap} {locs : List Loc} {Q : State → Prop} {ls : Array Slot} {D : va_G} {cI cJ : ClassId} {M : MP} {A : Nat → Prop} {sb L xo mo out : Nat} {xs : Nat → Int32} (S : LSt p l s m c D cI cJ A sb L xs) {k u : Nat} (hk : k < 512) (hL : 4 * k + 4 ≤ L) (hL2 : L ≤ 2048) (hG : GI cI cJ A sb L xs xo mo out k M u) (hM : HM D M H) (hS : va_S A s.heap H locs) (hl : lv_has ls 9 [(4, .int (nI (4 * k))), (3, .ref out), (2, .ref mo), (1, .ref xo), (0, .ref sb)]) (J : LJ p l e s m below meth c D cI cJ A sb L xs xo mo out k Q) : W p l e room_1 s m #[Value.ref sb] below meth c H locs (20 + 6 * k) (8000 + 100 * k + u) Q (F0 m 1235 ls []) := by
  obtain ⟨hx, hb, hml, hown, hts, hK, hX, hl9, hAs, hXs, hbl, hbA⟩ := S
  have hu9 := hG.u_le
  have hbs := hG.scr
  refine lv_aload_n hx hb dL_law_1235 rfl (lv_at hl 3 rfl) ?_
  refine lv_aload_n hx hb dL_law_1236 rfl (lv_at hl 4 rfl) ?_
  refine lv_iload hx hb dL_law_1237 (lv_at hl 0 rfl) ?_
  refine lv_iconst (v := nI 1) hx hb dL_law_1239 (by decide) ?_
  refine lv_iadd hx hb dL_law_1240 ?_
  rw [nI_add]
  refine w_scr hx hb hXs hbl hbA hS (4 * k + 1) (by omega) hL2 dL_law_1241 ?_
  refine lv_aload_n hx hb dL_law_1242 rfl (lv_at hl 1 rfl) ?_
  obtain ⟨d1, mc1, ms1, kk, Rm, hd1, hmc1, hms1, hkk3, hW1, hM1⟩ := semh_dissolveRefusal l hl9 (D := D) (xs (4 * k + 1)) k M u H.size hk (fun q hq => hAs q (Nat.le_trans hS.1 hq)) hG
  refine hc_go (hc_runS (As := [.ref xo, .int (xs (4 * k + 1)), .ref out]) (rest := []) hx hb hml hown hts hK hX hM hS okH_dissolveRefusal hW1 rfl ⟨by show d1 + 1 ≤ 13; omega, by show 8 + (4 + 11) + 40 * d1 ≤ 500; omega⟩ hl.1 rfl (Nat.le_of_ble_eq_true rfl) dL_law_1243 ⟨by show 20 + 6 * k + mc1 ≤ 601024; omega, by show 8000 + 100 * k + u + ms1 ≤ 7293034; omega⟩) hS (fun M1 H1 locs1 hR1 hHs1 hM hS => ?_)
  obtain ⟨⟨fs1, hmo1⟩, hbs1, hN1⟩ := hM1 M1 hR1
  refine lv_istore (lv' := [(5, .int (nI kk)), (4, .int (nI (4 * k))), (3, .ref out), (2, .ref mo), (1, .ref xo), (0, .ref sb)]) hx hb dL_law_1246 hl (by decide) rfl (fun ls hl => ?_)
  refine lv_aload_n hx hb dL_law_1248 rfl (lv_at hl 3 rfl) ?_
  refine lv_aload_n hx hb dL_law_1249 rfl (lv_at hl 5 rfl) ?_
  refine lv_iload hx hb dL_law_1250 (lv_at hl 1 rfl) ?_
  refine lv_iconst (v := nI 1) hx hb dL_law_1252 (by decide) ?_
  refine lv_iadd hx hb dL_law_1253 ?_
  rw [nI_add]
  refine w_scr hx hb hXs hbl hbA hS (4 * k + 1) (by omega) hL2 dL_law_1254 ?_
  obtain ⟨d2, mc2, ms2, r, Rm2, hd2, hmc2, hms2, hW2, hM2⟩ := hN1 H1.size (fun q hq => hAs q (Nat.le_trans hS.1 hq))
  refine wr_go (wr_runV (As := [.int (xs (4 * k + 1))]) (rest := []) hx hb hml hown hts hK hM okV_RL_172_X4_dissolveRefusal hW2 hmo1 rfl rfl rfl ⟨by show d2 + 1 ≤ 13; omega, by show 8 + (2 + 11) + 40 * d2 ≤ 500; omega⟩ hl.1 rfl (Nat.le_of_ble_eq_true rfl) dL_law_1255 ⟨by show 20 + 6 * k + mc1 + mc2 ≤ 601024; omega, by show 8000 + 100 * k + u + ms1 + ms2 ≤ 7293034; omega⟩) hS (fun M2 H2 locs2 hR2 hHs2 hM hS => ?_)
  obtain ⟨hG2, ⟨fs2, hmo2⟩, hth, hbs2, ob, hout2, hob⟩ := hM2 M2 hR2
  refine lv_istore (lv' := [(6, .int r), (5, .int (nI kk)), (4, .int (nI (4 * k))), (3, .ref out), (2, .ref mo), (1, .ref xo), (0, .ref sb)]) hx hb dL_law_1258 hl (by decide) rfl (fun ls hl => ?_)
  refine lv_aload_n hx hb dL_law_1260 rfl (lv_at hl 4 rfl) ?_
  refine rd_goI (rd_runV (As := []) (rest := []) hx hb hml hown hts hK hM okV_RL_94_X4_thrown hth hmo2 rfl rfl rfl ⟨Nat.le_of_ble_eq_true rfl, Nat.le_of_ble_eq_true rfl⟩ hl.1 rfl (Nat.le_of_ble_eq_true rfl) dL_law_1261 ⟨by show 20 + 6 * k + mc1 + mc2 ≤ 601024; omega, by show 8000 + 100 * k + u + ms1 + ms2 ≤ 7293034; omega⟩) ?_
  refine lv_iload hx hb dL_law_1264 (lv_at hl 1 rfl) ?_
  refine lv_icmp_eq (tgt := 1271) hx hb dL_law_1266 (by decide) (fun _ => ?_) (fun h => absurd rfl h)
  refine lv_iload hx hb dL_law_1271 (lv_at hl 1 rfl) ?_
  refine lv_if_ne (tgt := 1288) hx hb dL_law_1273 (by decide) (fun hk0 => ?_) (fun hk0 => ?_)
  · refine lv_goto (tgt := 1885) hx hb dL_law_1288 (by decide) ?_
    exact W.widen (by omega) (by omega) (J M2 (u + ms2) _ _ ls hG2 hM hS (lv_sub hl [2, 3, 4, 5, 6] rfl))
  · have hkk : kk = 0 := (nI_eq (by omega) (by decide)).mp (show nI kk = nI 0 from hk0)
    refine lv_aload_n hx hb dL_law_1276 rfl (lv_at hl 3 rfl) ?_
    refine lv_iconst (v := nI 0) hx hb dL_law_1277 (by decide) ?_
    refine w_lald hx hb hK hM hout2 0 (by decide) (by decide) dL_law_1278 ?_
    refine lv_iload hx hb dL_law_1279 (lv_at hl 0 rfl) ?_
    refine w_i2l hx hb dL_law_1281 ?_
    refine lb_ceq (tgt := 1288) (a := (ob 0)) (b := r.toInt64.toBitVec) hx hb dL_law_1282 dL_law_1283 (by decide) (fun _ => ?_) (fun h => absurd (hob hkk) h)
    refine lv_goto (tgt := 1885) hx hb dL_law_1288 (by decide) ?_
    exact W.widen (by omega) (by omega) (J M2 (u + ms2) _ _ ls hG2 hM hS (lv_sub hl [2, 3, 4, 5, 6] rfl))
set_option maxHeartbeats 4000000 in
set_option maxRecDepth 100000 in
theorem law_22 {p : Program} {l : Launch} {e : Env} {s : State} {m : MethodId} {below : List Frame} {meth : Method} {c : Code} {H : Heap} {locs : List Loc} {Q : State → Prop} {ls : Array Slot} {D : va_G} {cI cJ : ClassId} {M : MP} {A : Nat → Prop} {sb L xo mo out : Nat} {xs : Nat → Int32} (S : LSt p l s m c D cI cJ A sb L xs) {k u : Nat} (hk : k < 512) (hL : 4 * k + 4 ≤ L) (hL2 : L ≤ 2048) (hG : GI cI cJ A sb L xs xo mo out k M u) (hM : HM D M H) (hS : va_S A s.heap H locs) (hl : lv_has ls 9 [(4, .int (nI (4 * k))), (3, .ref out), (2, .ref mo), (1, .ref xo), (0, .ref sb)]) (J : LJ p l e s m below meth c D cI cJ A sb L xs xo mo out k Q) : W p l e room_1 s m #[Value.ref sb] below meth c H locs (20 + 6 * k) (8000 + 100 * k + u) Q (F0 m 1291 ls []) := by
  obtain ⟨hx, hb, hml, hown, hts, hK, hX, hl9, hAs, hXs, hbl, hbA⟩ := S
  have hu9 := hG.u_le
  have hbs := hG.scr
  refine lv_aload_n hx hb dL_law_1291 rfl (lv_at hl 3 rfl) ?_
  obtain ⟨d1, r, Rm, hd1, hok, ⟨fs0, hxo⟩, hW1, hM1⟩ := sem_matingMove l (D := D) k M u H.size hk (fun q hq => hAs q (Nat.le_trans hS.1 hq)) hG
  refine wr_go (wr_runV (As := []) (rest := []) hx hb hml hown hts hK hM okV_RL_173_X3_matingMove hW1 hxo rfl rfl rfl ⟨by show d1 + 1 ≤ 13; omega, by show 8 + (8 + 11) + 40 * d1 ≤ 500; omega⟩ hl.1 rfl (Nat.le_of_ble_eq_true rfl) dL_law_1292 ⟨by show 20 + 6 * k + 0 ≤ 601024; omega, by show 8000 + 100 * k + u + 0 ≤ 7293034; omega⟩) hS (fun M1 H1 locs1 hR1 hHs1 hM hS => ?_)
  obtain ⟨⟨fs1, hmo1⟩, hbs1, hN1⟩ := hM1 M1 hR1
  refine lv_aload_n hx hb dL_law_1295 rfl (lv_at hl 2 rfl) ?_
  obtain ⟨d2, Rm2, hd2, hW2, hM2⟩ := hN1 H1.size
  refine wr_go (wr_runV (As := []) (rest := [.int r]) hx hb hml hown hts hK hM okV_RL_176_X4_matingMove hW2 hmo1 rfl rfl rfl ⟨by show d2 + 1 ≤ 13; omega, by show 8 + (2 + 11) + 40 * d2 ≤ 500; omega⟩ hl.1 rfl (Nat.le_of_ble_eq_true rfl) dL_law_1296 ⟨by show 20 + 6 * k + 0 + 0 ≤ 601024; omega, by show 8000 + 100 * k + u + 0 + 0 ≤ 7293034; omega⟩) hS (fun M2 H2 locs2 hR2 hHs2 hM hS => ?_)
  have hG2 := hM2 M2 hR2
  refine lv_icmp_eq (tgt := 1885) hx hb dL_law_1299 (by decide) (fun _ => ?_) (fun h => absurd rfl h)
  exact W.widen (by omega) (by omega) (J M2 (u) _ _ ls hG2 hM hS (lv_sub hl [0, 1, 2, 3, 4] rfl))
set_option maxHeartbeats 4000000 in
set_option maxRecDepth 100000 in
theorem law_23 {p : Program} {l : Launch} {e : Env} {s : State} {m : MethodId} {below : List Frame} {meth : Method} {c : Code} {H : Heap} {locs : List Loc} {Q : State → Prop} {ls : Array Slot} {D : va_G} {cI cJ : ClassId} {M : MP} {A : Nat → Prop} {sb L xo mo out : Nat} {xs : Nat → Int32} (S : LSt p l s m c D cI cJ A sb L xs) {k u : Nat} (hk : k < 512) (hL : 4 * k + 4 ≤ L) (hL2 : L ≤ 2048) (hG : GI cI cJ A sb L xs xo mo out k M u) (hM : HM D M H) (hS : va_S A s.heap H locs) (hl : lv_has ls 9 [(4, .int (nI (4 * k))), (3, .ref out), (2, .ref mo), (1, .ref xo), (0, .ref sb)]) (J : LJ p l e s m below meth c D cI cJ A sb L xs xo mo out k Q) : W p l e room_1 s m #[Value.ref sb] below meth c H locs (20 + 6 * k) (8000 + 100 * k + u) Q (F0 m 1304 ls []) := by
  obtain ⟨hx, hb, hml, hown, hts, hK, hX, hl9, hAs, hXs, hbl, hbA⟩ := S
  have hu9 := hG.u_le
  have hbs := hG.scr
  refine lv_aload_n hx hb dL_law_1304 rfl (lv_at hl 3 rfl) ?_
  refine lv_aload_n hx hb dL_law_1305 rfl (lv_at hl 4 rfl) ?_
  refine lv_iload hx hb dL_law_1306 (lv_at hl 0 rfl) ?_
  refine lv_iconst (v := nI 1) hx hb dL_law_1308 (by decide) ?_
  refine lv_iadd hx hb dL_law_1309 ?_
  rw [nI_add]
  refine w_scr hx hb hXs hbl hbA hS (4 * k + 1) (by omega) hL2 dL_law_1310 ?_
  refine lv_aload_n hx hb dL_law_1311 rfl (lv_at hl 1 rfl) ?_
  obtain ⟨d1, mc1, ms1, kk, Rm, hd1, hmc1, hms1, hkk3, hW1, hM1⟩ := semh_countSequences l hl9 (D := D) (xs (4 * k + 1)) k M u H.size hk (fun q hq => hAs q (Nat.le_trans hS.1 hq)) hG
  refine hc_go (hc_runS (As := [.ref xo, .int (xs (4 * k + 1)), .ref out]) (rest := []) hx hb hml hown hts hK hX hM hS okH_countSequences hW1 rfl ⟨by show d1 + 1 ≤ 13; omega, by show 8 + (4 + 11) + 40 * d1 ≤ 500; omega⟩ hl.1 rfl (Nat.le_of_ble_eq_true rfl) dL_law_1312 ⟨by show 20 + 6 * k + mc1 ≤ 601024; omega, by show 8000 + 100 * k + u + ms1 ≤ 7293034; omega⟩) hS (fun M1 H1 locs1 hR1 hHs1 hM hS => ?_)
  obtain ⟨⟨fs1, hmo1⟩, hbs1, hN1⟩ := hM1 M1 hR1
  refine lv_istore (lv' := [(5, .int (nI kk)), (4, .int (nI (4 * k))), (3, .ref out), (2, .ref mo), (1, .ref xo), (0, .ref sb)]) hx hb dL_law_1315 hl (by decide) rfl (fun ls hl => ?_)
  refine lv_aload_n hx hb dL_law_1317 rfl (lv_at hl 3 rfl) ?_
  refine lv_aload_n hx hb dL_law_1318 rfl (lv_at hl 5 rfl) ?_
  refine lv_iload hx hb dL_law_1319 (lv_at hl 1 rfl) ?_
  refine lv_iconst (v := nI 1) hx hb dL_law_1321 (by decide) ?_
  refine lv_iadd hx hb dL_law_1322 ?_
  rw [nI_add]
  refine w_scr hx hb hXs hbl hbA hS (4 * k + 1) (by omega) hL2 dL_law_1323 ?_
  obtain ⟨d2, mc2, ms2, r, Rm2, hd2, hmc2, hms2, hW2, hM2⟩ := hN1 H1.size (fun q hq => hAs q (Nat.le_trans hS.1 hq))
  refine wr_go (wr_runV (As := [.int (xs (4 * k + 1))]) (rest := []) hx hb hml hown hts hK hM okV_RL_179_X4_countSequences hW2 hmo1 rfl rfl rfl ⟨by show d2 + 1 ≤ 13; omega, by show 8 + (4 + 11) + 40 * d2 ≤ 500; omega⟩ hl.1 rfl (Nat.le_of_ble_eq_true rfl) dL_law_1324 ⟨by show 20 + 6 * k + mc1 + mc2 ≤ 601024; omega, by show 8000 + 100 * k + u + ms1 + ms2 ≤ 7293034; omega⟩) hS (fun M2 H2 locs2 hR2 hHs2 hM hS => ?_)
  obtain ⟨hG2, ⟨fs2, hmo2⟩, hth, hbs2, ob, hout2, hob⟩ := hM2 M2 hR2
  refine lv_istore (lv' := [(6, .int r), (5, .int (nI kk)), (4, .int (nI (4 * k))), (3, .ref out), (2, .ref mo), (1, .ref xo), (0, .ref sb)]) hx hb dL_law_1327 hl (by decide) rfl (fun ls hl => ?_)
  refine lv_aload_n hx hb dL_law_1329 rfl (lv_at hl 4 rfl) ?_
  refine rd_goI (rd_runV (As := []) (rest := []) hx hb hml hown hts hK hM okV_RL_94_X4_thrown hth hmo2 rfl rfl rfl ⟨Nat.le_of_ble_eq_true rfl, Nat.le_of_ble_eq_true rfl⟩ hl.1 rfl (Nat.le_of_ble_eq_true rfl) dL_law_1330 ⟨by show 20 + 6 * k + mc1 + mc2 ≤ 601024; omega, by show 8000 + 100 * k + u + ms1 + ms2 ≤ 7293034; omega⟩) ?_
  refine lv_iload hx hb dL_law_1333 (lv_at hl 1 rfl) ?_
  refine lv_icmp_eq (tgt := 1340) hx hb dL_law_1335 (by decide) (fun _ => ?_) (fun h => absurd rfl h)
  refine lv_iload hx hb dL_law_1340 (lv_at hl 1 rfl) ?_
  refine lv_if_ne (tgt := 1357) hx hb dL_law_1342 (by decide) (fun hk0 => ?_) (fun hk0 => ?_)
  · refine lv_goto (tgt := 1885) hx hb dL_law_1357 (by decide) ?_
    exact W.widen (by omega) (by omega) (J M2 (u + ms2) _ _ ls hG2 hM hS (lv_sub hl [2, 3, 4, 5, 6] rfl))
  · have hkk : kk = 0 := (nI_eq (by omega) (by decide)).mp (show nI kk = nI 0 from hk0)
    refine lv_aload_n hx hb dL_law_1345 rfl (lv_at hl 3 rfl) ?_
    refine lv_iconst (v := nI 0) hx hb dL_law_1346 (by decide) ?_
    refine w_lald hx hb hK hM hout2 0 (by decide) (by decide) dL_law_1347 ?_
    refine lv_iload hx hb dL_law_1348 (lv_at hl 0 rfl) ?_
    refine w_i2l hx hb dL_law_1350 ?_
    refine lb_ceq (tgt := 1357) (a := (ob 0)) (b := r.toInt64.toBitVec) hx hb dL_law_1351 dL_law_1352 (by decide) (fun _ => ?_) (fun h => absurd (hob hkk) h)
    refine lv_goto (tgt := 1885) hx hb dL_law_1357 (by decide) ?_
    exact W.widen (by omega) (by omega) (J M2 (u + ms2) _ _ ls hG2 hM hS (lv_sub hl [2, 3, 4, 5, 6] rfl))
set_option maxHeartbeats 4000000 in
set_option maxRecDepth 100000 in
theorem law_24 {p : Program} {l : Launch} {e : Env} {s : State} {m : MethodId} {below : List Frame} {meth : Method} {c : Code} {H : Heap} {locs : List Loc} {Q : State → Prop} {ls : Array Slot} {D : va_G} {cI cJ : ClassId} {M : MP} {A : Nat → Prop} {sb L xo mo out : Nat} {xs : Nat → Int32} (S : LSt p l s m c D cI cJ A sb L xs) {k u : Nat} (hk : k < 512) (hL : 4 * k + 4 ≤ L) (hL2 : L ≤ 2048) (hG : GI cI cJ A sb L xs xo mo out k M u) (hM : HM D M H) (hS : va_S A s.heap H locs) (hl : lv_has ls 9 [(4, .int (nI (4 * k))), (3, .ref out), (2, .ref mo), (1, .ref xo), (0, .ref sb)]) (J : LJ p l e s m below meth c D cI cJ A sb L xs xo mo out k Q) : W p l e room_1 s m #[Value.ref sb] below meth c H locs (20 + 6 * k) (8000 + 100 * k + u) Q (F0 m 1360 ls []) := by
  obtain ⟨hx, hb, hml, hown, hts, hK, hX, hl9, hAs, hXs, hbl, hbA⟩ := S
  have hu9 := hG.u_le
  have hbs := hG.scr
  refine lv_aload_n hx hb dL_law_1360 rfl (lv_at hl 3 rfl) ?_
  refine lv_aload_n hx hb dL_law_1361 rfl (lv_at hl 4 rfl) ?_
  refine lv_iload hx hb dL_law_1362 (lv_at hl 0 rfl) ?_
  refine lv_iconst (v := nI 1) hx hb dL_law_1364 (by decide) ?_
  refine lv_iadd hx hb dL_law_1365 ?_
  rw [nI_add]
  refine w_scr hx hb hXs hbl hbA hS (4 * k + 1) (by omega) hL2 dL_law_1366 ?_
  refine lv_aload_n hx hb dL_law_1367 rfl (lv_at hl 4 rfl) ?_
  refine lv_iload hx hb dL_law_1368 (lv_at hl 0 rfl) ?_
  refine lv_iconst (v := nI 2) hx hb dL_law_1370 (by decide) ?_
  refine lv_iadd hx hb dL_law_1371 ?_
  rw [nI_add]
  refine w_scr hx hb hXs hbl hbA hS (4 * k + 2) (by omega) hL2 dL_law_1372 ?_
  refine lv_aload_n hx hb dL_law_1373 rfl (lv_at hl 1 rfl) ?_
  obtain ⟨d1, mc1, ms1, kk, Rm, hd1, hmc1, hms1, hkk3, hW1, hM1⟩ := semh_move l hl9 (D := D) (xs (4 * k + 1)) (xs (4 * k + 2)) k M u H.size hk (fun q hq => hAs q (Nat.le_trans hS.1 hq)) hG
  refine hc_go (hc_runS (As := [.ref xo, .int (xs (4 * k + 1)), .int (xs (4 * k + 2)), .ref out]) (rest := []) hx hb hml hown hts hK hX hM hS okH_move hW1 rfl ⟨by show d1 + 1 ≤ 13; omega, by show 8 + (5 + 11) + 40 * d1 ≤ 500; omega⟩ hl.1 rfl (Nat.le_of_ble_eq_true rfl) dL_law_1374 ⟨by show 20 + 6 * k + mc1 ≤ 601024; omega, by show 8000 + 100 * k + u + ms1 ≤ 7293034; omega⟩) hS (fun M1 H1 locs1 hR1 hHs1 hM hS => ?_)
  obtain ⟨⟨fs1, hmo1⟩, hbs1, hN1⟩ := hM1 M1 hR1
  refine lv_istore (lv' := [(5, .int (nI kk)), (4, .int (nI (4 * k))), (3, .ref out), (2, .ref mo), (1, .ref xo), (0, .ref sb)]) hx hb dL_law_1377 hl (by decide) rfl (fun ls hl => ?_)
  refine lv_aload_n hx hb dL_law_1379 rfl (lv_at hl 3 rfl) ?_
  refine lv_aload_n hx hb dL_law_1380 rfl (lv_at hl 5 rfl) ?_
  refine lv_iload hx hb dL_law_1381 (lv_at hl 1 rfl) ?_
  refine lv_iconst (v := nI 1) hx hb dL_law_1383 (by decide) ?_
  refine lv_iadd hx hb dL_law_1384 ?_
  rw [nI_add]
  refine w_scr hx hb hXs hbl hbA hS (4 * k + 1) (by omega) hL2 dL_law_1385 ?_
  refine lv_aload_n hx hb dL_law_1386 rfl (lv_at hl 5 rfl) ?_
  refine lv_iload hx hb dL_law_1387 (lv_at hl 1 rfl) ?_
  refine lv_iconst (v := nI 2) hx hb dL_law_1389 (by decide) ?_
  refine lv_iadd hx hb dL_law_1390 ?_
  rw [nI_add]
  refine w_scr hx hb hXs hbl hbA hS (4 * k + 2) (by omega) hL2 dL_law_1391 ?_
  obtain ⟨d2, mc2, ms2, r, Rm2, hd2, hmc2, hms2, hW2, hM2⟩ := hN1 H1.size (fun q hq => hAs q (Nat.le_trans hS.1 hq))
  refine wr_go (wr_runV (As := [.int (xs (4 * k + 1)), .int (xs (4 * k + 2))]) (rest := []) hx hb hml hown hts hK hM okV_RL_182_X4_move hW2 hmo1 rfl rfl rfl ⟨by show d2 + 1 ≤ 13; omega, by show 8 + (4 + 11) + 40 * d2 ≤ 500; omega⟩ hl.1 rfl (Nat.le_of_ble_eq_true rfl) dL_law_1392 ⟨by show 20 + 6 * k + mc1 + mc2 ≤ 601024; omega, by show 8000 + 100 * k + u + ms1 + ms2 ≤ 7293034; omega⟩) hS (fun M2 H2 locs2 hR2 hHs2 hM hS => ?_)
  obtain ⟨hG2, ⟨fs2, hmo2⟩, hth, hbs2, ob, hout2, hob⟩ := hM2 M2 hR2
  refine lv_istore (lv' := [(6, .int r), (5, .int (nI kk)), (4, .int (nI (4 * k))), (3, .ref out), (2, .ref mo), (1, .ref xo), (0, .ref sb)]) hx hb dL_law_1395 hl (by decide) rfl (fun ls hl => ?_)
  refine lv_aload_n hx hb dL_law_1397 rfl (lv_at hl 4 rfl) ?_
  refine rd_goI (rd_runV (As := []) (rest := []) hx hb hml hown hts hK hM okV_RL_94_X4_thrown hth hmo2 rfl rfl rfl ⟨Nat.le_of_ble_eq_true rfl, Nat.le_of_ble_eq_true rfl⟩ hl.1 rfl (Nat.le_of_ble_eq_true rfl) dL_law_1398 ⟨by show 20 + 6 * k + mc1 + mc2 ≤ 601024; omega, by show 8000 + 100 * k + u + ms1 + ms2 ≤ 7293034; omega⟩) ?_
  refine lv_iload hx hb dL_law_1401 (lv_at hl 1 rfl) ?_
  refine lv_icmp_eq (tgt := 1408) hx hb dL_law_1403 (by decide) (fun _ => ?_) (fun h => absurd rfl h)
  refine lv_iload hx hb dL_law_1408 (lv_at hl 1 rfl) ?_
  refine lv_if_ne (tgt := 1425) hx hb dL_law_1410 (by decide) (fun hk0 => ?_) (fun hk0 => ?_)
  · refine lv_goto (tgt := 1885) hx hb dL_law_1425 (by decide) ?_
    exact W.widen (by omega) (by omega) (J M2 (u + ms2) _ _ ls hG2 hM hS (lv_sub hl [2, 3, 4, 5, 6] rfl))
  · have hkk : kk = 0 := (nI_eq (by omega) (by decide)).mp (show nI kk = nI 0 from hk0)
    refine lv_aload_n hx hb dL_law_1413 rfl (lv_at hl 3 rfl) ?_
    refine lv_iconst (v := nI 0) hx hb dL_law_1414 (by decide) ?_
    refine w_lald hx hb hK hM hout2 0 (by decide) (by decide) dL_law_1415 ?_
    refine lv_iload hx hb dL_law_1416 (lv_at hl 0 rfl) ?_
    refine w_i2l hx hb dL_law_1418 ?_
    refine lb_ceq (tgt := 1425) (a := (ob 0)) (b := r.toInt64.toBitVec) hx hb dL_law_1419 dL_law_1420 (by decide) (fun _ => ?_) (fun h => absurd (hob hkk) h)
    refine lv_goto (tgt := 1885) hx hb dL_law_1425 (by decide) ?_
    exact W.widen (by omega) (by omega) (J M2 (u + ms2) _ _ ls hG2 hM hS (lv_sub hl [2, 3, 4, 5, 6] rfl))
set_option maxHeartbeats 4000000 in
set_option maxRecDepth 100000 in
theorem law_25 {p : Program} {l : Launch} {e : Env} {s : State} {m : MethodId} {below : List Frame} {meth : Method} {c : Code} {H : Heap} {locs : List Loc} {Q : State → Prop} {ls : Array Slot} {D : va_G} {cI cJ : ClassId} {M : MP} {A : Nat → Prop} {sb L xo mo out : Nat} {xs : Nat → Int32} (S : LSt p l s m c D cI cJ A sb L xs) {k u : Nat} (hk : k < 512) (hL : 4 * k + 4 ≤ L) (hL2 : L ≤ 2048) (hG : GI cI cJ A sb L xs xo mo out k M u) (hM : HM D M H) (hS : va_S A s.heap H locs) (hl : lv_has ls 9 [(4, .int (nI (4 * k))), (3, .ref out), (2, .ref mo), (1, .ref xo), (0, .ref sb)]) (J : LJ p l e s m below meth c D cI cJ A sb L xs xo mo out k Q) : W p l e room_1 s m #[Value.ref sb] below meth c H locs (20 + 6 * k) (8000 + 100 * k + u) Q (F0 m 1428 ls []) := by
  obtain ⟨hx, hb, hml, hown, hts, hK, hX, hl9, hAs, hXs, hbl, hbA⟩ := S
  have hu9 := hG.u_le
  have hbs := hG.scr
  refine lv_aload_n hx hb dL_law_1428 rfl (lv_at hl 3 rfl) ?_
  refine lv_aload_n hx hb dL_law_1429 rfl (lv_at hl 4 rfl) ?_
  refine lv_iload hx hb dL_law_1430 (lv_at hl 0 rfl) ?_
  refine lv_iconst (v := nI 1) hx hb dL_law_1432 (by decide) ?_
  refine lv_iadd hx hb dL_law_1433 ?_
  rw [nI_add]
  refine w_scr hx hb hXs hbl hbA hS (4 * k + 1) (by omega) hL2 dL_law_1434 ?_
  refine lv_aload_n hx hb dL_law_1435 rfl (lv_at hl 4 rfl) ?_
  refine lv_iload hx hb dL_law_1436 (lv_at hl 0 rfl) ?_
  refine lv_iconst (v := nI 2) hx hb dL_law_1438 (by decide) ?_
  refine lv_iadd hx hb dL_law_1439 ?_
  rw [nI_add]
  refine w_scr hx hb hXs hbl hbA hS (4 * k + 2) (by omega) hL2 dL_law_1440 ?_
  refine lv_aload_n hx hb dL_law_1441 rfl (lv_at hl 1 rfl) ?_
  obtain ⟨d1, mc1, ms1, kk, Rm, hd1, hmc1, hms1, hkk3, hW1, hM1⟩ := semh_bond l hl9 (D := D) (xs (4 * k + 1)) (xs (4 * k + 2)) k M u H.size hk (fun q hq => hAs q (Nat.le_trans hS.1 hq)) hG
  refine hc_go (hc_runS (As := [.ref xo, .int (xs (4 * k + 1)), .int (xs (4 * k + 2)), .ref out]) (rest := []) hx hb hml hown hts hK hX hM hS okH_bond hW1 rfl ⟨by show d1 + 1 ≤ 13; omega, by show 8 + (5 + 11) + 40 * d1 ≤ 500; omega⟩ hl.1 rfl (Nat.le_of_ble_eq_true rfl) dL_law_1442 ⟨by show 20 + 6 * k + mc1 ≤ 601024; omega, by show 8000 + 100 * k + u + ms1 ≤ 7293034; omega⟩) hS (fun M1 H1 locs1 hR1 hHs1 hM hS => ?_)
  obtain ⟨⟨fs1, hmo1⟩, hbs1, hN1⟩ := hM1 M1 hR1
  refine lv_istore (lv' := [(5, .int (nI kk)), (4, .int (nI (4 * k))), (3, .ref out), (2, .ref mo), (1, .ref xo), (0, .ref sb)]) hx hb dL_law_1445 hl (by decide) rfl (fun ls hl => ?_)
  refine lv_aload_n hx hb dL_law_1447 rfl (lv_at hl 3 rfl) ?_
  refine lv_aload_n hx hb dL_law_1448 rfl (lv_at hl 5 rfl) ?_
  refine lv_iload hx hb dL_law_1449 (lv_at hl 1 rfl) ?_
  refine lv_iconst (v := nI 1) hx hb dL_law_1451 (by decide) ?_
  refine lv_iadd hx hb dL_law_1452 ?_
  rw [nI_add]
  refine w_scr hx hb hXs hbl hbA hS (4 * k + 1) (by omega) hL2 dL_law_1453 ?_
  refine lv_aload_n hx hb dL_law_1454 rfl (lv_at hl 5 rfl) ?_
  refine lv_iload hx hb dL_law_1455 (lv_at hl 1 rfl) ?_
  refine lv_iconst (v := nI 2) hx hb dL_law_1457 (by decide) ?_
  refine lv_iadd hx hb dL_law_1458 ?_
  rw [nI_add]
  refine w_scr hx hb hXs hbl hbA hS (4 * k + 2) (by omega) hL2 dL_law_1459 ?_
  obtain ⟨d2, mc2, ms2, r, Rm2, hd2, hmc2, hms2, hW2, hM2⟩ := hN1 H1.size (fun q hq => hAs q (Nat.le_trans hS.1 hq))
  refine wr_go (wr_runV (As := [.int (xs (4 * k + 1)), .int (xs (4 * k + 2))]) (rest := []) hx hb hml hown hts hK hM okV_RL_185_X4_bond hW2 hmo1 rfl rfl rfl ⟨by show d2 + 1 ≤ 13; omega, by show 8 + (3 + 11) + 40 * d2 ≤ 500; omega⟩ hl.1 rfl (Nat.le_of_ble_eq_true rfl) dL_law_1460 ⟨by show 20 + 6 * k + mc1 + mc2 ≤ 601024; omega, by show 8000 + 100 * k + u + ms1 + ms2 ≤ 7293034; omega⟩) hS (fun M2 H2 locs2 hR2 hHs2 hM hS => ?_)
  obtain ⟨hG2, ⟨fs2, hmo2⟩, hth, hbs2, ob, hout2, hob⟩ := hM2 M2 hR2
  refine lv_istore (lv' := [(6, .int r), (5, .int (nI kk)), (4, .int (nI (4 * k))), (3, .ref out), (2, .ref mo), (1, .ref xo), (0, .ref sb)]) hx hb dL_law_1463 hl (by decide) rfl (fun ls hl => ?_)
  refine lv_aload_n hx hb dL_law_1465 rfl (lv_at hl 4 rfl) ?_
  refine rd_goI (rd_runV (As := []) (rest := []) hx hb hml hown hts hK hM okV_RL_94_X4_thrown hth hmo2 rfl rfl rfl ⟨Nat.le_of_ble_eq_true rfl, Nat.le_of_ble_eq_true rfl⟩ hl.1 rfl (Nat.le_of_ble_eq_true rfl) dL_law_1466 ⟨by show 20 + 6 * k + mc1 + mc2 ≤ 601024; omega, by show 8000 + 100 * k + u + ms1 + ms2 ≤ 7293034; omega⟩) ?_
  refine lv_iload hx hb dL_law_1469 (lv_at hl 1 rfl) ?_
  refine lv_icmp_eq (tgt := 1476) hx hb dL_law_1471 (by decide) (fun _ => ?_) (fun h => absurd rfl h)
  refine lv_iload hx hb dL_law_1476 (lv_at hl 1 rfl) ?_
  refine lv_if_ne (tgt := 1493) hx hb dL_law_1478 (by decide) (fun hk0 => ?_) (fun hk0 => ?_)
  · refine lv_goto (tgt := 1885) hx hb dL_law_1493 (by decide) ?_
    exact W.widen (by omega) (by omega) (J M2 (u + ms2) _ _ ls hG2 hM hS (lv_sub hl [2, 3, 4, 5, 6] rfl))
  · have hkk : kk = 0 := (nI_eq (by omega) (by decide)).mp (show nI kk = nI 0 from hk0)
    refine lv_aload_n hx hb dL_law_1481 rfl (lv_at hl 3 rfl) ?_
    refine lv_iconst (v := nI 0) hx hb dL_law_1482 (by decide) ?_
    refine w_lald hx hb hK hM hout2 0 (by decide) (by decide) dL_law_1483 ?_
    refine lv_iload hx hb dL_law_1484 (lv_at hl 0 rfl) ?_
    refine w_i2l hx hb dL_law_1486 ?_
    refine lb_ceq (tgt := 1493) (a := (ob 0)) (b := r.toInt64.toBitVec) hx hb dL_law_1487 dL_law_1488 (by decide) (fun _ => ?_) (fun h => absurd (hob hkk) h)
    refine lv_goto (tgt := 1885) hx hb dL_law_1493 (by decide) ?_
    exact W.widen (by omega) (by omega) (J M2 (u + ms2) _ _ ls hG2 hM hS (lv_sub hl [2, 3, 4, 5, 6] rfl))
set_option maxHeartbeats 4000000 in
set_option maxRecDepth 100000 in
theorem law_26 {p : Program} {l : Launch} {e : Env} {s : State} {m : MethodId} {below : List Frame} {meth : Method} {c : Code} {H : Heap} {locs : List Loc} {Q : State → Prop} {ls : Array Slot} {D : va_G} {cI cJ : ClassId} {M : MP} {A : Nat → Prop} {sb L xo mo out : Nat} {xs : Nat → Int32} (S : LSt p l s m c D cI cJ A sb L xs) {k u : Nat} (hk : k < 512) (hL : 4 * k + 4 ≤ L) (hL2 : L ≤ 2048) (hG : GI cI cJ A sb L xs xo mo out k M u) (hM : HM D M H) (hS : va_S A s.heap H locs) (hl : lv_has ls 9 [(4, .int (nI (4 * k))), (3, .ref out), (2, .ref mo), (1, .ref xo), (0, .ref sb)]) (J : LJ p l e s m below meth c D cI cJ A sb L xs xo mo out k Q) : W p l e room_1 s m #[Value.ref sb] below meth c H locs (20 + 6 * k) (8000 + 100 * k + u) Q (F0 m 1496 ls []) := by
  obtain ⟨hx, hb, hml, hown, hts, hK, hX, hl9, hAs, hXs, hbl, hbA⟩ := S
  have hu9 := hG.u_le
  have hbs := hG.scr
  refine lv_aload_n hx hb dL_law_1496 rfl (lv_at hl 3 rfl) ?_
  refine lv_aload_n hx hb dL_law_1497 rfl (lv_at hl 4 rfl) ?_
  refine lv_iload hx hb dL_law_1498 (lv_at hl 0 rfl) ?_
  refine lv_iconst (v := nI 1) hx hb dL_law_1500 (by decide) ?_
  refine lv_iadd hx hb dL_law_1501 ?_
  rw [nI_add]
  refine w_scr hx hb hXs hbl hbA hS (4 * k + 1) (by omega) hL2 dL_law_1502 ?_
  refine lv_aload_n hx hb dL_law_1503 rfl (lv_at hl 1 rfl) ?_
  obtain ⟨d1, mc1, ms1, kk, Rm, hd1, hmc1, hms1, hkk3, hW1, hM1⟩ := semh_dissolve l hl9 (D := D) (xs (4 * k + 1)) k M u H.size hk (fun q hq => hAs q (Nat.le_trans hS.1 hq)) hG
  refine hc_go (hc_runS (As := [.ref xo, .int (xs (4 * k + 1)), .ref out]) (rest := []) hx hb hml hown hts hK hX hM hS okH_dissolve hW1 rfl ⟨by show d1 + 1 ≤ 13; omega, by show 8 + (4 + 11) + 40 * d1 ≤ 500; omega⟩ hl.1 rfl (Nat.le_of_ble_eq_true rfl) dL_law_1504 ⟨by show 20 + 6 * k + mc1 ≤ 601024; omega, by show 8000 + 100 * k + u + ms1 ≤ 7293034; omega⟩) hS (fun M1 H1 locs1 hR1 hHs1 hM hS => ?_)
  obtain ⟨⟨fs1, hmo1⟩, hbs1, hN1⟩ := hM1 M1 hR1
  refine lv_istore (lv' := [(5, .int (nI kk)), (4, .int (nI (4 * k))), (3, .ref out), (2, .ref mo), (1, .ref xo), (0, .ref sb)]) hx hb dL_law_1507 hl (by decide) rfl (fun ls hl => ?_)
  refine lv_aload_n hx hb dL_law_1509 rfl (lv_at hl 3 rfl) ?_
  refine lv_aload_n hx hb dL_law_1510 rfl (lv_at hl 5 rfl) ?_
  refine lv_iload hx hb dL_law_1511 (lv_at hl 1 rfl) ?_
  refine lv_iconst (v := nI 1) hx hb dL_law_1513 (by decide) ?_
  refine lv_iadd hx hb dL_law_1514 ?_
  rw [nI_add]
  refine w_scr hx hb hXs hbl hbA hS (4 * k + 1) (by omega) hL2 dL_law_1515 ?_
  obtain ⟨d2, mc2, ms2, r, Rm2, hd2, hmc2, hms2, hW2, hM2⟩ := hN1 H1.size (fun q hq => hAs q (Nat.le_trans hS.1 hq))
  refine wr_go (wr_runV (As := [.int (xs (4 * k + 1))]) (rest := []) hx hb hml hown hts hK hM okV_RL_188_X4_dissolve hW2 hmo1 rfl rfl rfl ⟨by show d2 + 1 ≤ 13; omega, by show 8 + (3 + 11) + 40 * d2 ≤ 500; omega⟩ hl.1 rfl (Nat.le_of_ble_eq_true rfl) dL_law_1516 ⟨by show 20 + 6 * k + mc1 + mc2 ≤ 601024; omega, by show 8000 + 100 * k + u + ms1 + ms2 ≤ 7293034; omega⟩) hS (fun M2 H2 locs2 hR2 hHs2 hM hS => ?_)
  obtain ⟨hG2, ⟨fs2, hmo2⟩, hth, hbs2, ob, hout2, hob⟩ := hM2 M2 hR2
  refine lv_istore (lv' := [(6, .int r), (5, .int (nI kk)), (4, .int (nI (4 * k))), (3, .ref out), (2, .ref mo), (1, .ref xo), (0, .ref sb)]) hx hb dL_law_1519 hl (by decide) rfl (fun ls hl => ?_)
  refine lv_aload_n hx hb dL_law_1521 rfl (lv_at hl 4 rfl) ?_
  refine rd_goI (rd_runV (As := []) (rest := []) hx hb hml hown hts hK hM okV_RL_94_X4_thrown hth hmo2 rfl rfl rfl ⟨Nat.le_of_ble_eq_true rfl, Nat.le_of_ble_eq_true rfl⟩ hl.1 rfl (Nat.le_of_ble_eq_true rfl) dL_law_1522 ⟨by show 20 + 6 * k + mc1 + mc2 ≤ 601024; omega, by show 8000 + 100 * k + u + ms1 + ms2 ≤ 7293034; omega⟩) ?_
  refine lv_iload hx hb dL_law_1525 (lv_at hl 1 rfl) ?_
  refine lv_icmp_eq (tgt := 1532) hx hb dL_law_1527 (by decide) (fun _ => ?_) (fun h => absurd rfl h)
  refine lv_iload hx hb dL_law_1532 (lv_at hl 1 rfl) ?_
  refine lv_if_ne (tgt := 1549) hx hb dL_law_1534 (by decide) (fun hk0 => ?_) (fun hk0 => ?_)
  · refine lv_goto (tgt := 1885) hx hb dL_law_1549 (by decide) ?_
    exact W.widen (by omega) (by omega) (J M2 (u + ms2) _ _ ls hG2 hM hS (lv_sub hl [2, 3, 4, 5, 6] rfl))
  · have hkk : kk = 0 := (nI_eq (by omega) (by decide)).mp (show nI kk = nI 0 from hk0)
    refine lv_aload_n hx hb dL_law_1537 rfl (lv_at hl 3 rfl) ?_
    refine lv_iconst (v := nI 0) hx hb dL_law_1538 (by decide) ?_
    refine w_lald hx hb hK hM hout2 0 (by decide) (by decide) dL_law_1539 ?_
    refine lv_iload hx hb dL_law_1540 (lv_at hl 0 rfl) ?_
    refine w_i2l hx hb dL_law_1542 ?_
    refine lb_ceq (tgt := 1549) (a := (ob 0)) (b := r.toInt64.toBitVec) hx hb dL_law_1543 dL_law_1544 (by decide) (fun _ => ?_) (fun h => absurd (hob hkk) h)
    refine lv_goto (tgt := 1885) hx hb dL_law_1549 (by decide) ?_
    exact W.widen (by omega) (by omega) (J M2 (u + ms2) _ _ ls hG2 hM hS (lv_sub hl [2, 3, 4, 5, 6] rfl))
set_option maxHeartbeats 4000000 in
set_option maxRecDepth 100000 in
theorem law_27 {p : Program} {l : Launch} {e : Env} {s : State} {m : MethodId} {below : List Frame} {meth : Method} {c : Code} {H : Heap} {locs : List Loc} {Q : State → Prop} {ls : Array Slot} {D : va_G} {cI cJ : ClassId} {M : MP} {A : Nat → Prop} {sb L xo mo out : Nat} {xs : Nat → Int32} (S : LSt p l s m c D cI cJ A sb L xs) {k u : Nat} (hk : k < 512) (hL : 4 * k + 4 ≤ L) (hL2 : L ≤ 2048) (hG : GI cI cJ A sb L xs xo mo out k M u) (hM : HM D M H) (hS : va_S A s.heap H locs) (hl : lv_has ls 9 [(4, .int (nI (4 * k))), (3, .ref out), (2, .ref mo), (1, .ref xo), (0, .ref sb)]) (J : LJ p l e s m below meth c D cI cJ A sb L xs xo mo out k Q) : W p l e room_1 s m #[Value.ref sb] below meth c H locs (20 + 6 * k) (8000 + 100 * k + u) Q (F0 m 1552 ls []) := by
  obtain ⟨hx, hb, hml, hown, hts, hK, hX, hl9, hAs, hXs, hbl, hbA⟩ := S
  have hu9 := hG.u_le
  have hbs := hG.scr
  refine lv_aload_n hx hb dL_law_1552 rfl (lv_at hl 3 rfl) ?_
  refine lv_aload_n hx hb dL_law_1553 rfl (lv_at hl 1 rfl) ?_
  obtain ⟨d1, mc1, ms1, kk, Rm, hd1, hmc1, hms1, hkk3, hW1, hM1⟩ := semh_takeBack l hl9 (D := D) k M u H.size hk (fun q hq => hAs q (Nat.le_trans hS.1 hq)) hG
  refine hc_go (hc_runS (As := [.ref xo, .ref out]) (rest := []) hx hb hml hown hts hK hX hM hS okH_takeBack hW1 rfl ⟨by show d1 + 1 ≤ 13; omega, by show 8 + (3 + 11) + 40 * d1 ≤ 500; omega⟩ hl.1 rfl (Nat.le_of_ble_eq_true rfl) dL_law_1554 ⟨by show 20 + 6 * k + mc1 ≤ 601024; omega, by show 8000 + 100 * k + u + ms1 ≤ 7293034; omega⟩) hS (fun M1 H1 locs1 hR1 hHs1 hM hS => ?_)
  obtain ⟨⟨fs1, hmo1⟩, hbs1, hN1⟩ := hM1 M1 hR1
  refine lv_istore (lv' := [(5, .int (nI kk)), (4, .int (nI (4 * k))), (3, .ref out), (2, .ref mo), (1, .ref xo), (0, .ref sb)]) hx hb dL_law_1557 hl (by decide) rfl (fun ls hl => ?_)
  refine lv_aload_n hx hb dL_law_1559 rfl (lv_at hl 3 rfl) ?_
  obtain ⟨d2, mc2, ms2, r, Rm2, hd2, hmc2, hms2, hW2, hM2⟩ := hN1 H1.size (fun q hq => hAs q (Nat.le_trans hS.1 hq))
  refine wr_go (wr_runV (As := []) (rest := []) hx hb hml hown hts hK hM okV_RL_192_X4_takeBack hW2 hmo1 rfl rfl rfl ⟨by show d2 + 1 ≤ 13; omega, by show 8 + (1 + 11) + 40 * d2 ≤ 500; omega⟩ hl.1 rfl (Nat.le_of_ble_eq_true rfl) dL_law_1560 ⟨by show 20 + 6 * k + mc1 + mc2 ≤ 601024; omega, by show 8000 + 100 * k + u + ms1 + ms2 ≤ 7293034; omega⟩) hS (fun M2 H2 locs2 hR2 hHs2 hM hS => ?_)
  obtain ⟨hG2, ⟨fs2, hmo2⟩, hth, hbs2, ob, hout2, hob⟩ := hM2 M2 hR2
  refine lv_istore (lv' := [(6, .int r), (5, .int (nI kk)), (4, .int (nI (4 * k))), (3, .ref out), (2, .ref mo), (1, .ref xo), (0, .ref sb)]) hx hb dL_law_1563 hl (by decide) rfl (fun ls hl => ?_)
  refine lv_aload_n hx hb dL_law_1565 rfl (lv_at hl 4 rfl) ?_
  refine rd_goI (rd_runV (As := []) (rest := []) hx hb hml hown hts hK hM okV_RL_94_X4_thrown hth hmo2 rfl rfl rfl ⟨Nat.le_of_ble_eq_true rfl, Nat.le_of_ble_eq_true rfl⟩ hl.1 rfl (Nat.le_of_ble_eq_true rfl) dL_law_1566 ⟨by show 20 + 6 * k + mc1 + mc2 ≤ 601024; omega, by show 8000 + 100 * k + u + ms1 + ms2 ≤ 7293034; omega⟩) ?_
  refine lv_iload hx hb dL_law_1569 (lv_at hl 1 rfl) ?_
  refine lv_icmp_eq (tgt := 1576) hx hb dL_law_1571 (by decide) (fun _ => ?_) (fun h => absurd rfl h)
  refine lv_iload hx hb dL_law_1576 (lv_at hl 1 rfl) ?_
  refine lv_if_ne (tgt := 1593) hx hb dL_law_1578 (by decide) (fun hk0 => ?_) (fun hk0 => ?_)
  · refine lv_goto (tgt := 1885) hx hb dL_law_1593 (by decide) ?_
    exact W.widen (by omega) (by omega) (J M2 (u + ms2) _ _ ls hG2 hM hS (lv_sub hl [2, 3, 4, 5, 6] rfl))
  · have hkk : kk = 0 := (nI_eq (by omega) (by decide)).mp (show nI kk = nI 0 from hk0)
    refine lv_aload_n hx hb dL_law_1581 rfl (lv_at hl 3 rfl) ?_
    refine lv_iconst (v := nI 0) hx hb dL_law_1582 (by decide) ?_
    refine w_lald hx hb hK hM hout2 0 (by decide) (by decide) dL_law_1583 ?_
    refine lv_iload hx hb dL_law_1584 (lv_at hl 0 rfl) ?_
    refine w_i2l hx hb dL_law_1586 ?_
    refine lb_ceq (tgt := 1593) (a := (ob 0)) (b := r.toInt64.toBitVec) hx hb dL_law_1587 dL_law_1588 (by decide) (fun _ => ?_) (fun h => absurd (hob hkk) h)
    refine lv_goto (tgt := 1885) hx hb dL_law_1593 (by decide) ?_
    exact W.widen (by omega) (by omega) (J M2 (u + ms2) _ _ ls hG2 hM hS (lv_sub hl [2, 3, 4, 5, 6] rfl))
set_option maxHeartbeats 4000000 in
set_option maxRecDepth 100000 in
theorem law_28 {p : Program} {l : Launch} {e : Env} {s : State} {m : MethodId} {below : List Frame} {meth : Method} {c : Code} {H : Heap} {locs : List Loc} {Q : State → Prop} {ls : Array Slot} {D : va_G} {cI cJ : ClassId} {M : MP} {A : Nat → Prop} {sb L xo mo out : Nat} {xs : Nat → Int32} (S : LSt p l s m c D cI cJ A sb L xs) {k u : Nat} (hk : k < 512) (hL : 4 * k + 4 ≤ L) (hL2 : L ≤ 2048) (hG : GI cI cJ A sb L xs xo mo out k M u) (hM : HM D M H) (hS : va_S A s.heap H locs) (hl : lv_has ls 9 [(4, .int (nI (4 * k))), (3, .ref out), (2, .ref mo), (1, .ref xo), (0, .ref sb)]) (J : LJ p l e s m below meth c D cI cJ A sb L xs xo mo out k Q) : W p l e room_1 s m #[Value.ref sb] below meth c H locs (20 + 6 * k) (8000 + 100 * k + u) Q (F0 m 1596 ls []) := by
  obtain ⟨hx, hb, hml, hown, hts, hK, hX, hl9, hAs, hXs, hbl, hbA⟩ := S
  have hu9 := hG.u_le
  have hbs := hG.scr
  refine lv_aload_n hx hb dL_law_1596 rfl (lv_at hl 3 rfl) ?_
  obtain ⟨d1, r, Rm, hd1, hok, ⟨fs0, hxo⟩, hW1, hM1⟩ := sem_actionCount l (D := D) k M u H.size hk (fun q hq => hAs q (Nat.le_trans hS.1 hq)) hG
  refine wr_go (wr_runV (As := []) (rest := []) hx hb hml hown hts hK hM okV_RL_193_X3_actionCount hW1 hxo rfl rfl rfl ⟨by show d1 + 1 ≤ 13; omega, by show 8 + (1 + 11) + 40 * d1 ≤ 500; omega⟩ hl.1 rfl (Nat.le_of_ble_eq_true rfl) dL_law_1597 ⟨by show 20 + 6 * k + 0 ≤ 601024; omega, by show 8000 + 100 * k + u + 0 ≤ 7293034; omega⟩) hS (fun M1 H1 locs1 hR1 hHs1 hM hS => ?_)
  obtain ⟨⟨fs1, hmo1⟩, hbs1, hN1⟩ := hM1 M1 hR1
  refine lv_aload_n hx hb dL_law_1600 rfl (lv_at hl 2 rfl) ?_
  obtain ⟨d2, Rm2, hd2, hW2, hM2⟩ := hN1 H1.size
  refine wr_go (wr_runV (As := []) (rest := [.int r]) hx hb hml hown hts hK hM okV_RL_196_X4_actionCount hW2 hmo1 rfl rfl rfl ⟨by show d2 + 1 ≤ 13; omega, by show 8 + (1 + 11) + 40 * d2 ≤ 500; omega⟩ hl.1 rfl (Nat.le_of_ble_eq_true rfl) dL_law_1601 ⟨by show 20 + 6 * k + 0 + 0 ≤ 601024; omega, by show 8000 + 100 * k + u + 0 + 0 ≤ 7293034; omega⟩) hS (fun M2 H2 locs2 hR2 hHs2 hM hS => ?_)
  have hG2 := hM2 M2 hR2
  refine lv_icmp_eq (tgt := 1885) hx hb dL_law_1604 (by decide) (fun _ => ?_) (fun h => absurd rfl h)
  exact W.widen (by omega) (by omega) (J M2 (u) _ _ ls hG2 hM hS (lv_sub hl [0, 1, 2, 3, 4] rfl))
set_option maxHeartbeats 4000000 in
set_option maxRecDepth 100000 in
theorem law_29 {p : Program} {l : Launch} {e : Env} {s : State} {m : MethodId} {below : List Frame} {meth : Method} {c : Code} {H : Heap} {locs : List Loc} {Q : State → Prop} {ls : Array Slot} {D : va_G} {cI cJ : ClassId} {M : MP} {A : Nat → Prop} {sb L xo mo out : Nat} {xs : Nat → Int32} (S : LSt p l s m c D cI cJ A sb L xs) {k u : Nat} (hk : k < 512) (hL : 4 * k + 4 ≤ L) (hL2 : L ≤ 2048) (hG : GI cI cJ A sb L xs xo mo out k M u) (hM : HM D M H) (hS : va_S A s.heap H locs) (hl : lv_has ls 9 [(4, .int (nI (4 * k))), (3, .ref out), (2, .ref mo), (1, .ref xo), (0, .ref sb)]) (J : LJ p l e s m below meth c D cI cJ A sb L xs xo mo out k Q) : W p l e room_1 s m #[Value.ref sb] below meth c H locs (20 + 6 * k) (8000 + 100 * k + u) Q (F0 m 1609 ls []) := by
  obtain ⟨hx, hb, hml, hown, hts, hK, hX, hl9, hAs, hXs, hbl, hbA⟩ := S
  have hu9 := hG.u_le
  have hbs := hG.scr
  refine lv_aload_n hx hb dL_law_1609 rfl (lv_at hl 3 rfl) ?_
  obtain ⟨d1, r, Rm, hd1, hok, ⟨fs0, hxo⟩, hW1, hM1⟩ := sem_outcome l (D := D) k M u H.size hk (fun q hq => hAs q (Nat.le_trans hS.1 hq)) hG
  refine wr_go (wr_runV (As := []) (rest := []) hx hb hml hown hts hK hM okV_RL_197_X3_outcome hW1 hxo rfl rfl rfl ⟨by show d1 + 1 ≤ 13; omega, by show 8 + (1 + 11) + 40 * d1 ≤ 500; omega⟩ hl.1 rfl (Nat.le_of_ble_eq_true rfl) dL_law_1610 ⟨by show 20 + 6 * k + 0 ≤ 601024; omega, by show 8000 + 100 * k + u + 0 ≤ 7293034; omega⟩) hS (fun M1 H1 locs1 hR1 hHs1 hM hS => ?_)
  obtain ⟨⟨fs1, hmo1⟩, hbs1, hN1⟩ := hM1 M1 hR1
  refine lv_aload_n hx hb dL_law_1613 rfl (lv_at hl 2 rfl) ?_
  obtain ⟨d2, Rm2, hd2, hW2, hM2⟩ := hN1 H1.size
  refine wr_go (wr_runV (As := []) (rest := [.int r]) hx hb hml hown hts hK hM okV_RL_200_X4_outcome hW2 hmo1 rfl rfl rfl ⟨by show d2 + 1 ≤ 13; omega, by show 8 + (1 + 11) + 40 * d2 ≤ 500; omega⟩ hl.1 rfl (Nat.le_of_ble_eq_true rfl) dL_law_1614 ⟨by show 20 + 6 * k + 0 + 0 ≤ 601024; omega, by show 8000 + 100 * k + u + 0 + 0 ≤ 7293034; omega⟩) hS (fun M2 H2 locs2 hR2 hHs2 hM hS => ?_)
  have hG2 := hM2 M2 hR2
  refine lv_icmp_eq (tgt := 1885) hx hb dL_law_1617 (by decide) (fun _ => ?_) (fun h => absurd rfl h)
  exact W.widen (by omega) (by omega) (J M2 (u) _ _ ls hG2 hM hS (lv_sub hl [0, 1, 2, 3, 4] rfl))
set_option maxHeartbeats 4000000 in
set_option maxRecDepth 100000 in
theorem law_30 {p : Program} {l : Launch} {e : Env} {s : State} {m : MethodId} {below : List Frame} {meth : Method} {c : Code} {H : Heap} {locs : List Loc} {Q : State → Prop} {ls : Array Slot} {D : va_G} {cI cJ : ClassId} {M : MP} {A : Nat → Prop} {sb L xo mo out : Nat} {xs : Nat → Int32} (S : LSt p l s m c D cI cJ A sb L xs) {k u : Nat} (hk : k < 512) (hL : 4 * k + 4 ≤ L) (hL2 : L ≤ 2048) (hG : GI cI cJ A sb L xs xo mo out k M u) (hM : HM D M H) (hS : va_S A s.heap H locs) (hl : lv_has ls 9 [(4, .int (nI (4 * k))), (3, .ref out), (2, .ref mo), (1, .ref xo), (0, .ref sb)]) (J : LJ p l e s m below meth c D cI cJ A sb L xs xo mo out k Q) : W p l e room_1 s m #[Value.ref sb] below meth c H locs (20 + 6 * k) (8000 + 100 * k + u) Q (F0 m 1622 ls []) := by
  obtain ⟨hx, hb, hml, hown, hts, hK, hX, hl9, hAs, hXs, hbl, hbA⟩ := S
  have hu9 := hG.u_le
  have hbs := hG.scr
  refine lv_aload_n hx hb dL_law_1622 rfl (lv_at hl 3 rfl) ?_
  obtain ⟨d1, r, Rm, hd1, hok, ⟨fs0, hxo⟩, hW1, hM1⟩ := sem_occurrences l (D := D) k M u H.size hk (fun q hq => hAs q (Nat.le_trans hS.1 hq)) hG
  refine wr_go (wr_runV (As := []) (rest := []) hx hb hml hown hts hK hM okV_RL_201_X3_occurrences hW1 hxo rfl rfl rfl ⟨by show d1 + 1 ≤ 13; omega, by show 8 + (1 + 11) + 40 * d1 ≤ 500; omega⟩ hl.1 rfl (Nat.le_of_ble_eq_true rfl) dL_law_1623 ⟨by show 20 + 6 * k + 0 ≤ 601024; omega, by show 8000 + 100 * k + u + 0 ≤ 7293034; omega⟩) hS (fun M1 H1 locs1 hR1 hHs1 hM hS => ?_)
  obtain ⟨⟨fs1, hmo1⟩, hbs1, hN1⟩ := hM1 M1 hR1
  refine lv_aload_n hx hb dL_law_1626 rfl (lv_at hl 2 rfl) ?_
  obtain ⟨d2, Rm2, hd2, hW2, hM2⟩ := hN1 H1.size
  refine wr_go (wr_runV (As := []) (rest := [.int r]) hx hb hml hown hts hK hM okV_RL_204_X4_occurrences hW2 hmo1 rfl rfl rfl ⟨by show d2 + 1 ≤ 13; omega, by show 8 + (1 + 11) + 40 * d2 ≤ 500; omega⟩ hl.1 rfl (Nat.le_of_ble_eq_true rfl) dL_law_1627 ⟨by show 20 + 6 * k + 0 + 0 ≤ 601024; omega, by show 8000 + 100 * k + u + 0 + 0 ≤ 7293034; omega⟩) hS (fun M2 H2 locs2 hR2 hHs2 hM hS => ?_)
  have hG2 := hM2 M2 hR2
  refine lv_icmp_eq (tgt := 1885) hx hb dL_law_1630 (by decide) (fun _ => ?_) (fun h => absurd rfl h)
  exact W.widen (by omega) (by omega) (J M2 (u) _ _ ls hG2 hM hS (lv_sub hl [0, 1, 2, 3, 4] rfl))
set_option maxHeartbeats 4000000 in
set_option maxRecDepth 100000 in
theorem law_31 {p : Program} {l : Launch} {e : Env} {s : State} {m : MethodId} {below : List Frame} {meth : Method} {c : Code} {H : Heap} {locs : List Loc} {Q : State → Prop} {ls : Array Slot} {D : va_G} {cI cJ : ClassId} {M : MP} {A : Nat → Prop} {sb L xo mo out : Nat} {xs : Nat → Int32} (S : LSt p l s m c D cI cJ A sb L xs) {k u : Nat} (hk : k < 512) (hL : 4 * k + 4 ≤ L) (hL2 : L ≤ 2048) (hG : GI cI cJ A sb L xs xo mo out k M u) (hM : HM D M H) (hS : va_S A s.heap H locs) (hl : lv_has ls 9 [(4, .int (nI (4 * k))), (3, .ref out), (2, .ref mo), (1, .ref xo), (0, .ref sb)]) (J : LJ p l e s m below meth c D cI cJ A sb L xs xo mo out k Q) : W p l e room_1 s m #[Value.ref sb] below meth c H locs (20 + 6 * k) (8000 + 100 * k + u) Q (F0 m 1635 ls []) := by
  obtain ⟨hx, hb, hml, hown, hts, hK, hX, hl9, hAs, hXs, hbl, hbA⟩ := S
  have hu9 := hG.u_le
  have hbs := hG.scr
  refine lv_aload_n hx hb dL_law_1635 rfl (lv_at hl 3 rfl) ?_
  obtain ⟨d1, r, Rm, hd1, hok, ⟨fs0, hxo⟩, hW1, hM1⟩ := sem_quietActions l (D := D) k M u H.size hk (fun q hq => hAs q (Nat.le_trans hS.1 hq)) hG
  refine wr_go (wr_runV (As := []) (rest := []) hx hb hml hown hts hK hM okV_RL_205_X3_quietActions hW1 hxo rfl rfl rfl ⟨by show d1 + 1 ≤ 13; omega, by show 8 + (1 + 11) + 40 * d1 ≤ 500; omega⟩ hl.1 rfl (Nat.le_of_ble_eq_true rfl) dL_law_1636 ⟨by show 20 + 6 * k + 0 ≤ 601024; omega, by show 8000 + 100 * k + u + 0 ≤ 7293034; omega⟩) hS (fun M1 H1 locs1 hR1 hHs1 hM hS => ?_)
  obtain ⟨⟨fs1, hmo1⟩, hbs1, hN1⟩ := hM1 M1 hR1
  refine lv_aload_n hx hb dL_law_1639 rfl (lv_at hl 2 rfl) ?_
  obtain ⟨d2, Rm2, hd2, hW2, hM2⟩ := hN1 H1.size
  refine wr_go (wr_runV (As := []) (rest := [.int r]) hx hb hml hown hts hK hM okV_RL_208_X4_quietActions hW2 hmo1 rfl rfl rfl ⟨by show d2 + 1 ≤ 13; omega, by show 8 + (1 + 11) + 40 * d2 ≤ 500; omega⟩ hl.1 rfl (Nat.le_of_ble_eq_true rfl) dL_law_1640 ⟨by show 20 + 6 * k + 0 + 0 ≤ 601024; omega, by show 8000 + 100 * k + u + 0 + 0 ≤ 7293034; omega⟩) hS (fun M2 H2 locs2 hR2 hHs2 hM hS => ?_)
  have hG2 := hM2 M2 hR2
  refine lv_icmp_eq (tgt := 1885) hx hb dL_law_1643 (by decide) (fun _ => ?_) (fun h => absurd rfl h)
  exact W.widen (by omega) (by omega) (J M2 (u) _ _ ls hG2 hM hS (lv_sub hl [0, 1, 2, 3, 4] rfl))
set_option maxHeartbeats 4000000 in
set_option maxRecDepth 100000 in
theorem law_32 {p : Program} {l : Launch} {e : Env} {s : State} {m : MethodId} {below : List Frame} {meth : Method} {c : Code} {H : Heap} {locs : List Loc} {Q : State → Prop} {ls : Array Slot} {D : va_G} {cI cJ : ClassId} {M : MP} {A : Nat → Prop} {sb L xo mo out : Nat} {xs : Nat → Int32} (S : LSt p l s m c D cI cJ A sb L xs) {k u : Nat} (hk : k < 512) (hL : 4 * k + 4 ≤ L) (hL2 : L ≤ 2048) (hG : GI cI cJ A sb L xs xo mo out k M u) (hM : HM D M H) (hS : va_S A s.heap H locs) (hl : lv_has ls 9 [(4, .int (nI (4 * k))), (3, .ref out), (2, .ref mo), (1, .ref xo), (0, .ref sb)]) (J : LJ p l e s m below meth c D cI cJ A sb L xs xo mo out k Q) : W p l e room_1 s m #[Value.ref sb] below meth c H locs (20 + 6 * k) (8000 + 100 * k + u) Q (F0 m 1648 ls []) := by
  obtain ⟨hx, hb, hml, hown, hts, hK, hX, hl9, hAs, hXs, hbl, hbA⟩ := S
  have hu9 := hG.u_le
  have hbs := hG.scr
  by_cases hz2 : xs (4 * k + 2) = 0
  · refine lv_aload_n hx hb dL_law_1648 rfl (lv_at hl 3 rfl) ?_
    refine lv_aload_n hx hb dL_law_1649 rfl (lv_at hl 4 rfl) ?_
    refine lv_iload hx hb dL_law_1650 (lv_at hl 0 rfl) ?_
    refine lv_iconst (v := nI 1) hx hb dL_law_1652 (by decide) ?_
    refine lv_iadd hx hb dL_law_1653 ?_
    rw [nI_add]
    refine w_scr hx hb hXs hbl hbA hS (4 * k + 1) (by omega) hL2 dL_law_1654 ?_
    refine lv_aload_n hx hb dL_law_1655 rfl (lv_at hl 4 rfl) ?_
    refine lv_iload hx hb dL_law_1656 (lv_at hl 0 rfl) ?_
    refine lv_iconst (v := nI 2) hx hb dL_law_1658 (by decide) ?_
    refine lv_iadd hx hb dL_law_1659 ?_
    rw [nI_add]
    refine w_scr hx hb hXs hbl hbA hS (4 * k + 2) (by omega) hL2 dL_law_1660 ?_
    refine lv_if_eq (tgt := 1668) hx hb dL_law_1661 (by decide) (fun _ => ?_) (fun h => absurd hz2 h)
    refine lv_iconst (v := nI 0) hx hb dL_law_1668 (by decide) ?_
    refine lv_aload_n hx hb dL_law_1669 rfl (lv_at hl 1 rfl) ?_
    obtain ⟨d1, mc1, ms1, kk, Rm, hd1, hmc1, hms1, hkk3, hW1, hM1⟩ := semh_capturedCount l hl9 (D := D) (xs (4 * k + 1)) false k M u H.size hk (fun q hq => hAs q (Nat.le_trans hS.1 hq)) hG
    refine hc_go (hc_runS (As := [.ref xo, .int (xs (4 * k + 1)), .int (bI false), .ref out]) (rest := []) hx hb hml hown hts hK hX hM hS okH_capturedCount hW1 rfl ⟨by show d1 + 1 ≤ 13; omega, by show 8 + (5 + 11) + 40 * d1 ≤ 500; omega⟩ hl.1 rfl (Nat.le_of_ble_eq_true rfl) dL_law_1670 ⟨by show 20 + 6 * k + mc1 ≤ 601024; omega, by show 8000 + 100 * k + u + ms1 ≤ 7293034; omega⟩) hS (fun M1 H1 locs1 hR1 hHs1 hM hS => ?_)
    obtain ⟨⟨fs1, hmo1⟩, hbs1, hN1⟩ := hM1 M1 hR1
    refine lv_istore (lv' := [(5, .int (nI kk)), (4, .int (nI (4 * k))), (3, .ref out), (2, .ref mo), (1, .ref xo), (0, .ref sb)]) hx hb dL_law_1673 hl (by decide) rfl (fun ls hl => ?_)
    refine lv_aload_n hx hb dL_law_1675 rfl (lv_at hl 3 rfl) ?_
    refine lv_aload_n hx hb dL_law_1676 rfl (lv_at hl 5 rfl) ?_
    refine lv_iload hx hb dL_law_1677 (lv_at hl 1 rfl) ?_
    refine lv_iconst (v := nI 1) hx hb dL_law_1679 (by decide) ?_
    refine lv_iadd hx hb dL_law_1680 ?_
    rw [nI_add]
    refine w_scr hx hb hXs hbl hbA hS (4 * k + 1) (by omega) hL2 dL_law_1681 ?_
    refine lv_aload_n hx hb dL_law_1682 rfl (lv_at hl 5 rfl) ?_
    refine lv_iload hx hb dL_law_1683 (lv_at hl 1 rfl) ?_
    refine lv_iconst (v := nI 2) hx hb dL_law_1685 (by decide) ?_
    refine lv_iadd hx hb dL_law_1686 ?_
    rw [nI_add]
    refine w_scr hx hb hXs hbl hbA hS (4 * k + 2) (by omega) hL2 dL_law_1687 ?_
    refine lv_if_eq (tgt := 1695) hx hb dL_law_1688 (by decide) (fun _ => ?_) (fun h => absurd hz2 h)
    refine lv_iconst (v := nI 0) hx hb dL_law_1695 (by decide) ?_
    obtain ⟨d2, mc2, ms2, r, Rm2, hd2, hmc2, hms2, hW2, hM2⟩ := hN1 H1.size (fun q hq => hAs q (Nat.le_trans hS.1 hq))
    refine wr_go (wr_runV (As := [.int (xs (4 * k + 1)), .int (bI false)]) (rest := []) hx hb hml hown hts hK hM okV_RL_211_X4_capturedCount hW2 hmo1 rfl rfl rfl ⟨by show d2 + 1 ≤ 13; omega, by show 8 + (3 + 11) + 40 * d2 ≤ 500; omega⟩ hl.1 rfl (Nat.le_of_ble_eq_true rfl) dL_law_1696 ⟨by show 20 + 6 * k + mc1 + mc2 ≤ 601024; omega, by show 8000 + 100 * k + u + ms1 + ms2 ≤ 7293034; omega⟩) hS (fun M2 H2 locs2 hR2 hHs2 hM hS => ?_)
    obtain ⟨hG2, ⟨fs2, hmo2⟩, hth, hbs2, ob, hout2, hob⟩ := hM2 M2 hR2
    refine lv_istore (lv' := [(6, .int r), (5, .int (nI kk)), (4, .int (nI (4 * k))), (3, .ref out), (2, .ref mo), (1, .ref xo), (0, .ref sb)]) hx hb dL_law_1699 hl (by decide) rfl (fun ls hl => ?_)
    refine lv_aload_n hx hb dL_law_1701 rfl (lv_at hl 4 rfl) ?_
    refine rd_goI (rd_runV (As := []) (rest := []) hx hb hml hown hts hK hM okV_RL_94_X4_thrown hth hmo2 rfl rfl rfl ⟨Nat.le_of_ble_eq_true rfl, Nat.le_of_ble_eq_true rfl⟩ hl.1 rfl (Nat.le_of_ble_eq_true rfl) dL_law_1702 ⟨by show 20 + 6 * k + mc1 + mc2 ≤ 601024; omega, by show 8000 + 100 * k + u + ms1 + ms2 ≤ 7293034; omega⟩) ?_
    refine lv_iload hx hb dL_law_1705 (lv_at hl 1 rfl) ?_
    refine lv_icmp_eq (tgt := 1712) hx hb dL_law_1707 (by decide) (fun _ => ?_) (fun h => absurd rfl h)
    refine lv_iload hx hb dL_law_1712 (lv_at hl 1 rfl) ?_
    refine lv_if_ne (tgt := 1729) hx hb dL_law_1714 (by decide) (fun hk0 => ?_) (fun hk0 => ?_)
    · refine lv_goto (tgt := 1885) hx hb dL_law_1729 (by decide) ?_
      exact W.widen (by omega) (by omega) (J M2 (u + ms2) _ _ ls hG2 hM hS (lv_sub hl [2, 3, 4, 5, 6] rfl))
    · have hkk : kk = 0 := (nI_eq (by omega) (by decide)).mp (show nI kk = nI 0 from hk0)
      refine lv_aload_n hx hb dL_law_1717 rfl (lv_at hl 3 rfl) ?_
      refine lv_iconst (v := nI 0) hx hb dL_law_1718 (by decide) ?_
      refine w_lald hx hb hK hM hout2 0 (by decide) (by decide) dL_law_1719 ?_
      refine lv_iload hx hb dL_law_1720 (lv_at hl 0 rfl) ?_
      refine w_i2l hx hb dL_law_1722 ?_
      refine lb_ceq (tgt := 1729) (a := (ob 0)) (b := r.toInt64.toBitVec) hx hb dL_law_1723 dL_law_1724 (by decide) (fun _ => ?_) (fun h => absurd (hob hkk) h)
      refine lv_goto (tgt := 1885) hx hb dL_law_1729 (by decide) ?_
      exact W.widen (by omega) (by omega) (J M2 (u + ms2) _ _ ls hG2 hM hS (lv_sub hl [2, 3, 4, 5, 6] rfl))
  · refine lv_aload_n hx hb dL_law_1648 rfl (lv_at hl 3 rfl) ?_
    refine lv_aload_n hx hb dL_law_1649 rfl (lv_at hl 4 rfl) ?_
    refine lv_iload hx hb dL_law_1650 (lv_at hl 0 rfl) ?_
    refine lv_iconst (v := nI 1) hx hb dL_law_1652 (by decide) ?_
    refine lv_iadd hx hb dL_law_1653 ?_
    rw [nI_add]
    refine w_scr hx hb hXs hbl hbA hS (4 * k + 1) (by omega) hL2 dL_law_1654 ?_
    refine lv_aload_n hx hb dL_law_1655 rfl (lv_at hl 4 rfl) ?_
    refine lv_iload hx hb dL_law_1656 (lv_at hl 0 rfl) ?_
    refine lv_iconst (v := nI 2) hx hb dL_law_1658 (by decide) ?_
    refine lv_iadd hx hb dL_law_1659 ?_
    rw [nI_add]
    refine w_scr hx hb hXs hbl hbA hS (4 * k + 2) (by omega) hL2 dL_law_1660 ?_
    refine lv_if_eq (tgt := 1668) hx hb dL_law_1661 (by decide) (fun h => absurd h hz2) (fun _ => ?_)
    refine lv_iconst (v := nI 1) hx hb dL_law_1664 (by decide) ?_
    refine lv_goto (tgt := 1669) hx hb dL_law_1665 (by decide) ?_
    refine lv_aload_n hx hb dL_law_1669 rfl (lv_at hl 1 rfl) ?_
    obtain ⟨d1, mc1, ms1, kk, Rm, hd1, hmc1, hms1, hkk3, hW1, hM1⟩ := semh_capturedCount l hl9 (D := D) (xs (4 * k + 1)) true k M u H.size hk (fun q hq => hAs q (Nat.le_trans hS.1 hq)) hG
    refine hc_go (hc_runS (As := [.ref xo, .int (xs (4 * k + 1)), .int (bI true), .ref out]) (rest := []) hx hb hml hown hts hK hX hM hS okH_capturedCount hW1 rfl ⟨by show d1 + 1 ≤ 13; omega, by show 8 + (5 + 11) + 40 * d1 ≤ 500; omega⟩ hl.1 rfl (Nat.le_of_ble_eq_true rfl) dL_law_1670 ⟨by show 20 + 6 * k + mc1 ≤ 601024; omega, by show 8000 + 100 * k + u + ms1 ≤ 7293034; omega⟩) hS (fun M1 H1 locs1 hR1 hHs1 hM hS => ?_)
    obtain ⟨⟨fs1, hmo1⟩, hbs1, hN1⟩ := hM1 M1 hR1
    refine lv_istore (lv' := [(5, .int (nI kk)), (4, .int (nI (4 * k))), (3, .ref out), (2, .ref mo), (1, .ref xo), (0, .ref sb)]) hx hb dL_law_1673 hl (by decide) rfl (fun ls hl => ?_)
    refine lv_aload_n hx hb dL_law_1675 rfl (lv_at hl 3 rfl) ?_
    refine lv_aload_n hx hb dL_law_1676 rfl (lv_at hl 5 rfl) ?_
    refine lv_iload hx hb dL_law_1677 (lv_at hl 1 rfl) ?_
    refine lv_iconst (v := nI 1) hx hb dL_law_1679 (by decide) ?_
    refine lv_iadd hx hb dL_law_1680 ?_
    rw [nI_add]
    refine w_scr hx hb hXs hbl hbA hS (4 * k + 1) (by omega) hL2 dL_law_1681 ?_
    refine lv_aload_n hx hb dL_law_1682 rfl (lv_at hl 5 rfl) ?_
    refine lv_iload hx hb dL_law_1683 (lv_at hl 1 rfl) ?_
    refine lv_iconst (v := nI 2) hx hb dL_law_1685 (by decide) ?_
    refine lv_iadd hx hb dL_law_1686 ?_
    rw [nI_add]
    refine w_scr hx hb hXs hbl hbA hS (4 * k + 2) (by omega) hL2 dL_law_1687 ?_
    refine lv_if_eq (tgt := 1695) hx hb dL_law_1688 (by decide) (fun h => absurd h hz2) (fun _ => ?_)
    refine lv_iconst (v := nI 1) hx hb dL_law_1691 (by decide) ?_
    refine lv_goto (tgt := 1696) hx hb dL_law_1692 (by decide) ?_
    obtain ⟨d2, mc2, ms2, r, Rm2, hd2, hmc2, hms2, hW2, hM2⟩ := hN1 H1.size (fun q hq => hAs q (Nat.le_trans hS.1 hq))
    refine wr_go (wr_runV (As := [.int (xs (4 * k + 1)), .int (bI true)]) (rest := []) hx hb hml hown hts hK hM okV_RL_211_X4_capturedCount hW2 hmo1 rfl rfl rfl ⟨by show d2 + 1 ≤ 13; omega, by show 8 + (3 + 11) + 40 * d2 ≤ 500; omega⟩ hl.1 rfl (Nat.le_of_ble_eq_true rfl) dL_law_1696 ⟨by show 20 + 6 * k + mc1 + mc2 ≤ 601024; omega, by show 8000 + 100 * k + u + ms1 + ms2 ≤ 7293034; omega⟩) hS (fun M2 H2 locs2 hR2 hHs2 hM hS => ?_)
    obtain ⟨hG2, ⟨fs2, hmo2⟩, hth, hbs2, ob, hout2, hob⟩ := hM2 M2 hR2
    refine lv_istore (lv' := [(6, .int r), (5, .int (nI kk)), (4, .int (nI (4 * k))), (3, .ref out), (2, .ref mo), (1, .ref xo), (0, .ref sb)]) hx hb dL_law_1699 hl (by decide) rfl (fun ls hl => ?_)
    refine lv_aload_n hx hb dL_law_1701 rfl (lv_at hl 4 rfl) ?_
    refine rd_goI (rd_runV (As := []) (rest := []) hx hb hml hown hts hK hM okV_RL_94_X4_thrown hth hmo2 rfl rfl rfl ⟨Nat.le_of_ble_eq_true rfl, Nat.le_of_ble_eq_true rfl⟩ hl.1 rfl (Nat.le_of_ble_eq_true rfl) dL_law_1702 ⟨by show 20 + 6 * k + mc1 + mc2 ≤ 601024; omega, by show 8000 + 100 * k + u + ms1 + ms2 ≤ 7293034; omega⟩) ?_
    refine lv_iload hx hb dL_law_1705 (lv_at hl 1 rfl) ?_
    refine lv_icmp_eq (tgt := 1712) hx hb dL_law_1707 (by decide) (fun _ => ?_) (fun h => absurd rfl h)
    refine lv_iload hx hb dL_law_1712 (lv_at hl 1 rfl) ?_
    refine lv_if_ne (tgt := 1729) hx hb dL_law_1714 (by decide) (fun hk0 => ?_) (fun hk0 => ?_)
    · refine lv_goto (tgt := 1885) hx hb dL_law_1729 (by decide) ?_
      exact W.widen (by omega) (by omega) (J M2 (u + ms2) _ _ ls hG2 hM hS (lv_sub hl [2, 3, 4, 5, 6] rfl))
    · have hkk : kk = 0 := (nI_eq (by omega) (by decide)).mp (show nI kk = nI 0 from hk0)
      refine lv_aload_n hx hb dL_law_1717 rfl (lv_at hl 3 rfl) ?_
      refine lv_iconst (v := nI 0) hx hb dL_law_1718 (by decide) ?_
      refine w_lald hx hb hK hM hout2 0 (by decide) (by decide) dL_law_1719 ?_
      refine lv_iload hx hb dL_law_1720 (lv_at hl 0 rfl) ?_
      refine w_i2l hx hb dL_law_1722 ?_
      refine lb_ceq (tgt := 1729) (a := (ob 0)) (b := r.toInt64.toBitVec) hx hb dL_law_1723 dL_law_1724 (by decide) (fun _ => ?_) (fun h => absurd (hob hkk) h)
      refine lv_goto (tgt := 1885) hx hb dL_law_1729 (by decide) ?_
      exact W.widen (by omega) (by omega) (J M2 (u + ms2) _ _ ls hG2 hM hS (lv_sub hl [2, 3, 4, 5, 6] rfl))
set_option maxHeartbeats 4000000 in
set_option maxRecDepth 100000 in
theorem law_33 {p : Program} {l : Launch} {e : Env} {s : State} {m : MethodId} {below : List Frame} {meth : Method} {c : Code} {H : Heap} {locs : List Loc} {Q : State → Prop} {ls : Array Slot} {D : va_G} {cI cJ : ClassId} {M : MP} {A : Nat → Prop} {sb L xo mo out : Nat} {xs : Nat → Int32} (S : LSt p l s m c D cI cJ A sb L xs) {k u : Nat} (hk : k < 512) (hL : 4 * k + 4 ≤ L) (hL2 : L ≤ 2048) (hG : GI cI cJ A sb L xs xo mo out k M u) (hM : HM D M H) (hS : va_S A s.heap H locs) (hl : lv_has ls 9 [(4, .int (nI (4 * k))), (3, .ref out), (2, .ref mo), (1, .ref xo), (0, .ref sb)]) (J : LJ p l e s m below meth c D cI cJ A sb L xs xo mo out k Q) : W p l e room_1 s m #[Value.ref sb] below meth c H locs (20 + 6 * k) (8000 + 100 * k + u) Q (F0 m 1732 ls []) := by
  obtain ⟨hx, hb, hml, hown, hts, hK, hX, hl9, hAs, hXs, hbl, hbA⟩ := S
  have hu9 := hG.u_le
  have hbs := hG.scr
  by_cases hz1 : xs (4 * k + 1) = 0
  · refine lv_aload_n hx hb dL_law_1732 rfl (lv_at hl 3 rfl) ?_
    refine lv_aload_n hx hb dL_law_1733 rfl (lv_at hl 4 rfl) ?_
    refine lv_iload hx hb dL_law_1734 (lv_at hl 0 rfl) ?_
    refine lv_iconst (v := nI 1) hx hb dL_law_1736 (by decide) ?_
    refine lv_iadd hx hb dL_law_1737 ?_
    rw [nI_add]
    refine w_scr hx hb hXs hbl hbA hS (4 * k + 1) (by omega) hL2 dL_law_1738 ?_
    refine lv_if_eq (tgt := 1746) hx hb dL_law_1739 (by decide) (fun _ => ?_) (fun h => absurd hz1 h)
    refine lv_iconst (v := nI 0) hx hb dL_law_1746 (by decide) ?_
    obtain ⟨d1, r, Rm, hd1, hok, ⟨fs0, hxo⟩, hW1, hM1⟩ := sem_strengthOf l (D := D) false k M u H.size hk (fun q hq => hAs q (Nat.le_trans hS.1 hq)) hG
    have hnn : FP.Core.val64 (FP.f2d r) ≠ .nan := by obtain ⟨_, _, _, z⟩ := hok; rw [z]; exact FP.Core.Datum.noConfusion
    refine wr_go (wr_runV (As := [.int (bI false)]) (rest := []) hx hb hml hown hts hK hM okV_RL_212_X3_strengthOf hW1 hxo rfl rfl rfl ⟨by show d1 + 1 ≤ 13; omega, by show 8 + (7 + 11) + 40 * d1 ≤ 500; omega⟩ hl.1 rfl (Nat.le_of_ble_eq_true rfl) dL_law_1747 ⟨by show 20 + 6 * k + 0 ≤ 601024; omega, by show 8000 + 100 * k + u + 0 ≤ 7293034; omega⟩) hS (fun M1 H1 locs1 hR1 hHs1 hM hS => ?_)
    obtain ⟨⟨fs1, hmo1⟩, hbs1, hN1⟩ := hM1 M1 hR1
    refine lv_f2d hx hb dL_law_1750 (nn64_of hnn) ?_
    refine lv_dstore (lv' := [(5, .double (FP.f2d r)), (4, .int (nI (4 * k))), (3, .ref out), (2, .ref mo), (1, .ref xo), (0, .ref sb)]) hx hb dL_law_1751 hl (by decide) rfl (fun ls hl => ?_)
    refine lv_aload_n hx hb dL_law_1753 rfl (lv_at hl 3 rfl) ?_
    refine lv_aload_n hx hb dL_law_1754 rfl (lv_at hl 5 rfl) ?_
    refine lv_iload hx hb dL_law_1755 (lv_at hl 1 rfl) ?_
    refine lv_iconst (v := nI 1) hx hb dL_law_1757 (by decide) ?_
    refine lv_iadd hx hb dL_law_1758 ?_
    rw [nI_add]
    refine w_scr hx hb hXs hbl hbA hS (4 * k + 1) (by omega) hL2 dL_law_1759 ?_
    refine lv_if_eq (tgt := 1767) hx hb dL_law_1760 (by decide) (fun _ => ?_) (fun h => absurd hz1 h)
    refine lv_iconst (v := nI 0) hx hb dL_law_1767 (by decide) ?_
    obtain ⟨d2, Rm2, hd2, hW2, hM2⟩ := hN1 H1.size
    refine wr_go (wr_runV (As := [.int (bI false)]) (rest := []) hx hb hml hown hts hK hM okV_RL_216_X4_strengthOf hW2 hmo1 rfl rfl rfl ⟨by show d2 + 1 ≤ 13; omega, by show 8 + (2 + 11) + 40 * d2 ≤ 500; omega⟩ hl.1 rfl (Nat.le_of_ble_eq_true rfl) dL_law_1768 ⟨by show 20 + 6 * k + 0 + 0 ≤ 601024; omega, by show 8000 + 100 * k + u + 0 + 0 ≤ 7293034; omega⟩) hS (fun M2 H2 locs2 hR2 hHs2 hM hS => ?_)
    have hG2 := hM2 M2 hR2
    refine lv_f2d hx hb dL_law_1771 (nn64_of hnn) ?_
    refine lv_dstore (lv' := [(7, .double (FP.f2d r)), (5, .double (FP.f2d r)), (4, .int (nI (4 * k))), (3, .ref out), (2, .ref mo), (1, .ref xo), (0, .ref sb)]) hx hb dL_law_1772 hl (by decide) rfl (fun ls hl => ?_)
    refine lv_dload hx hb dL_law_1774 (lv_at hl 1 rfl) ?_
    refine lv_dload hx hb dL_law_1776 (lv_at hl 0 rfl) ?_
    refine lv_dcmp hx hb dL_law_1778 ?_
    rw [dcmp_r hnn]
    refine lv_if_eq (tgt := 1800) hx hb dL_law_1779 (by decide) (fun _ => ?_) (fun h => absurd rfl h)
    refine lv_goto (tgt := 1885) hx hb dL_law_1800 (by decide) ?_
    exact W.widen (by omega) (by omega) (J M2 (u) _ _ ls hG2 hM hS (lv_sub hl [2, 3, 4, 5, 6] rfl))
  · refine lv_aload_n hx hb dL_law_1732 rfl (lv_at hl 3 rfl) ?_
    refine lv_aload_n hx hb dL_law_1733 rfl (lv_at hl 4 rfl) ?_
    refine lv_iload hx hb dL_law_1734 (lv_at hl 0 rfl) ?_
    refine lv_iconst (v := nI 1) hx hb dL_law_1736 (by decide) ?_
    refine lv_iadd hx hb dL_law_1737 ?_
    rw [nI_add]
    refine w_scr hx hb hXs hbl hbA hS (4 * k + 1) (by omega) hL2 dL_law_1738 ?_
    refine lv_if_eq (tgt := 1746) hx hb dL_law_1739 (by decide) (fun h => absurd h hz1) (fun _ => ?_)
    refine lv_iconst (v := nI 1) hx hb dL_law_1742 (by decide) ?_
    refine lv_goto (tgt := 1747) hx hb dL_law_1743 (by decide) ?_
    obtain ⟨d1, r, Rm, hd1, hok, ⟨fs0, hxo⟩, hW1, hM1⟩ := sem_strengthOf l (D := D) true k M u H.size hk (fun q hq => hAs q (Nat.le_trans hS.1 hq)) hG
    have hnn : FP.Core.val64 (FP.f2d r) ≠ .nan := by obtain ⟨_, _, _, z⟩ := hok; rw [z]; exact FP.Core.Datum.noConfusion
    refine wr_go (wr_runV (As := [.int (bI true)]) (rest := []) hx hb hml hown hts hK hM okV_RL_212_X3_strengthOf hW1 hxo rfl rfl rfl ⟨by show d1 + 1 ≤ 13; omega, by show 8 + (7 + 11) + 40 * d1 ≤ 500; omega⟩ hl.1 rfl (Nat.le_of_ble_eq_true rfl) dL_law_1747 ⟨by show 20 + 6 * k + 0 ≤ 601024; omega, by show 8000 + 100 * k + u + 0 ≤ 7293034; omega⟩) hS (fun M1 H1 locs1 hR1 hHs1 hM hS => ?_)
    obtain ⟨⟨fs1, hmo1⟩, hbs1, hN1⟩ := hM1 M1 hR1
    refine lv_f2d hx hb dL_law_1750 (nn64_of hnn) ?_
    refine lv_dstore (lv' := [(5, .double (FP.f2d r)), (4, .int (nI (4 * k))), (3, .ref out), (2, .ref mo), (1, .ref xo), (0, .ref sb)]) hx hb dL_law_1751 hl (by decide) rfl (fun ls hl => ?_)
    refine lv_aload_n hx hb dL_law_1753 rfl (lv_at hl 3 rfl) ?_
    refine lv_aload_n hx hb dL_law_1754 rfl (lv_at hl 5 rfl) ?_
    refine lv_iload hx hb dL_law_1755 (lv_at hl 1 rfl) ?_
    refine lv_iconst (v := nI 1) hx hb dL_law_1757 (by decide) ?_
    refine lv_iadd hx hb dL_law_1758 ?_
    rw [nI_add]
    refine w_scr hx hb hXs hbl hbA hS (4 * k + 1) (by omega) hL2 dL_law_1759 ?_
    refine lv_if_eq (tgt := 1767) hx hb dL_law_1760 (by decide) (fun h => absurd h hz1) (fun _ => ?_)
    refine lv_iconst (v := nI 1) hx hb dL_law_1763 (by decide) ?_
    refine lv_goto (tgt := 1768) hx hb dL_law_1764 (by decide) ?_
    obtain ⟨d2, Rm2, hd2, hW2, hM2⟩ := hN1 H1.size
    refine wr_go (wr_runV (As := [.int (bI true)]) (rest := []) hx hb hml hown hts hK hM okV_RL_216_X4_strengthOf hW2 hmo1 rfl rfl rfl ⟨by show d2 + 1 ≤ 13; omega, by show 8 + (2 + 11) + 40 * d2 ≤ 500; omega⟩ hl.1 rfl (Nat.le_of_ble_eq_true rfl) dL_law_1768 ⟨by show 20 + 6 * k + 0 + 0 ≤ 601024; omega, by show 8000 + 100 * k + u + 0 + 0 ≤ 7293034; omega⟩) hS (fun M2 H2 locs2 hR2 hHs2 hM hS => ?_)
    have hG2 := hM2 M2 hR2
    refine lv_f2d hx hb dL_law_1771 (nn64_of hnn) ?_
    refine lv_dstore (lv' := [(7, .double (FP.f2d r)), (5, .double (FP.f2d r)), (4, .int (nI (4 * k))), (3, .ref out), (2, .ref mo), (1, .ref xo), (0, .ref sb)]) hx hb dL_law_1772 hl (by decide) rfl (fun ls hl => ?_)
    refine lv_dload hx hb dL_law_1774 (lv_at hl 1 rfl) ?_
    refine lv_dload hx hb dL_law_1776 (lv_at hl 0 rfl) ?_
    refine lv_dcmp hx hb dL_law_1778 ?_
    rw [dcmp_r hnn]
    refine lv_if_eq (tgt := 1800) hx hb dL_law_1779 (by decide) (fun _ => ?_) (fun h => absurd rfl h)
    refine lv_goto (tgt := 1885) hx hb dL_law_1800 (by decide) ?_
    exact W.widen (by omega) (by omega) (J M2 (u) _ _ ls hG2 hM hS (lv_sub hl [2, 3, 4, 5, 6] rfl))
set_option maxHeartbeats 4000000 in
set_option maxRecDepth 100000 in
theorem law_34 {p : Program} {l : Launch} {e : Env} {s : State} {m : MethodId} {below : List Frame} {meth : Method} {c : Code} {H : Heap} {locs : List Loc} {Q : State → Prop} {ls : Array Slot} {D : va_G} {cI cJ : ClassId} {M : MP} {A : Nat → Prop} {sb L xo mo out : Nat} {xs : Nat → Int32} (S : LSt p l s m c D cI cJ A sb L xs) {k u : Nat} (hk : k < 512) (hL : 4 * k + 4 ≤ L) (hL2 : L ≤ 2048) (hG : GI cI cJ A sb L xs xo mo out k M u) (hM : HM D M H) (hS : va_S A s.heap H locs) (hl : lv_has ls 9 [(4, .int (nI (4 * k))), (3, .ref out), (2, .ref mo), (1, .ref xo), (0, .ref sb)]) (J : LJ p l e s m below meth c D cI cJ A sb L xs xo mo out k Q) : W p l e room_1 s m #[Value.ref sb] below meth c H locs (20 + 6 * k) (8000 + 100 * k + u) Q (F0 m 1803 ls []) := by
  obtain ⟨hx, hb, hml, hown, hts, hK, hX, hl9, hAs, hXs, hbl, hbA⟩ := S
  have hu9 := hG.u_le
  have hbs := hG.scr
  by_cases hz1 : xs (4 * k + 1) = 0
  · refine lv_aload_n hx hb dL_law_1803 rfl (lv_at hl 3 rfl) ?_
    refine lv_aload_n hx hb dL_law_1804 rfl (lv_at hl 4 rfl) ?_
    refine lv_iload hx hb dL_law_1805 (lv_at hl 0 rfl) ?_
    refine lv_iconst (v := nI 1) hx hb dL_law_1807 (by decide) ?_
    refine lv_iadd hx hb dL_law_1808 ?_
    rw [nI_add]
    refine w_scr hx hb hXs hbl hbA hS (4 * k + 1) (by omega) hL2 dL_law_1809 ?_
    refine lv_if_eq (tgt := 1817) hx hb dL_law_1810 (by decide) (fun _ => ?_) (fun h => absurd hz1 h)
    refine lv_iconst (v := nI 0) hx hb dL_law_1817 (by decide) ?_
    obtain ⟨d1, r, Rm, hd1, hok, ⟨fs0, hxo⟩, hW1, hM1⟩ := sem_strengthBits l (D := D) false k M u H.size hk (fun q hq => hAs q (Nat.le_trans hS.1 hq)) hG
    refine wr_go (wr_runV (As := [.int (bI false)]) (rest := []) hx hb hml hown hts hK hM okV_RL_217_X3_strengthBits hW1 hxo rfl rfl rfl ⟨by show d1 + 1 ≤ 13; omega, by show 8 + (2 + 11) + 40 * d1 ≤ 500; omega⟩ hl.1 rfl (Nat.le_of_ble_eq_true rfl) dL_law_1818 ⟨by show 20 + 6 * k + 0 ≤ 601024; omega, by show 8000 + 100 * k + u + 0 ≤ 7293034; omega⟩) hS (fun M1 H1 locs1 hR1 hHs1 hM hS => ?_)
    obtain ⟨⟨fs1, hmo1⟩, hbs1, hN1⟩ := hM1 M1 hR1
    refine lv_aload_n hx hb dL_law_1821 rfl (lv_at hl 2 rfl) ?_
    refine lv_aload_n hx hb dL_law_1822 rfl (lv_at hl 4 rfl) ?_
    refine lv_iload hx hb dL_law_1823 (lv_at hl 0 rfl) ?_
    refine lv_iconst (v := nI 1) hx hb dL_law_1825 (by decide) ?_
    refine lv_iadd hx hb dL_law_1826 ?_
    rw [nI_add]
    refine w_scr hx hb hXs hbl hbA hS (4 * k + 1) (by omega) hL2 dL_law_1827 ?_
    refine lv_if_eq (tgt := 1835) hx hb dL_law_1828 (by decide) (fun _ => ?_) (fun h => absurd hz1 h)
    refine lv_iconst (v := nI 0) hx hb dL_law_1835 (by decide) ?_
    obtain ⟨d2, Rm2, hd2, hW2, hM2⟩ := hN1 H1.size
    refine wr_go (wr_runV (As := [.int (bI false)]) (rest := [.int r]) hx hb hml hown hts hK hM okV_RL_220_X4_strengthBits hW2 hmo1 rfl rfl rfl ⟨by show d2 + 1 ≤ 13; omega, by show 8 + (2 + 11) + 40 * d2 ≤ 500; omega⟩ hl.1 rfl (Nat.le_of_ble_eq_true rfl) dL_law_1836 ⟨by show 20 + 6 * k + 0 + 0 ≤ 601024; omega, by show 8000 + 100 * k + u + 0 + 0 ≤ 7293034; omega⟩) hS (fun M2 H2 locs2 hR2 hHs2 hM hS => ?_)
    have hG2 := hM2 M2 hR2
    refine lv_icmp_eq (tgt := 1885) hx hb dL_law_1839 (by decide) (fun _ => ?_) (fun h => absurd rfl h)
    exact W.widen (by omega) (by omega) (J M2 (u) _ _ ls hG2 hM hS (lv_sub hl [0, 1, 2, 3, 4] rfl))
  · refine lv_aload_n hx hb dL_law_1803 rfl (lv_at hl 3 rfl) ?_
    refine lv_aload_n hx hb dL_law_1804 rfl (lv_at hl 4 rfl) ?_
    refine lv_iload hx hb dL_law_1805 (lv_at hl 0 rfl) ?_
    refine lv_iconst (v := nI 1) hx hb dL_law_1807 (by decide) ?_
    refine lv_iadd hx hb dL_law_1808 ?_
    rw [nI_add]
    refine w_scr hx hb hXs hbl hbA hS (4 * k + 1) (by omega) hL2 dL_law_1809 ?_
    refine lv_if_eq (tgt := 1817) hx hb dL_law_1810 (by decide) (fun h => absurd h hz1) (fun _ => ?_)
    refine lv_iconst (v := nI 1) hx hb dL_law_1813 (by decide) ?_
    refine lv_goto (tgt := 1818) hx hb dL_law_1814 (by decide) ?_
    obtain ⟨d1, r, Rm, hd1, hok, ⟨fs0, hxo⟩, hW1, hM1⟩ := sem_strengthBits l (D := D) true k M u H.size hk (fun q hq => hAs q (Nat.le_trans hS.1 hq)) hG
    refine wr_go (wr_runV (As := [.int (bI true)]) (rest := []) hx hb hml hown hts hK hM okV_RL_217_X3_strengthBits hW1 hxo rfl rfl rfl ⟨by show d1 + 1 ≤ 13; omega, by show 8 + (2 + 11) + 40 * d1 ≤ 500; omega⟩ hl.1 rfl (Nat.le_of_ble_eq_true rfl) dL_law_1818 ⟨by show 20 + 6 * k + 0 ≤ 601024; omega, by show 8000 + 100 * k + u + 0 ≤ 7293034; omega⟩) hS (fun M1 H1 locs1 hR1 hHs1 hM hS => ?_)
    obtain ⟨⟨fs1, hmo1⟩, hbs1, hN1⟩ := hM1 M1 hR1
    refine lv_aload_n hx hb dL_law_1821 rfl (lv_at hl 2 rfl) ?_
    refine lv_aload_n hx hb dL_law_1822 rfl (lv_at hl 4 rfl) ?_
    refine lv_iload hx hb dL_law_1823 (lv_at hl 0 rfl) ?_
    refine lv_iconst (v := nI 1) hx hb dL_law_1825 (by decide) ?_
    refine lv_iadd hx hb dL_law_1826 ?_
    rw [nI_add]
    refine w_scr hx hb hXs hbl hbA hS (4 * k + 1) (by omega) hL2 dL_law_1827 ?_
    refine lv_if_eq (tgt := 1835) hx hb dL_law_1828 (by decide) (fun h => absurd h hz1) (fun _ => ?_)
    refine lv_iconst (v := nI 1) hx hb dL_law_1831 (by decide) ?_
    refine lv_goto (tgt := 1836) hx hb dL_law_1832 (by decide) ?_
    obtain ⟨d2, Rm2, hd2, hW2, hM2⟩ := hN1 H1.size
    refine wr_go (wr_runV (As := [.int (bI true)]) (rest := [.int r]) hx hb hml hown hts hK hM okV_RL_220_X4_strengthBits hW2 hmo1 rfl rfl rfl ⟨by show d2 + 1 ≤ 13; omega, by show 8 + (2 + 11) + 40 * d2 ≤ 500; omega⟩ hl.1 rfl (Nat.le_of_ble_eq_true rfl) dL_law_1836 ⟨by show 20 + 6 * k + 0 + 0 ≤ 601024; omega, by show 8000 + 100 * k + u + 0 + 0 ≤ 7293034; omega⟩) hS (fun M2 H2 locs2 hR2 hHs2 hM hS => ?_)
    have hG2 := hM2 M2 hR2
    refine lv_icmp_eq (tgt := 1885) hx hb dL_law_1839 (by decide) (fun _ => ?_) (fun h => absurd rfl h)
    exact W.widen (by omega) (by omega) (J M2 (u) _ _ ls hG2 hM hS (lv_sub hl [0, 1, 2, 3, 4] rfl))
set_option maxHeartbeats 4000000 in
set_option maxRecDepth 100000 in
theorem law_35 {p : Program} {l : Launch} {e : Env} {s : State} {m : MethodId} {below : List Frame} {meth : Method} {c : Code} {H : Heap} {locs : List Loc} {Q : State → Prop} {ls : Array Slot} {D : va_G} {cI cJ : ClassId} {M : MP} {A : Nat → Prop} {sb L xo mo out : Nat} {xs : Nat → Int32} (S : LSt p l s m c D cI cJ A sb L xs) {k u : Nat} (hk : k < 512) (hL : 4 * k + 4 ≤ L) (hL2 : L ≤ 2048) (hG : GI cI cJ A sb L xs xo mo out k M u) (hM : HM D M H) (hS : va_S A s.heap H locs) (hl : lv_has ls 9 [(4, .int (nI (4 * k))), (3, .ref out), (2, .ref mo), (1, .ref xo), (0, .ref sb)]) (J : LJ p l e s m below meth c D cI cJ A sb L xs xo mo out k Q) : W p l e room_1 s m #[Value.ref sb] below meth c H locs (20 + 6 * k) (8000 + 100 * k + u) Q (F0 m 1844 ls []) := by
  obtain ⟨hx, hb, hml, hown, hts, hK, hX, hl9, hAs, hXs, hbl, hbA⟩ := S
  have hu9 := hG.u_le
  have hbs := hG.scr
  refine lv_aload_n hx hb dL_law_1844 rfl (lv_at hl 3 rfl) ?_
  obtain ⟨d1, r, Rm, hd1, hok, ⟨fs0, hxo⟩, hW1, hM1⟩ := sem_balance l (D := D) k M u H.size hk (fun q hq => hAs q (Nat.le_trans hS.1 hq)) hG
  have hnn : FP.Core.val64 r ≠ .nan := hok
  refine wr_go (wr_runV (As := []) (rest := []) hx hb hml hown hts hK hM okV_RL_221_X3_balance hW1 hxo rfl rfl rfl ⟨by show d1 + 1 ≤ 13; omega, by show 8 + (1 + 11) + 40 * d1 ≤ 500; omega⟩ hl.1 rfl (Nat.le_of_ble_eq_true rfl) dL_law_1845 ⟨by show 20 + 6 * k + 0 ≤ 601024; omega, by show 8000 + 100 * k + u + 0 ≤ 7293034; omega⟩) hS (fun M1 H1 locs1 hR1 hHs1 hM hS => ?_)
  obtain ⟨⟨fs1, hmo1⟩, hbs1, hN1⟩ := hM1 M1 hR1
  refine lv_dstore (lv' := [(5, .double r), (4, .int (nI (4 * k))), (3, .ref out), (2, .ref mo), (1, .ref xo), (0, .ref sb)]) hx hb dL_law_1848 hl (by decide) rfl (fun ls hl => ?_)
  refine lv_aload_n hx hb dL_law_1850 rfl (lv_at hl 3 rfl) ?_
  obtain ⟨d2, Rm2, hd2, hW2, hM2⟩ := hN1 H1.size
  refine wr_go (wr_runV (As := []) (rest := []) hx hb hml hown hts hK hM okV_RL_225_X4_balance hW2 hmo1 rfl rfl rfl ⟨by show d2 + 1 ≤ 13; omega, by show 8 + (1 + 11) + 40 * d2 ≤ 500; omega⟩ hl.1 rfl (Nat.le_of_ble_eq_true rfl) dL_law_1851 ⟨by show 20 + 6 * k + 0 + 0 ≤ 601024; omega, by show 8000 + 100 * k + u + 0 + 0 ≤ 7293034; omega⟩) hS (fun M2 H2 locs2 hR2 hHs2 hM hS => ?_)
  have hG2 := hM2 M2 hR2
  refine lv_dstore (lv' := [(7, .double r), (5, .double r), (4, .int (nI (4 * k))), (3, .ref out), (2, .ref mo), (1, .ref xo), (0, .ref sb)]) hx hb dL_law_1854 hl (by decide) rfl (fun ls hl => ?_)
  refine lv_dload hx hb dL_law_1856 (lv_at hl 1 rfl) ?_
  refine lv_dload hx hb dL_law_1858 (lv_at hl 0 rfl) ?_
  refine lv_dcmp hx hb dL_law_1860 ?_
  rw [dcmp_r hnn]
  refine lv_if_eq (tgt := 1882) hx hb dL_law_1861 (by decide) (fun _ => ?_) (fun h => absurd rfl h)
  refine lv_goto (tgt := 1885) hx hb dL_law_1882 (by decide) ?_
  exact W.widen (by omega) (by omega) (J M2 (u) _ _ ls hG2 hM hS (lv_sub hl [2, 3, 4, 5, 6] rfl))
