theorem xat_IO {A : Nat → Prop} {s : State} {args : Array Value} {H : Heap} (hts : ∀ w ∈ AW, w.before args s = true) (hX : KXA A s H) : ∀ w ∈ vx_atS RX3 280 xIO xNM, w.before args s = true := by
  intro w hw
  unfold vx_atS at hw
  obtain ⟨hm, hz⟩ := List.mem_filter.mp hw
  simp only [Bundle.ownAtoms, Bundle.throwableAtoms, Bundle.throwableSAtoms, xNM, Bundle.chainSAtoms, Bundle.passSAtoms, List.mem_append, List.mem_cons, List.not_mem_nil, or_false, or_assoc] at hm
  rcases hm with rfl | rfl | rfl | rfl | rfl | rfl | rfl | rfl | rfl | rfl | rfl | rfl | rfl | rfl | rfl | rfl | rfl | rfl | rfl | rfl | rfl | rfl | rfl | rfl | rfl | rfl | rfl | rfl | rfl | rfl | rfl | rfl | rfl | rfl | rfl | rfl | rfl | rfl | rfl | rfl | rfl | rfl | rfl | rfl | rfl | rfl | rfl | rfl | rfl | rfl | rfl | rfl | rfl | rfl | rfl | rfl | rfl
  · exact hts _ qw_1_8
  · exact hts _ qw_2_178
  · exact hts _ qw_2_187
  · exact hts _ qw_2_192
  · exact hts _ qw_2_195
  · exact hts _ qw_2_197
  · exact hts _ qw_2_179
  · exact hts _ qw_2_180
  · exact hts _ qw_1_26
  · exact hts _ qw_1_27
  · exact hts _ qw_2_181
  · exact hts _ qw_2_186
  · exact hts _ qw_2_193
  · exact hts _ qw_2_213
  · exact hts _ qw_2_168
  · exact hts _ qw_2_214
  · exact hts _ qw_2_170
  · exact hts _ qw_2_215
  · exact hts _ qw_2_172
  · exact hts _ qw_2_182
  · exact absurd hz (by decide)
  · exact hts _ qw_2_184
  · exact absurd hz (by decide)
  · exact hts _ qw_2_174
  · exact hts _ qw_2_209
  · exact hts _ qw_2_210
  · exact hts _ qw_2_212
  · exact hts _ qw_2_174
  · exact hts _ qw_2_200
  · exact hts _ qw_2_201
  · exact hts _ qw_2_202
  · exact hts _ qw_2_203
  · exact va_Nw.use rfl (hX.1 _ (List.mem_of_getElem? (i := 4) rfl))
  · exact hts _ qw_2_203
  · exact hts _ qw_2_204
  · exact hts _ qw_2_205
  · exact hts _ qw_2_206
  · exact va_Nw.use rfl (hX.1 _ (List.mem_of_getElem? (i := 5) rfl))
  · exact hts _ qw_2_206
  · exact hts _ qw_2_207
  · exact hts _ qw_2_208
  · exact hts _ qw_2_209
  · exact va_Nw.use rfl (hX.1 _ (List.mem_of_getElem? (i := 6) rfl))
  · exact hts _ qw_2_199
  · exact hts _ qw_2_157
  · exact va_Nw.use rfl (hX.1 _ (List.mem_of_getElem? (i := 0) rfl))
  · exact hts _ qw_2_165
  · exact hts _ qw_2_166
  · exact hts _ qw_2_167
  · exact hts _ qw_2_169
  · exact hts _ qw_2_171
  · exact hts _ qw_2_173
  · exact absurd hz (by decide)
  · exact absurd hz (by decide)
  · exact hts _ qw_2_177
  · exact hts _ qw_2_176
  · exact hts _ qw_2_175
theorem xgd_IO {ik : Nat} : ∀ w ∈ Cond.classLink RX3 ik xIO :: Cond.initialized xIO :: vx_atS RX3 280 xIO xNM, vx_ot w = true := by
  intro w hw
  rcases List.mem_cons.mp hw with rfl | hw
  · rfl
  rcases List.mem_cons.mp hw with rfl | hw
  · rfl
  unfold vx_atS at hw
  obtain ⟨hm, hz⟩ := List.mem_filter.mp hw
  simp only [Bundle.ownAtoms, Bundle.throwableAtoms, Bundle.throwableSAtoms, xNM, Bundle.chainSAtoms, Bundle.passSAtoms, List.mem_append, List.mem_cons, List.not_mem_nil, or_false, or_assoc] at hm
  rcases hm with rfl | rfl | rfl | rfl | rfl | rfl | rfl | rfl | rfl | rfl | rfl | rfl | rfl | rfl | rfl | rfl | rfl | rfl | rfl | rfl | rfl | rfl | rfl | rfl | rfl | rfl | rfl | rfl | rfl | rfl | rfl | rfl | rfl | rfl | rfl | rfl | rfl | rfl | rfl | rfl | rfl | rfl | rfl | rfl | rfl | rfl | rfl | rfl | rfl | rfl | rfl | rfl | rfl | rfl | rfl | rfl | rfl
  · rfl
  · rfl
  · rfl
  · rfl
  · rfl
  · rfl
  · rfl
  · rfl
  · rfl
  · rfl
  · rfl
  · rfl
  · rfl
  · rfl
  · rfl
  · rfl
  · rfl
  · rfl
  · rfl
  · rfl
  · exact absurd hz (by decide)
  · rfl
  · exact absurd hz (by decide)
  · rfl
  · rfl
  · rfl
  · rfl
  · rfl
  · rfl
  · rfl
  · rfl
  · rfl
  · rfl
  · rfl
  · rfl
  · rfl
  · rfl
  · rfl
  · rfl
  · rfl
  · rfl
  · rfl
  · rfl
  · rfl
  · rfl
  · rfl
  · rfl
  · rfl
  · rfl
  · rfl
  · rfl
  · rfl
  · exact absurd hz (by decide)
  · exact absurd hz (by decide)
  · rfl
  · rfl
  · rfl
theorem xat_IA {A : Nat → Prop} {s : State} {args : Array Value} {H : Heap} (hts : ∀ w ∈ AW, w.before args s = true) (hX : KXA A s H) : ∀ w ∈ vx_atS RX3 192 xIA xNM, w.before args s = true := by
  intro w hw
  unfold vx_atS at hw
  obtain ⟨hm, hz⟩ := List.mem_filter.mp hw
  simp only [Bundle.ownAtoms, Bundle.throwableAtoms, Bundle.throwableSAtoms, xNM, Bundle.chainSAtoms, Bundle.passSAtoms, List.mem_append, List.mem_cons, List.not_mem_nil, or_false, or_assoc] at hm
  rcases hm with rfl | rfl | rfl | rfl | rfl | rfl | rfl | rfl | rfl | rfl | rfl | rfl | rfl | rfl | rfl | rfl | rfl | rfl | rfl | rfl | rfl | rfl | rfl | rfl | rfl | rfl | rfl | rfl | rfl | rfl | rfl | rfl | rfl | rfl | rfl | rfl | rfl | rfl | rfl | rfl | rfl | rfl | rfl | rfl | rfl | rfl | rfl | rfl | rfl | rfl | rfl | rfl | rfl | rfl | rfl | rfl | rfl
  · exact hts _ qw_1_8
  · exact hts _ qw_2_178
  · exact hts _ qw_2_187
  · exact hts _ qw_2_192
  · exact hts _ qw_2_195
  · exact hts _ qw_2_197
  · exact hts _ qw_2_179
  · exact hts _ qw_2_180
  · exact hts _ qw_1_26
  · exact hts _ qw_1_27
  · exact hts _ qw_2_181
  · exact hts _ qw_2_186
  · exact hts _ qw_2_193
  · exact hts _ qw_2_213
  · exact hts _ qw_2_168
  · exact hts _ qw_2_214
  · exact hts _ qw_2_170
  · exact hts _ qw_2_215
  · exact hts _ qw_2_172
  · exact hts _ qw_2_182
  · exact absurd hz (by decide)
  · exact hts _ qw_2_184
  · exact absurd hz (by decide)
  · exact hts _ qw_2_174
  · exact hts _ qw_2_209
  · exact hts _ qw_2_210
  · exact hts _ qw_2_212
  · exact hts _ qw_2_174
  · exact hts _ qw_2_239
  · exact hts _ qw_3_0
  · exact hts _ qw_3_1
  · exact hts _ qw_2_203
  · exact va_Nw.use rfl (hX.1 _ (List.mem_of_getElem? (i := 4) rfl))
  · exact hts _ qw_2_203
  · exact hts _ qw_2_204
  · exact hts _ qw_2_205
  · exact hts _ qw_2_206
  · exact va_Nw.use rfl (hX.1 _ (List.mem_of_getElem? (i := 5) rfl))
  · exact hts _ qw_2_206
  · exact hts _ qw_2_207
  · exact hts _ qw_2_208
  · exact hts _ qw_2_209
  · exact va_Nw.use rfl (hX.1 _ (List.mem_of_getElem? (i := 6) rfl))
  · exact hts _ qw_2_238
  · exact hts _ qw_2_229
  · exact va_Nw.use rfl (hX.1 _ (List.mem_of_getElem? (i := 1) rfl))
  · exact hts _ qw_2_231
  · exact hts _ qw_2_189
  · exact hts _ qw_2_232
  · exact hts _ qw_2_233
  · exact hts _ qw_2_234
  · exact hts _ qw_2_235
  · exact absurd hz (by decide)
  · exact absurd hz (by decide)
  · exact hts _ qw_2_177
  · exact hts _ qw_2_176
  · exact hts _ qw_2_236
theorem xgd_IA {ik : Nat} : ∀ w ∈ Cond.classLink RX3 ik xIA :: Cond.initialized xIA :: vx_atS RX3 192 xIA xNM, vx_ot w = true := by
  intro w hw
  rcases List.mem_cons.mp hw with rfl | hw
  · rfl
  rcases List.mem_cons.mp hw with rfl | hw
  · rfl
  unfold vx_atS at hw
  obtain ⟨hm, hz⟩ := List.mem_filter.mp hw
  simp only [Bundle.ownAtoms, Bundle.throwableAtoms, Bundle.throwableSAtoms, xNM, Bundle.chainSAtoms, Bundle.passSAtoms, List.mem_append, List.mem_cons, List.not_mem_nil, or_false, or_assoc] at hm
  rcases hm with rfl | rfl | rfl | rfl | rfl | rfl | rfl | rfl | rfl | rfl | rfl | rfl | rfl | rfl | rfl | rfl | rfl | rfl | rfl | rfl | rfl | rfl | rfl | rfl | rfl | rfl | rfl | rfl | rfl | rfl | rfl | rfl | rfl | rfl | rfl | rfl | rfl | rfl | rfl | rfl | rfl | rfl | rfl | rfl | rfl | rfl | rfl | rfl | rfl | rfl | rfl | rfl | rfl | rfl | rfl | rfl | rfl
  · rfl
  · rfl
  · rfl
  · rfl
  · rfl
  · rfl
  · rfl
  · rfl
  · rfl
  · rfl
  · rfl
  · rfl
  · rfl
  · rfl
  · rfl
  · rfl
  · rfl
  · rfl
  · rfl
  · rfl
  · exact absurd hz (by decide)
  · rfl
  · exact absurd hz (by decide)
  · rfl
  · rfl
  · rfl
  · rfl
  · rfl
  · rfl
  · rfl
  · rfl
  · rfl
  · rfl
  · rfl
  · rfl
  · rfl
  · rfl
  · rfl
  · rfl
  · rfl
  · rfl
  · rfl
  · rfl
  · rfl
  · rfl
  · rfl
  · rfl
  · rfl
  · rfl
  · rfl
  · rfl
  · rfl
  · exact absurd hz (by decide)
  · exact absurd hz (by decide)
  · rfl
  · rfl
  · rfl
theorem xat_IS {A : Nat → Prop} {s : State} {args : Array Value} {H : Heap} (hts : ∀ w ∈ AW, w.before args s = true) (hX : KXA A s H) : ∀ w ∈ vx_atS RX3 69 xIS xNM, w.before args s = true := by
  intro w hw
  unfold vx_atS at hw
  obtain ⟨hm, hz⟩ := List.mem_filter.mp hw
  simp only [Bundle.ownAtoms, Bundle.throwableAtoms, Bundle.throwableSAtoms, xNM, Bundle.chainSAtoms, Bundle.passSAtoms, List.mem_append, List.mem_cons, List.not_mem_nil, or_false, or_assoc] at hm
  rcases hm with rfl | rfl | rfl | rfl | rfl | rfl | rfl | rfl | rfl | rfl | rfl | rfl | rfl | rfl | rfl | rfl | rfl | rfl | rfl | rfl | rfl | rfl | rfl | rfl | rfl | rfl | rfl | rfl | rfl | rfl | rfl | rfl | rfl | rfl | rfl | rfl | rfl | rfl | rfl | rfl | rfl | rfl | rfl | rfl | rfl | rfl | rfl | rfl | rfl | rfl | rfl | rfl | rfl | rfl | rfl | rfl | rfl
  · exact hts _ qw_1_8
  · exact hts _ qw_2_178
  · exact hts _ qw_2_187
  · exact hts _ qw_2_192
  · exact hts _ qw_2_195
  · exact hts _ qw_2_197
  · exact hts _ qw_2_179
  · exact hts _ qw_2_180
  · exact hts _ qw_1_26
  · exact hts _ qw_1_27
  · exact hts _ qw_2_181
  · exact hts _ qw_2_186
  · exact hts _ qw_2_193
  · exact hts _ qw_2_213
  · exact hts _ qw_2_168
  · exact hts _ qw_2_214
  · exact hts _ qw_2_170
  · exact hts _ qw_2_215
  · exact hts _ qw_2_172
  · exact hts _ qw_2_182
  · exact absurd hz (by decide)
  · exact hts _ qw_2_184
  · exact absurd hz (by decide)
  · exact hts _ qw_2_174
  · exact hts _ qw_2_209
  · exact hts _ qw_2_210
  · exact hts _ qw_2_212
  · exact hts _ qw_2_174
  · exact hts _ qw_3_19
  · exact hts _ qw_3_20
  · exact hts _ qw_3_21
  · exact hts _ qw_2_203
  · exact va_Nw.use rfl (hX.1 _ (List.mem_of_getElem? (i := 4) rfl))
  · exact hts _ qw_2_203
  · exact hts _ qw_2_204
  · exact hts _ qw_2_205
  · exact hts _ qw_2_206
  · exact va_Nw.use rfl (hX.1 _ (List.mem_of_getElem? (i := 5) rfl))
  · exact hts _ qw_2_206
  · exact hts _ qw_2_207
  · exact hts _ qw_2_208
  · exact hts _ qw_2_209
  · exact va_Nw.use rfl (hX.1 _ (List.mem_of_getElem? (i := 6) rfl))
  · exact hts _ qw_3_18
  · exact hts _ qw_3_9
  · exact va_Nw.use rfl (hX.1 _ (List.mem_of_getElem? (i := 2) rfl))
  · exact hts _ qw_3_11
  · exact hts _ qw_2_190
  · exact hts _ qw_3_12
  · exact hts _ qw_3_13
  · exact hts _ qw_3_14
  · exact hts _ qw_3_15
  · exact absurd hz (by decide)
  · exact absurd hz (by decide)
  · exact hts _ qw_2_177
  · exact hts _ qw_2_176
  · exact hts _ qw_3_16
theorem xgd_IS {ik : Nat} : ∀ w ∈ Cond.classLink RX3 ik xIS :: Cond.initialized xIS :: vx_atS RX3 69 xIS xNM, vx_ot w = true := by
  intro w hw
  rcases List.mem_cons.mp hw with rfl | hw
  · rfl
  rcases List.mem_cons.mp hw with rfl | hw
  · rfl
  unfold vx_atS at hw
  obtain ⟨hm, hz⟩ := List.mem_filter.mp hw
  simp only [Bundle.ownAtoms, Bundle.throwableAtoms, Bundle.throwableSAtoms, xNM, Bundle.chainSAtoms, Bundle.passSAtoms, List.mem_append, List.mem_cons, List.not_mem_nil, or_false, or_assoc] at hm
  rcases hm with rfl | rfl | rfl | rfl | rfl | rfl | rfl | rfl | rfl | rfl | rfl | rfl | rfl | rfl | rfl | rfl | rfl | rfl | rfl | rfl | rfl | rfl | rfl | rfl | rfl | rfl | rfl | rfl | rfl | rfl | rfl | rfl | rfl | rfl | rfl | rfl | rfl | rfl | rfl | rfl | rfl | rfl | rfl | rfl | rfl | rfl | rfl | rfl | rfl | rfl | rfl | rfl | rfl | rfl | rfl | rfl | rfl
  · rfl
  · rfl
  · rfl
  · rfl
  · rfl
  · rfl
  · rfl
  · rfl
  · rfl
  · rfl
  · rfl
  · rfl
  · rfl
  · rfl
  · rfl
  · rfl
  · rfl
  · rfl
  · rfl
  · rfl
  · exact absurd hz (by decide)
  · rfl
  · exact absurd hz (by decide)
  · rfl
  · rfl
  · rfl
  · rfl
  · rfl
  · rfl
  · rfl
  · rfl
  · rfl
  · rfl
  · rfl
  · rfl
  · rfl
  · rfl
  · rfl
  · rfl
  · rfl
  · rfl
  · rfl
  · rfl
  · rfl
  · rfl
  · rfl
  · rfl
  · rfl
  · rfl
  · rfl
  · rfl
  · rfl
  · exact absurd hz (by decide)
  · exact absurd hz (by decide)
  · rfl
  · rfl
  · rfl
