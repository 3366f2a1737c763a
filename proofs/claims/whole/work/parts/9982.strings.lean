/-! String.length, charAt of the constant texts, as the JDK has them -/
def RJ0 : String := "java/lang/String"
def RJ1 : String := "java/lang/StringLatin1"
def RJ3 : String := "jdk/internal/util/Preconditions"
abbrev cJ0_length_8abf5 : ByteArray := prog_22_method_54_code
def yJ0_length_8abf5 : MethodName := ⟨RJ0, "length", "()I"⟩
def mJ0_length_8abf5 : Md := (yJ0_length_8abf5, cJ0_length_8abf5, 1, some .int)
def tJ0_length_8abf5 : List (Nat × Instr × Nat) := [(0, .aload_n 0, 1), (1, .getfield 9, 3), (4, .arraylength, 1), (5, .aload_n 0, 1), (6, .invokevirtual 335, 3), (9, .ishr, 1), (10, .ireturn, 1)]
theorem dJ0_length_8abf5 : tJ0_length_8abf5.all (fun q => decide (decode cJ0_length_8abf5 q.1 = .ok q.2)) = true := by decide +kernel
theorem iJ0_length_8abf5 : MV mJ0_length_8abf5 0 := ⟨⟨okw (in2 197 (by decide +kernel)) (by decide +kernel), okw (in1 15 (by decide +kernel)) (by decide +kernel), ⟨by decide +kernel, by decide +kernel, by decide +kernel⟩, by decide⟩, okw (in2 195 (by decide +kernel)) (by decide +kernel), okw (in2 196 (by decide +kernel)) (by decide +kernel)⟩
abbrev cJ0_coder_7d493 : ByteArray := prog_22_method_152_code
def yJ0_coder_7d493 : MethodName := ⟨RJ0, "coder", "()B"⟩
def mJ0_coder_7d493 : Md := (yJ0_coder_7d493, cJ0_coder_7d493, 1, some .byte)
def tJ0_coder_7d493 : List (Nat × Instr × Nat) := [(0, .getstatic 38, 3), (3, .ifCond .eq 10, 3), (6, .aload_n 0, 1), (7, .getfield 15, 3), (10, .goto 4, 3), (13, .iconst 1, 1), (14, .ireturn, 1)]
theorem dJ0_coder_7d493 : tJ0_coder_7d493.all (fun q => decide (decode cJ0_coder_7d493 q.1 = .ok q.2)) = true := by decide +kernel
theorem iJ0_coder_7d493 : MV mJ0_coder_7d493 0 := ⟨⟨okw (in2 201 (by decide +kernel)) (by decide +kernel), okw (in1 15 (by decide +kernel)) (by decide +kernel), ⟨by decide +kernel, by decide +kernel, by decide +kernel⟩, by decide⟩, okw (in2 199 (by decide +kernel)) (by decide +kernel), okw (in2 200 (by decide +kernel)) (by decide +kernel)⟩
abbrev cJ0_charAt_5068e : ByteArray := prog_22_method_56_code
def yJ0_charAt_5068e : MethodName := ⟨RJ0, "charAt", "(I)C"⟩
def mJ0_charAt_5068e : Md := (yJ0_charAt_5068e, cJ0_charAt_5068e, 2, some .char)
def tJ0_charAt_5068e : List (Nat × Instr × Nat) := [(0, .aload_n 0, 1), (1, .invokevirtual 492, 3), (4, .ifCond .eq 12, 3), (7, .aload_n 0, 1), (8, .getfield 9, 3), (11, .iload_n 1, 1), (12, .invokestatic 495, 3), (15, .ireturn, 1), (16, .aload_n 0, 1), (17, .getfield 9, 3), (20, .iload_n 1, 1), (21, .invokestatic 498, 3), (24, .ireturn, 1)]
theorem dJ0_charAt_5068e : tJ0_charAt_5068e.all (fun q => decide (decode cJ0_charAt_5068e q.1 = .ok q.2)) = true := by decide +kernel
theorem iJ0_charAt_5068e : MV mJ0_charAt_5068e 1 := ⟨⟨okw (in2 207 (by decide +kernel)) (by decide +kernel), okw (in1 15 (by decide +kernel)) (by decide +kernel), ⟨by decide +kernel, by decide +kernel, by decide +kernel⟩, by decide⟩, okw (in2 205 (by decide +kernel)) (by decide +kernel), okw (in2 206 (by decide +kernel)) (by decide +kernel)⟩
abbrev cJ0_isLatin1_aae02 : ByteArray := prog_22_method_154_code
def yJ0_isLatin1_aae02 : MethodName := ⟨RJ0, "isLatin1", "()Z"⟩
def mJ0_isLatin1_aae02 : Md := (yJ0_isLatin1_aae02, cJ0_isLatin1_aae02, 1, some .boolean)
def tJ0_isLatin1_aae02 : List (Nat × Instr × Nat) := [(0, .getstatic 38, 3), (3, .ifCond .eq 14, 3), (6, .aload_n 0, 1), (7, .getfield 15, 3), (10, .ifCond .ne 7, 3), (13, .iconst 1, 1), (14, .goto 4, 3), (17, .iconst 0, 1), (18, .ireturn, 1)]
theorem dJ0_isLatin1_aae02 : tJ0_isLatin1_aae02.all (fun q => decide (decode cJ0_isLatin1_aae02 q.1 = .ok q.2)) = true := by decide +kernel
theorem iJ0_isLatin1_aae02 : MV mJ0_isLatin1_aae02 0 := ⟨⟨okw (in2 211 (by decide +kernel)) (by decide +kernel), okw (in1 15 (by decide +kernel)) (by decide +kernel), ⟨by decide +kernel, by decide +kernel, by decide +kernel⟩, by decide⟩, okw (in2 209 (by decide +kernel)) (by decide +kernel), okw (in2 210 (by decide +kernel)) (by decide +kernel)⟩
abbrev cJ0_checkIndex_df160 : ByteArray := prog_22_method_155_code
def yJ0_checkIndex_df160 : MethodName := ⟨RJ0, "checkIndex", "(II)V"⟩
def mJ0_checkIndex_df160 : Md := (yJ0_checkIndex_df160, cJ0_checkIndex_df160, 2, none)
def tJ0_checkIndex_df160 : List (Nat × Instr × Nat) := [(0, .iload_n 0, 1), (1, .iload_n 1, 1), (2, .getstatic 1053, 3), (5, .invokestatic 1059, 3), (8, .pop, 1), (9, .return_, 1)]
theorem dJ0_checkIndex_df160 : tJ0_checkIndex_df160.all (fun q => decide (decode cJ0_checkIndex_df160 q.1 = .ok q.2)) = true := by decide +kernel
theorem iJ0_checkIndex_df160 : MS mJ0_checkIndex_df160 2 := ⟨⟨okw (in2 217 (by decide +kernel)) (by decide +kernel), okw (in1 15 (by decide +kernel)) (by decide +kernel), ⟨by decide +kernel, by decide +kernel, by decide +kernel⟩, by decide⟩, okw (in2 216 (by decide +kernel)) (by decide +kernel)⟩
abbrev cJ1_charAt_3b067 : ByteArray := prog_23_method_2_code
def yJ1_charAt_3b067 : MethodName := ⟨RJ1, "charAt", "([BI)C"⟩
def mJ1_charAt_3b067 : Md := (yJ1_charAt_3b067, cJ1_charAt_3b067, 2, some .char)
def tJ1_charAt_3b067 : List (Nat × Instr × Nat) := [(0, .iload_n 1, 1), (1, .aload_n 0, 1), (2, .arraylength, 1), (3, .invokestatic 9, 3), (6, .aload_n 0, 1), (7, .iload_n 1, 1), (8, .baload, 1), (9, .sipush 255, 3), (12, .iand, 1), (13, .i2c, 1), (14, .ireturn, 1)]
theorem dJ1_charAt_3b067 : tJ1_charAt_3b067.all (fun q => decide (decode cJ1_charAt_3b067 q.1 = .ok q.2)) = true := by decide +kernel
theorem iJ1_charAt_3b067 : MS mJ1_charAt_3b067 2 := ⟨⟨okw (in2 214 (by decide +kernel)) (by decide +kernel), okw (in1 16 (by decide +kernel)) (by decide +kernel), ⟨by decide +kernel, by decide +kernel, by decide +kernel⟩, by decide⟩, okw (in2 213 (by decide +kernel)) (by decide +kernel)⟩
abbrev cJ3_checkIndex_8e157 : ByteArray := prog_30_method_11_code
def yJ3_checkIndex_8e157 : MethodName := ⟨RJ3, "checkIndex", "(IILjava/util/function/BiFunction;)I"⟩
def mJ3_checkIndex_8e157 : Md := (yJ3_checkIndex_8e157, cJ3_checkIndex_8e157, 3, some .int)
def tJ3_checkIndex_8e157 : List (Nat × Instr × Nat) := [(0, .iload_n 0, 1), (1, .ifCond .lt 8, 3), (4, .iload_n 0, 1), (5, .iload_n 1, 1), (6, .if_icmp .lt 10, 3), (9, .aload_n 2, 1), (10, .iload_n 0, 1), (11, .iload_n 1, 1), (12, .invokestatic 95, 3), (15, .athrow, 1), (16, .iload_n 0, 1), (17, .ireturn, 1)]
theorem dJ3_checkIndex_8e157 : tJ3_checkIndex_8e157.all (fun q => decide (decode cJ3_checkIndex_8e157 q.1 = .ok q.2)) = true := by decide +kernel
theorem iJ3_checkIndex_8e157 : MS mJ3_checkIndex_8e157 3 := ⟨⟨okw (in2 222 (by decide +kernel)) (by decide +kernel), okw (in1 17 (by decide +kernel)) (by decide +kernel), ⟨by decide +kernel, by decide +kernel, by decide +kernel⟩, by decide⟩, okw (in2 221 (by decide +kernel)) (by decide +kernel)⟩
theorem lJ0_335 : mLk RJ0 335 yJ0_coder_7d493 := Or.inl (okw (in2 198 (by decide +kernel)) (by decide +kernel))
theorem lJ0_492 : mLk RJ0 492 yJ0_isLatin1_aae02 := Or.inl (okw (in2 208 (by decide +kernel)) (by decide +kernel))
theorem lJ0_495 : mLk RJ0 495 yJ1_charAt_3b067 := Or.inl (okw (in2 212 (by decide +kernel)) (by decide +kernel))
theorem lJ0_1059 : mLk RJ0 1059 yJ3_checkIndex_8e157 := Or.inl (okw (in2 220 (by decide +kernel)) (by decide +kernel))
theorem lJ1_9 : mLk RJ1 9 yJ0_checkIndex_df160 := Or.inl (okw (in2 215 (by decide +kernel)) (by decide +kernel))
theorem lX7_109 : mLk RX7 109 yJ0_length_8abf5 := Or.inl (okw (in2 194 (by decide +kernel)) (by decide +kernel))
theorem lX7_113 : mLk RX7 113 yJ0_charAt_5068e := Or.inl (okw (in2 204 (by decide +kernel)) (by decide +kernel))
theorem fJ0_9 : Cond.fieldLink RJ0 9 "java/lang/String" "value" "[B" ∈ lw_ok := okw (in8 102 (by decide +kernel)) (by decide +kernel)
theorem fJ0_15 : Cond.fieldLink RJ0 15 "java/lang/String" "coder" "B" ∈ lw_ok := okw (in8 103 (by decide +kernel)) (by decide +kernel)
theorem fJ0_38 : Cond.fieldLink RJ0 38 "java/lang/String" "COMPACT_STRINGS" "Z" ∈ lw_ok := okw (in2 202 (by decide +kernel)) (by decide +kernel)
theorem fJ0_1053 : Cond.fieldLink RJ0 1053 "jdk/internal/util/Preconditions" "SIOOBE_FORMATTER" "Ljava/util/function/BiFunction;" ∈ lw_ok := okw (in2 218 (by decide +kernel)) (by decide +kernel)
def slen (i : Nat) : Nat := [5, 4, 13].getD i 0
abbrev stK (i : Nat) : Value := .float (UInt32.ofNat (2 + i))
abbrev stV (i : Nat) : Value := .float (UInt32.ofNat (10 + i))
section Str
variable {G : Gx} {M : Md} {d pc : Nat} {L st : List Value} {σ : Hp} {mc ms : Nat} {Q : Option Value → Hp → Prop}
theorem wp_ldcP (hM : M.1.cls = "SureHunters$Script") (hd : decode M.2.1 pc = .ok (.ldc 101, 2)) (kk : Wp G M d (pc + 2) L (stK 0 :: st) σ mc ms Q) : Wp G M d pc L st σ mc ms Q := by
  intro p l e R s m args below meth c A ad0 cm sm QQ C h1 h2 hf ad ws ls cst H locs cells slots hat hc hs
  obtain ⟨a1, a2, a3, a4, a5, a6, a7, a8⟩ := hat
  obtain ⟨x1, x2, x3, x4, x5, x6, x7, x8, x9, x10, x11, x12, x13, x14⟩ := id C
  exact va_ldcS x1 x2 (by rw [← hM]; exact x7) x9.2.2.2.2.2.1 hd (kk p l e R s m args below meth c A ad0 cm sm QQ C h1 h2 hf ad ws ls _ H locs cells slots ⟨a1, a2, a3, a4, ⟨_, _, rfl, rfl, a5⟩, a6, a7, a8⟩ hc hs)
theorem wp_ldcL (hM : M.1.cls = "SureHunters$Script") (hd : decode M.2.1 pc = .ok (.ldc 107, 2)) (kk : Wp G M d (pc + 2) L (stK 1 :: st) σ mc ms Q) : Wp G M d pc L st σ mc ms Q := by
  intro p l e R s m args below meth c A ad0 cm sm QQ C h1 h2 hf ad ws ls cst H locs cells slots hat hc hs
  obtain ⟨a1, a2, a3, a4, a5, a6, a7, a8⟩ := hat
  obtain ⟨x1, x2, x3, x4, x5, x6, x7, x8, x9, x10, x11, x12, x13, x14⟩ := id C
  exact va_ldcS x1 x2 (by rw [← hM]; exact x7) x9.2.2.2.2.2.2.1 hd (kk p l e R s m args below meth c A ad0 cm sm QQ C h1 h2 hf ad ws ls _ H locs cells slots ⟨a1, a2, a3, a4, ⟨_, _, rfl, rfl, a5⟩, a6, a7, a8⟩ hc hs)
theorem wp_getV {i j : Nat} (hi : i < 3) (hl : Cond.fieldLink M.1.cls j "java/lang/String" "value" "[B" ∈ lw_ok) (hd : decode M.2.1 pc = .ok (.getfield j, 3)) (kk : Wp G M d (pc + 3) L (stV i :: st) σ mc ms Q) : Wp G M d pc L (stK i :: st) σ mc ms Q := by
  intro p l e R s m args below meth c A ad0 cm sm QQ C h1 h2 hf ad ws ls cst H locs cells slots hat hc hs
  obtain ⟨a1, a2, a3, a4, a5, a6, a7, a8⟩ := hat
  obtain ⟨x1, x2, x3, x4, x5, x6, x7, x8, x9, x10, x11, x12, x13, x14⟩ := id C
  obtain ⟨_, _, rfl, rfl, a5⟩ := a5
  exact vk_getf x1 x2 (x10.2.2.2.1.1 i hi).2.2.1 a8 x7 (x8 _ hl) (fun _ h => h) hd (kk p l e R s m args below meth c A ad0 cm sm QQ C h1 h2 hf ad ws ls _ H locs cells slots ⟨a1, a2, a3, a4, ⟨_, _, rfl, rfl, a5⟩, a6, a7, a8⟩ hc hs)
theorem wp_getC {i j : Nat} (hi : i < 3) (hl : Cond.fieldLink M.1.cls j "java/lang/String" "coder" "B" ∈ lw_ok) (hd : decode M.2.1 pc = .ok (.getfield j, 3)) (kk : Wp G M d (pc + 3) L (.int (nI 0) :: st) σ mc ms Q) : Wp G M d pc L (stK i :: st) σ mc ms Q := by
  intro p l e R s m args below meth c A ad0 cm sm QQ C h1 h2 hf ad ws ls cst H locs cells slots hat hc hs
  obtain ⟨a1, a2, a3, a4, a5, a6, a7, a8⟩ := hat
  obtain ⟨x1, x2, x3, x4, x5, x6, x7, x8, x9, x10, x11, x12, x13, x14⟩ := id C
  obtain ⟨_, _, rfl, rfl, a5⟩ := a5
  exact vk_getf x1 x2 (x10.2.2.2.1.1 i hi).2.1 a8 x7 (x8 _ hl) (fun _ h => h) hd (kk p l e R s m args below meth c A ad0 cm sm QQ C h1 h2 hf ad ws ls _ H locs cells slots ⟨a1, a2, a3, a4, ⟨_, _, rfl, rfl, a5⟩, a6, a7, a8⟩ hc hs)
theorem wp_lenV {i : Nat} (hi : i < 3) (hd : decode M.2.1 pc = .ok (.arraylength, 1)) (kk : Wp G M d (pc + 1) L (.int (nI (slen i)) :: st) σ mc ms Q) : Wp G M d pc L (stV i :: st) σ mc ms Q := by
  intro p l e R s m args below meth c A ad0 cm sm QQ C h1 h2 hf ad ws ls cst H locs cells slots hat hc hs
  obtain ⟨a1, a2, a3, a4, a5, a6, a7, a8⟩ := hat
  obtain ⟨x1, x2, x3, x4, x5, x6, x7, x8, x9, x10, x11, x12, x13, x14⟩ := id C
  obtain ⟨_, _, rfl, rfl, a5⟩ := a5
  exact va_tlen x1 x2 (x10.2.2.2.1.1 i hi).2.2.2 a8 rfl hd (kk p l e R s m args below meth c A ad0 cm sm QQ C h1 h2 hf ad ws ls _ H locs cells slots ⟨a1, a2, a3, a4, ⟨_, _, rfl, rfl, a5⟩, a6, a7, a8⟩ hc hs)
theorem wp_baldV {i j : Nat} (hi : i < 3) (hj : j < slen i) (hd : decode M.2.1 pc = .ok (.baload, 1)) (kk : Wp G M d (pc + 1) L (.int ((txB.getD i []).getD j 0) :: st) σ mc ms Q) : Wp G M d pc L (.int (nI j) :: stV i :: st) σ mc ms Q := by
  intro p l e R s m args below meth c A ad0 cm sm QQ C h1 h2 hf ad ws ls cst H locs cells slots hat hc hs
  obtain ⟨a1, a2, a3, a4, a5, a6, a7, a8⟩ := hat
  obtain ⟨x1, x2, x3, x4, x5, x6, x7, x8, x9, x10, x11, x12, x13, x14⟩ := id C
  obtain ⟨_, _, rfl, rfl, _, _, rfl, rfl, a5⟩ := a5
  have hs13 : ∀ i, i < 3 → slen i ≤ 13 := by decide
  have h13 := hs13 i hi
  exact va_tb x1 x2 (x10.2.2.2.1.1 i hi).2.2.2 a8 (vp_in_nI hj (Nat.lt_of_le_of_lt h13 (by decide))) (by rw [nI_clamp (by omega)]) hd (kk p l e R s m args below meth c A ad0 cm sm QQ C h1 h2 hf ad ws ls _ H locs cells slots ⟨a1, a2, a3, a4, ⟨_, _, rfl, rfl, a5⟩, a6, a7, a8⟩ hc hs)
theorem wp_gsC {j : Nat} (hl : Cond.fieldLink M.1.cls j "java/lang/String" "COMPACT_STRINGS" "Z" ∈ lw_ok) (hd : decode M.2.1 pc = .ok (.getstatic j, 3)) (kk : Wp G M d (pc + 3) L (.int (nI 1) :: st) σ mc ms Q) : Wp G M d pc L st σ mc ms Q := by
  intro p l e R s m args below meth c A ad0 cm sm QQ C h1 h2 hf ad ws ls cst H locs cells slots hat hc hs
  obtain ⟨a1, a2, a3, a4, a5, a6, a7, a8⟩ := hat
  obtain ⟨x1, x2, x3, x4, x5, x6, x7, x8, x9, x10, x11, x12, x13, x14⟩ := id C
  exact va_gets x1 x2 x10.2.2.2.2.1 a8 x7 (x8 _ hl) (fun _ h => h) hd (kk p l e R s m args below meth c A ad0 cm sm QQ C h1 h2 hf ad ws ls _ H locs cells slots ⟨a1, a2, a3, a4, ⟨_, _, rfl, rfl, a5⟩, a6, a7, a8⟩ hc hs)
theorem wp_gsF {j : Nat} (hl : Cond.fieldLink M.1.cls j "jdk/internal/util/Preconditions" "SIOOBE_FORMATTER" "Ljava/util/function/BiFunction;" ∈ lw_ok) (hd : decode M.2.1 pc = .ok (.getstatic j, 3)) (kk : ∀ v : Value, v = .null ∨ v = .float 20 → Wp G M d (pc + 3) L (v :: st) σ mc ms Q) : Wp G M d pc L st σ mc ms Q := by
  intro p l e R s m args below meth c A ad0 cm sm QQ C h1 h2 hf ad ws ls cst H locs cells slots hat hc hs
  obtain ⟨a1, a2, a3, a4, a5, a6, a7, a8⟩ := hat
  obtain ⟨x1, x2, x3, x4, x5, x6, x7, x8, x9, x10, x11, x12, x13, x14⟩ := id C
  rcases x10.2.2.2.2.2.2.2 with z | z
  · exact va_gets x1 x2 z a8 x7 (x8 _ hl) (fun _ h => h) hd (kk .null (Or.inl rfl) p l e R s m args below meth c A ad0 cm sm QQ C h1 h2 hf ad ws ls _ H locs cells slots ⟨a1, a2, a3, a4, ⟨_, _, rfl, rfl, a5⟩, a6, a7, a8⟩ hc hs)
  · exact va_gets x1 x2 z a8 x7 (x8 _ hl) (fun _ h => h) hd (kk (.float 20) (Or.inr rfl) p l e R s m args below meth c A ad0 cm sm QQ C h1 h2 hf ad ws ls _ H locs cells slots ⟨a1, a2, a3, a4, ⟨_, _, rfl, rfl, a5⟩, a6, a7, a8⟩ hc hs)
theorem wp_i2cN {a : Nat} (ha : a < 65536) (hd : decode M.2.1 pc = .ok (.i2c, 1)) (kk : Wp G M d (pc + 1) L (.int (nI a) :: st) σ mc ms Q) : Wp G M d pc L (.int (nI a) :: st) σ mc ms Q := by
  intro p l e R s m args below meth c A ad0 cm sm QQ C h1 h2 hf ad ws ls cst H locs cells slots hat hc hs
  obtain ⟨a1, a2, a3, a4, a5, a6, a7, a8⟩ := hat
  obtain ⟨x1, x2, x3, x4, x5, x6, x7, x8, x9, x10, x11, x12, x13, x14⟩ := id C
  obtain ⟨_, _, rfl, rfl, a5⟩ := a5
  exact lv_i2c x1 x2 hd (Value.int.inj (pk_charN ha).1) (kk p l e R s m args below meth c A ad0 cm sm QQ C h1 h2 hf ad ws ls _ H locs cells slots ⟨a1, a2, a3, a4, ⟨_, _, rfl, rfl, a5⟩, a6, a7, a8⟩ hc hs)
theorem wp_pop1 {x : Int32} (hd : decode M.2.1 pc = .ok (.pop, 1)) (kk : Wp G M d (pc + 1) L st σ mc ms Q) : Wp G M d pc L (.int x :: st) σ mc ms Q := by
  intro p l e R s m args below meth c A ad0 cm sm QQ C h1 h2 hf ad ws ls cst H locs cells slots hat hc hs
  obtain ⟨a1, a2, a3, a4, a5, a6, a7, a8⟩ := hat
  obtain ⟨x1, x2, x3, x4, x5, x6, x7, x8, x9, x10, x11, x12, x13, x14⟩ := id C
  obtain ⟨_, _, rfl, rfl, a5⟩ := a5
  exact lv_pop x1 x2 hd rfl (kk p l e R s m args below meth c A ad0 cm sm QQ C h1 h2 hf ad ws ls _ H locs cells slots ⟨a1, a2, a3, a4, a5, a6, a7, a8⟩ hc hs)
end Str
set_option maxHeartbeats 1000000 in
/-- a call on a constant text -/
theorem wp_callK {G : Gx} {M M2 : Md} {d pc i n j : Nat} {L st st0 : List Value} {σ : Hp} {mc1 ms1 mc2 ms2 : Nat} {Q Q2 : Option Value → Hp → Prop} (as : List Value) (hj : j < 3) (hM2 : M2.1.cls = "java/lang/String") (hd : decode M.2.1 pc = .ok (.invokevirtual i, 3)) (hm : MV M2 n) (hl : Cond.methodLink M.1.cls i M2.1 ∈ lw_ok) (hst : st0 = as.reverse ++ stK j :: st) (hn : as.length = n) (hcat : (st.map fun v => v.category).sum ≤ 8) (hC : Cl G M2 d (stK j :: as) σ mc1 ms1 Q2)
    (kk : ∀ v σ2, Q2 v σ2 → Wp G M (d + 1) (pc + 3) L (v.toList ++ st) σ2 mc2 ms2 Q) : Wp G M (d + 1) pc L st0 σ (mc1 + mc2) (ms1 + ms2) Q := by
  intro p l e R s m args below meth c A ad0 cm sm QQ C h1 h2 hf ad ws ls cst H locs cells slots hat hc hs
  obtain ⟨a1, a2, a3, a4, a5, a6, a7, a8⟩ := hat
  obtain ⟨x1, x2, x3, x4, x5, x6, x7, x8, x9, x10, x11, x12, x13, x14⟩ := id C
  subst hst
  obtain ⟨x, y, rfl, b1, b2⟩ := a5.split
  obtain ⟨c0, cs, rfl, e0, b3⟩ := b2
  obtain rfl : c0 = .ref (adK G j) := e0
  have b1' : rVs G ad as x.reverse := by have := b1.rev; rwa [List.reverse_reverse] at this
  have hF := va_free (wc := ws) a7 a8 x11 (List.range ws.length) (by
    apply List.ext_getElem?
    intro j
    simp only [List.getElem?_map]
    by_cases hj : j < ws.length
    · rw [List.getElem?_range hj]; simp [hj]
    · rw [List.getElem?_eq_none (by simpa using hj), List.getElem?_eq_none (by simpa using hj)]; rfl)
  obtain ⟨⟨m1, m2, ⟨m3, m4, m5⟩, m6⟩, m7, m8⟩ := hm
  have hrecv := vk_recv x10.2.2.2.1 hj a8
  rw [← hM2] at hrecv
  have hM := hC l ad ws (.ref (adK G j) :: x.reverse) H.size x14 a2 ⟨_, _, rfl, rfl, b1'⟩
  have hpre := kG.pre (cas := .ref (adK G j) :: x.reverse) x9 x10 a6 a7 a8 hF
  have hlen : x.reverse.length = n := by rw [b1'.len]; exact hn
  have hW9 : 2 * (F0 m pc ls (x ++ .ref (adK G j) :: cs)).monitorRoom + (cs.map fun v => v.category).sum ≤ 8 := by show 2 * 0 + _ ≤ 8; rw [b3.cats]; omega
  have hR : (rmM d mc1 ms1).frames + 1 ≤ R.frames ∧ 8 + (M2.2.2.1 + 11) + (rmM d mc1 ms1).locals ≤ R.locals := ⟨by show d + 1 ≤ _; omega, by show 8 + (M2.2.2.1 + 11) + 60 * d ≤ _; omega⟩
  exact va_goes (va_runV (As := x.reverse) (rest := cs) (Ts := lw_ok) ⟨x1, x2, x3, x7, x8⟩ hM ⟨callB_of n x8 (wsM_good m1) rfl rfl rfl (x8 _ m2) (x8 _ hl) ⟨m3, m4, m5⟩ hR, x8 _ m7, x8 _ m8⟩ ⟨preM.blind, hrecv, hpre⟩ rfl hlen (by rw [← a4]; exact a3.lv) (by rw [List.reverse_reverse]) hW9 hd ⟨by omega, by omega⟩) a8 hF (fun v σ' ad' ws' cv H1 l1 q1 q2 q3 q4 q5 q6 q7 => kk v σ' q1 p l e R s m args below meth c A ad0 cm sm QQ C h1 h2 hf ad' ws' ls _ H1 l1 (cells + mc1) (slots + ms1) ⟨a1.trans q2, q3, a3.mono q2, a4, q4.list.app (b3.mono q2), q5, q6, q7⟩ (by omega) (by omega))
theorem wp_cKi {G : Gx} {M M2 : Md} {d d0 pc i n j : Nat} {L st st0 : List Value} {σ : Hp} {mc ms : Nat} {Q : Option Value → Hp → Prop} {P : Int32 → Hp → Prop} (hdd : d = d0 + 1) (as : List Value) (hj : j < 3) (hM2 : M2.1.cls = "java/lang/String") (hd : decode M.2.1 pc = .ok (.invokevirtual i, 3)) (hm : MV M2 n) (hl : mLk M.1.cls i M2.1) (hl2 : Cond.methodLink M.1.cls i M2.1 ∈ lw_ok) (hst : st0 = as.reverse ++ stK j :: st) (hn : as.length = n) (hcat : (st.map fun v => v.category).sum ≤ 8) (hC : Cl G M2 d0 (stK j :: as) σ 0 0 (pI P))
    (kk : ∀ r s2, P r s2 → Wp G M d (pc + 3) L (.int r :: st) s2 mc ms Q) : Wp G M d pc L st0 σ mc ms Q := by
  subst hdd
  have := wp_callK (mc1 := 0) (ms1 := 0) (mc2 := mc) (ms2 := ms) as hj hM2 hd hm hl2 hst hn hcat hC (fun v σ2 hq => by obtain ⟨r, rfl, hp⟩ := hq; exact kk r σ2 hp)
  rwa [Nat.zero_add, Nat.zero_add] at this
theorem eJ0_coder {G : Gx} {d : Nat} {σ : Hp} (hd : 0 ≤ d) {i : Nat} (hi : i < 3) : Cl G mJ0_coder_7d493 d [stK i] σ 0 0 (pI fun r s => r = nI 0 ∧ s = σ) := by
  refine cl_of (by decide) (by simp [Value.category]) (Nat.le_of_ble_eq_true rfl) ?_
  show Wp G mJ0_coder_7d493 d 0 [stK i] [] σ 0 0 _
  refine wp_gsC fJ0_38 (atd dJ0_coder_7d493 0 rfl) ?_
  refine wp_ifN_eq (tgt := 13) (atd dJ0_coder_7d493 1 rfl) (by decide) (by decide) (fun c_3 => ?_) (fun c_3 => ?_)
  · exact absurd c_3 (by decide)
  · refine wp_aload_n (atd dJ0_coder_7d493 2 rfl) rfl rfl ?_
    refine wp_getC hi fJ0_15 (atd dJ0_coder_7d493 3 rfl) ?_
    refine wp_goto (tgt := 14) (atd dJ0_coder_7d493 4 rfl) (by decide) ?_
    exact wp_iret (atd dJ0_coder_7d493 6 rfl) rfl (by decide) ⟨_, rfl, rfl, rfl⟩
theorem eJ0_isLatin1 {G : Gx} {d : Nat} {σ : Hp} (hd : 0 ≤ d) {i : Nat} (hi : i < 3) : Cl G mJ0_isLatin1_aae02 d [stK i] σ 0 0 (pI fun r s => r = nI 1 ∧ s = σ) := by
  refine cl_of (by decide) (by simp [Value.category]) (Nat.le_of_ble_eq_true rfl) ?_
  show Wp G mJ0_isLatin1_aae02 d 0 [stK i] [] σ 0 0 _
  refine wp_gsC fJ0_38 (atd dJ0_isLatin1_aae02 0 rfl) ?_
  refine wp_ifN_eq (tgt := 17) (atd dJ0_isLatin1_aae02 1 rfl) (by decide) (by decide) (fun c_3 => ?_) (fun c_3 => ?_)
  · exact absurd c_3 (by decide)
  · refine wp_aload_n (atd dJ0_isLatin1_aae02 2 rfl) rfl rfl ?_
    refine wp_getC hi fJ0_15 (atd dJ0_isLatin1_aae02 3 rfl) ?_
    refine wp_ifN_ne (tgt := 17) (atd dJ0_isLatin1_aae02 4 rfl) (by decide) (by decide) (fun c_10 => ?_) (fun c_10 => ?_)
    · exact absurd c_10 (by decide)
    · refine wp_iconst (v := nI 1) (atd dJ0_isLatin1_aae02 5 rfl) (by decide) ?_
      refine wp_goto (tgt := 18) (atd dJ0_isLatin1_aae02 6 rfl) (by decide) ?_
      refine wp_iretz (atd dJ0_isLatin1_aae02 8 rfl) rfl (by decide) ?_
      exact ⟨rfl, rfl⟩
theorem eJ0_length {G : Gx} {d : Nat} {σ : Hp} (hd : 1 ≤ d) {i : Nat} (hi : i < 3) : Cl G mJ0_length_8abf5 d [stK i] σ 0 0 (pI fun r s => r = nI (slen i) ∧ s = σ) := by
  obtain ⟨d0, hdd⟩ : ∃ e, d = e + 1 := ⟨d - 1, by omega⟩
  refine cl_of (by decide) (by simp [Value.category]) (Nat.le_of_ble_eq_true rfl) ?_
  show Wp G mJ0_length_8abf5 d 0 [stK i] [] σ 0 0 _
  have hs13 : ∀ i, i < 3 → slen i ≤ 13 := by decide
  have h13 := hs13 i hi
  refine wp_aload_n (atd dJ0_length_8abf5 0 rfl) rfl rfl ?_
  refine wp_getV hi fJ0_9 (atd dJ0_length_8abf5 1 rfl) ?_
  refine wp_lenV hi (atd dJ0_length_8abf5 2 rfl) ?_
  refine wp_aload_n (atd dJ0_length_8abf5 3 rfl) rfl rfl ?_
  refine wp_cKi hdd [] hi rfl (atd dJ0_length_8abf5 4 rfl) iJ0_coder_7d493 lJ0_335 (okw (in2 198 (by decide +kernel)) (by decide +kernel)) rfl rfl (Nat.le_of_ble_eq_true rfl) (eJ0_coder (by omega) hi) (fun r s h => ?_)
  obtain ⟨rfl, rfl⟩ := h
  refine wp_ishrN (atd dJ0_length_8abf5 5 rfl) (by omega) (by omega) ?_
  refine wp_ireti (atd dJ0_length_8abf5 6 rfl) rfl ?_
  exact ⟨by rw [Nat.shiftRight_zero], rfl⟩
theorem eJ3_checkIndex {G : Gx} {d : Nat} {σ : Hp} (hd : 0 ≤ d) {a b : Nat} {v : Value} (hv : v = .null ∨ v = .float 20) (hab : a < b) (hb : b < 2 ^ 31) : Cl G mJ3_checkIndex_8e157 d [.int (nI a), .int (nI b), v] σ 0 0 (pI fun r s => r = nI a ∧ s = σ) := by
  refine cl_of (by decide) (by rcases hv with rfl | rfl <;> simp [Value.category]) (Nat.le_of_ble_eq_true rfl) ?_
  show Wp G mJ3_checkIndex_8e157 d 0 [.int (nI a), .int (nI b), v] [] σ 0 0 _
  refine wp_iload_n (atd dJ3_checkIndex_8e157 0 rfl) rfl ?_
  refine wp_ifN_lt (tgt := 9) (atd dJ3_checkIndex_8e157 1 rfl) (by decide) (by omega) ?_
  refine wp_iload_n (atd dJ3_checkIndex_8e157 2 rfl) rfl ?_
  refine wp_iload_n (atd dJ3_checkIndex_8e157 3 rfl) rfl ?_
  refine wp_icmpN_lt (tgt := 16) (atd dJ3_checkIndex_8e157 4 rfl) (by decide) (by omega) (by omega) (fun c_6 => ?_) (fun c_6 => ?_)
  · refine wp_iload_n (atd dJ3_checkIndex_8e157 10 rfl) rfl ?_
    refine wp_ireti (atd dJ3_checkIndex_8e157 11 rfl) rfl ?_
    exact ⟨rfl, rfl⟩
  · exact absurd hab (by omega)
theorem eJ0_checkIndex {G : Gx} {d : Nat} {σ : Hp} (hd : 1 ≤ d) {a b : Nat} (hab : a < b) (hb : b < 2 ^ 31) : Cl G mJ0_checkIndex_df160 d [.int (nI a), .int (nI b)] σ 0 0 (pV fun s => s = σ) := by
  obtain ⟨d0, hdd⟩ : ∃ e, d = e + 1 := ⟨d - 1, by omega⟩
  refine cl_of (by decide) (by simp [Value.category]) (Nat.le_of_ble_eq_true rfl) ?_
  show Wp G mJ0_checkIndex_df160 d 0 [.int (nI a), .int (nI b)] [] σ 0 0 _
  refine wp_iload_n (atd dJ0_checkIndex_df160 0 rfl) rfl ?_
  refine wp_iload_n (atd dJ0_checkIndex_df160 1 rfl) rfl ?_
  refine wp_gsF fJ0_1053 (atd dJ0_checkIndex_df160 2 rfl) (fun v hv => ?_)
  refine wp_cSi hdd [_, _, _] (atd dJ0_checkIndex_df160 3 rfl) iJ3_checkIndex_8e157 lJ0_1059 rfl rfl (Nat.le_of_ble_eq_true rfl) (eJ3_checkIndex (by omega) hv hab hb) (fun r s h => ?_)
  obtain ⟨rfl, rfl⟩ := h
  refine wp_pop1 (atd dJ0_checkIndex_df160 4 rfl) ?_
  refine wp_vretv (atd dJ0_checkIndex_df160 5 rfl) rfl ?_
  exact rfl
def sbyt (i k : Nat) : Nat := if i = 0 then txP k else txL k
theorem txB_at : ∀ i, i < 2 → ∀ k, k < slen i → ((txB.getD i []).getD k 0) = nI (sbyt i k) ∧ sbyt i k < 128 := by decide
theorem and255N : ∀ a, a < 128 → a &&& 255 = a := by decide
theorem eJ1_charAt {G : Gx} {d : Nat} {σ : Hp} (hd : 2 ≤ d) {i k : Nat} (hi : i < 2) (hk : k < slen i) : Cl G mJ1_charAt_3b067 d [stV i, .int (nI k)] σ 0 0 (pI fun r s => r = nI (sbyt i k) ∧ s = σ) := by
  obtain ⟨d0, hdd⟩ : ∃ e, d = e + 1 := ⟨d - 1, by omega⟩
  refine cl_of (by decide) (by simp [Value.category]) (Nat.le_of_ble_eq_true rfl) ?_
  show Wp G mJ1_charAt_3b067 d 0 [stV i, .int (nI k)] [] σ 0 0 _
  have hs13 : ∀ i, i < 2 → slen i ≤ 13 := by decide
  have h13 := hs13 i hi
  obtain ⟨eb, hb⟩ := txB_at i hi k hk
  refine wp_iload_n (atd dJ1_charAt_3b067 0 rfl) rfl ?_
  refine wp_aload_n (atd dJ1_charAt_3b067 1 rfl) rfl rfl ?_
  refine wp_lenV (by omega) (atd dJ1_charAt_3b067 2 rfl) ?_
  refine wp_cSv hdd [_, _] (atd dJ1_charAt_3b067 3 rfl) iJ0_checkIndex_df160 lJ1_9 rfl rfl (Nat.le_of_ble_eq_true rfl) (eJ0_checkIndex (by omega) hk (by omega)) (fun s h => ?_)
  obtain rfl : s = σ := h
  refine wp_aload_n (atd dJ1_charAt_3b067 4 rfl) rfl rfl ?_
  refine wp_iload_n (atd dJ1_charAt_3b067 5 rfl) rfl ?_
  refine wp_baldV (by omega) hk (atd dJ1_charAt_3b067 6 rfl) ?_
  rw [eb]
  refine wp_sipush (v := nI 255) (atd dJ1_charAt_3b067 7 rfl) (by decide) ?_
  refine wp_iandN (atd dJ1_charAt_3b067 8 rfl) ?_
  rw [and255N _ hb]
  refine wp_i2cN (by omega) (atd dJ1_charAt_3b067 9 rfl) ?_
  exact wp_iret (atd dJ1_charAt_3b067 10 rfl) rfl (pk_charN (by omega)).1 ⟨_, rfl, rfl, rfl⟩
theorem eJ0_charAt {G : Gx} {d : Nat} {σ : Hp} (hd : 3 ≤ d) {i k : Nat} (hi : i < 2) (hk : k < slen i) : Cl G mJ0_charAt_5068e d [stK i, .int (nI k)] σ 0 0 (pI fun r s => r = nI (sbyt i k) ∧ s = σ) := by
  obtain ⟨d0, hdd⟩ : ∃ e, d = e + 1 := ⟨d - 1, by omega⟩
  refine cl_of (by decide) (by simp [Value.category]) (Nat.le_of_ble_eq_true rfl) ?_
  show Wp G mJ0_charAt_5068e d 0 [stK i, .int (nI k)] [] σ 0 0 _
  obtain ⟨eb, hb⟩ := txB_at i hi k hk
  refine wp_aload_n (atd dJ0_charAt_5068e 0 rfl) rfl rfl ?_
  refine wp_cKi hdd [] (by omega) rfl (atd dJ0_charAt_5068e 1 rfl) iJ0_isLatin1_aae02 lJ0_492 (okw (in2 208 (by decide +kernel)) (by decide +kernel)) rfl rfl (Nat.le_of_ble_eq_true rfl) (eJ0_isLatin1 (by omega) (by omega)) (fun r s h => ?_)
  obtain ⟨rfl, rfl⟩ := h
  refine wp_ifN_eq (tgt := 16) (atd dJ0_charAt_5068e 2 rfl) (by decide) (by decide) (fun c_4 => ?_) (fun c_4 => ?_)
  · exact absurd c_4 (by decide)
  · refine wp_aload_n (atd dJ0_charAt_5068e 3 rfl) rfl rfl ?_
    refine wp_getV (by omega) fJ0_9 (atd dJ0_charAt_5068e 4 rfl) ?_
    refine wp_iload_n (atd dJ0_charAt_5068e 5 rfl) rfl ?_
    refine wp_cSi hdd [_, _] (atd dJ0_charAt_5068e 6 rfl) iJ1_charAt_3b067 lJ0_495 rfl rfl (Nat.le_of_ble_eq_true rfl) (eJ1_charAt (by omega) hi hk) (fun r s h => ?_)
    obtain ⟨rfl, rfl⟩ := h
    exact wp_iret (atd dJ0_charAt_5068e 7 rfl) rfl (pk_charN (by omega)).1 ⟨_, rfl, rfl, rfl⟩
