/-! ===== the constructors that make only rows (by program) ===== -/
def yI4 : MethodName := ⟨RX4, "<init>", "()V"⟩
abbrev bI4 : ByteArray := prog_6_method_1_code
def yI5 : MethodName := ⟨RX5, "<init>", "(LCueBoard$Findings;)V"⟩
abbrev bI5 : ByteArray := prog_7_method_1_code
def yI9 : MethodName := ⟨RX9, "<init>", "(LCueBoard$Findings;)V"⟩
abbrev bI9 : ByteArray := prog_11_method_1_code
def yI7 : MethodName := ⟨RX7, "<init>", "(LCueBoard$Findings;LCueBoard$Rig;)V"⟩
abbrev bI7 : ByteArray := prog_9_method_1_code
def yI3 : MethodName := ⟨RX3, "<init>", "()V"⟩
abbrev bI3 : ByteArray := prog_5_method_1_code
def yI2 : MethodName := ⟨RX2, "<init>", "(LCueBoard$Rig;)V"⟩
abbrev bI2 : ByteArray := prog_4_method_1_code
def yI8 : MethodName := ⟨RX8, "<init>", "()V"⟩
abbrev bI8 : ByteArray := prog_10_method_1_code
def yI1 : MethodName := ⟨RX1, "<init>", "()V"⟩
abbrev bI1 : ByteArray := prog_3_method_1_code
def yI6 : MethodName := ⟨RX6, "<init>", "(LCueBoard$Lines;LCueBoard$Patching;LCueBoard$Curves;[LCueBoard$Playback;)V"⟩
abbrev bI6 : ByteArray := prog_8_method_1_code
theorem wd_23 : Cond.instanceMethod objectInit ∈ x_Ts := x_wq_of (i := 112) (by decide +kernel)
theorem wd_24 : Cond.code objectInit ⟨#[0xb1]⟩ 1 none ∈ x_Ts := x_wq_of (i := 113) (by decide +kernel)
theorem wd_29 : Cond.code yI1 bI1 1 none ∈ x_Ts := x_wq_of (i := 118) (by decide +kernel)
theorem wd_30 : Cond.methodLink RX1 3 objectInit ∈ x_Ts := x_wq_of (i := 119) (by decide +kernel)
theorem wd_31 : Cond.fieldLink RX1 9 "CueBoard$Book" "acts" "[I" ∈ x_Ts := x_wq_of (i := 120) (by decide +kernel)
theorem wd_33 : Cond.fieldLink RX1 15 "CueBoard$Book" "numbers" "[I" ∈ x_Ts := x_wq_of (i := 122) (by decide +kernel)
theorem wd_35 : Cond.fieldLink RX1 18 "CueBoard$Book" "calls" "I" ∈ x_Ts := x_wq_of (i := 124) (by decide +kernel)
theorem wd_44 : Cond.arrayClass .int ∈ x_Ts := x_wq_of (i := 133) (by decide +kernel)
theorem wd_55 : Cond.code yI4 bI4 1 none ∈ x_Ts := x_wq_of (i := 144) (by decide +kernel)
theorem wd_56 : Cond.methodLink RX4 3 objectInit ∈ x_Ts := x_wq_of (i := 145) (by decide +kernel)
theorem wd_57 : Cond.fieldLink RX4 9 "CueBoard$Findings" "counts" "[I" ∈ x_Ts := x_wq_of (i := 146) (by decide +kernel)
theorem wd_65 : Cond.code yI5 bI5 2 none ∈ x_Ts := x_wq_of (i := 154) (by decide +kernel)
theorem wd_66 : Cond.methodLink RX5 3 objectInit ∈ x_Ts := x_wq_of (i := 155) (by decide +kernel)
theorem wd_67 : Cond.fieldLink RX6 28 "CueBoard$Lines" "findings" "LCueBoard$Findings;" ∈ x_Ts := x_wq_of (i := 156) (by decide +kernel)
theorem wd_68 : Cond.fieldLink RX5 31 "CueBoard$Lines" "findings" "LCueBoard$Findings;" ∈ x_Ts := x_wq_of (i := 157) (by decide +kernel)
theorem wd_69 : Cond.fieldLink RX5 9 "CueBoard$Lines" "bytes" "[I" ∈ x_Ts := x_wq_of (i := 158) (by decide +kernel)
theorem wd_71 : Cond.fieldLink RX5 15 "CueBoard$Lines" "places" "[I" ∈ x_Ts := x_wq_of (i := 160) (by decide +kernel)
theorem wd_73 : Cond.fieldLink RX5 18 "CueBoard$Lines" "plugged" "[Z" ∈ x_Ts := x_wq_of (i := 162) (by decide +kernel)
theorem wd_75 : Cond.fieldLink RX5 22 "CueBoard$Lines" "limits" "[I" ∈ x_Ts := x_wq_of (i := 164) (by decide +kernel)
theorem wd_77 : Cond.fieldLink RX5 25 "CueBoard$Lines" "heats" "[I" ∈ x_Ts := x_wq_of (i := 166) (by decide +kernel)
theorem wd_79 : Cond.fieldLink RX5 28 "CueBoard$Lines" "overs" "[Z" ∈ x_Ts := x_wq_of (i := 168) (by decide +kernel)
theorem wd_96 : Cond.arrayClass .boolean ∈ x_Ts := x_wq_of (i := 185) (by decide +kernel)
theorem wd_101 : Cond.code yI9 bI9 2 none ∈ x_Ts := x_wq_of (i := 190) (by decide +kernel)
theorem wd_102 : Cond.methodLink RX9 3 objectInit ∈ x_Ts := x_wq_of (i := 191) (by decide +kernel)
theorem wd_103 : Cond.fieldLink RX9 36 "CueBoard$Rig" "findings" "LCueBoard$Findings;" ∈ x_Ts := x_wq_of (i := 192) (by decide +kernel)
theorem wd_107 : Cond.fieldLink RX9 9 "CueBoard$Rig" "kinds" "[I" ∈ x_Ts := x_wq_of (i := 196) (by decide +kernel)
theorem wd_109 : Cond.fieldLink RX9 15 "CueBoard$Rig" "numbers" "[I" ∈ x_Ts := x_wq_of (i := 198) (by decide +kernel)
theorem wd_111 : Cond.fieldLink RX9 18 "CueBoard$Rig" "seatCounts" "[I" ∈ x_Ts := x_wq_of (i := 200) (by decide +kernel)
theorem wd_112 : Cond.fieldLink RX9 21 "CueBoard$Rig" "seats" "[I" ∈ x_Ts := x_wq_of (i := 201) (by decide +kernel)
theorem wd_113 : Cond.fieldLink RX9 24 "CueBoard$Rig" "heats" "[I" ∈ x_Ts := x_wq_of (i := 202) (by decide +kernel)
theorem wd_115 : Cond.fieldLink RX9 27 "CueBoard$Rig" "mosts" "[I" ∈ x_Ts := x_wq_of (i := 204) (by decide +kernel)
theorem wd_117 : Cond.fieldLink RX9 30 "CueBoard$Rig" "members" "[I" ∈ x_Ts := x_wq_of (i := 206) (by decide +kernel)
theorem wd_120 : Cond.fieldLink RX9 33 "CueBoard$Rig" "marks" "[I" ∈ x_Ts := x_wq_of (i := 209) (by decide +kernel)
theorem wd_156 : Cond.code yI7 bI7 3 none ∈ x_Ts := x_wq_of (i := 245) (by decide +kernel)
theorem wd_157 : Cond.methodLink RX7 3 objectInit ∈ x_Ts := x_wq_of (i := 246) (by decide +kernel)
theorem wd_158 : Cond.fieldLink RX7 25 "CueBoard$Patching" "findings" "LCueBoard$Findings;" ∈ x_Ts := x_wq_of (i := 247) (by decide +kernel)
theorem wd_159 : Cond.fieldLink RX7 29 "CueBoard$Patching" "rig" "LCueBoard$Rig;" ∈ x_Ts := x_wq_of (i := 248) (by decide +kernel)
theorem wd_160 : Cond.fieldLink RX6 39 "CueBoard$Patching" "rig" "LCueBoard$Rig;" ∈ x_Ts := x_wq_of (i := 249) (by decide +kernel)
theorem wd_161 : Cond.fieldLink RX7 9 "CueBoard$Patching" "lineOf" "[I" ∈ x_Ts := x_wq_of (i := 250) (by decide +kernel)
theorem wd_164 : Cond.fieldLink RX7 15 "CueBoard$Patching" "placeOf" "[I" ∈ x_Ts := x_wq_of (i := 253) (by decide +kernel)
theorem wd_167 : Cond.fieldLink RX7 18 "CueBoard$Patching" "firms" "[Z" ∈ x_Ts := x_wq_of (i := 256) (by decide +kernel)
theorem wd_170 : Cond.fieldLink RX7 22 "CueBoard$Patching" "order" "[I" ∈ x_Ts := x_wq_of (i := 259) (by decide +kernel)
theorem wd_193 : Cond.code yI3 bI3 1 none ∈ x_Ts := x_wq_of (i := 282) (by decide +kernel)
theorem wd_194 : Cond.methodLink RX3 3 objectInit ∈ x_Ts := x_wq_of (i := 283) (by decide +kernel)
theorem wd_195 : Cond.fieldLink RX3 9 "CueBoard$Curves" "counts" "[I" ∈ x_Ts := x_wq_of (i := 284) (by decide +kernel)
theorem wd_196 : Cond.fieldLink RX3 15 "CueBoard$Curves" "xs" "[I" ∈ x_Ts := x_wq_of (i := 285) (by decide +kernel)
theorem wd_197 : Cond.fieldLink RX3 18 "CueBoard$Curves" "bits" "[I" ∈ x_Ts := x_wq_of (i := 286) (by decide +kernel)
theorem wd_198 : Cond.fieldLink RX3 21 "CueBoard$Curves" "holes" "[Z" ∈ x_Ts := x_wq_of (i := 287) (by decide +kernel)
theorem wd_199 : Cond.fieldLink RX3 25 "CueBoard$Curves" "ys" "[F" ∈ x_Ts := x_wq_of (i := 288) (by decide +kernel)
theorem wd_217 : Cond.arrayClass .float ∈ x_Ts := x_wq_of (i := 306) (by decide +kernel)
theorem wd_222 : Cond.code yI2 bI2 2 none ∈ x_Ts := x_wq_of (i := 311) (by decide +kernel)
theorem wd_223 : Cond.methodLink RX2 3 objectInit ∈ x_Ts := x_wq_of (i := 312) (by decide +kernel)
theorem wd_224 : Cond.fieldLink RX2 36 "CueBoard$Cues" "rig" "LCueBoard$Rig;" ∈ x_Ts := x_wq_of (i := 313) (by decide +kernel)
theorem wd_225 : Cond.fieldLink RX2 9 "CueBoard$Cues" "entryCounts" "[I" ∈ x_Ts := x_wq_of (i := 314) (by decide +kernel)
theorem wd_227 : Cond.fieldLink RX2 15 "CueBoard$Cues" "fixtures" "[I" ∈ x_Ts := x_wq_of (i := 316) (by decide +kernel)
theorem wd_229 : Cond.fieldLink RX2 18 "CueBoard$Cues" "channels" "[I" ∈ x_Ts := x_wq_of (i := 318) (by decide +kernel)
theorem wd_231 : Cond.fieldLink RX2 21 "CueBoard$Cues" "values" "[I" ∈ x_Ts := x_wq_of (i := 320) (by decide +kernel)
theorem wd_233 : Cond.fieldLink RX2 24 "CueBoard$Cues" "lengths" "[I" ∈ x_Ts := x_wq_of (i := 322) (by decide +kernel)
theorem wd_235 : Cond.fieldLink RX2 27 "CueBoard$Cues" "stepCounts" "[I" ∈ x_Ts := x_wq_of (i := 324) (by decide +kernel)
theorem wd_236 : Cond.fieldLink RX2 30 "CueBoard$Cues" "steps" "[I" ∈ x_Ts := x_wq_of (i := 325) (by decide +kernel)
theorem wd_237 : Cond.fieldLink RX2 33 "CueBoard$Cues" "follows" "[I" ∈ x_Ts := x_wq_of (i := 326) (by decide +kernel)
theorem wd_263 : Cond.code yI6 bI6 5 none ∈ x_Ts := x_wq_of (i := 352) (by decide +kernel)
theorem wd_264 : Cond.methodLink RX6 3 objectInit ∈ x_Ts := x_wq_of (i := 353) (by decide +kernel)
theorem wd_265 : Cond.fieldLink RX6 34 "CueBoard$Mixer" "findings" "LCueBoard$Findings;" ∈ x_Ts := x_wq_of (i := 354) (by decide +kernel)
theorem wd_266 : Cond.fieldLink RX6 35 "CueBoard$Mixer" "lines" "LCueBoard$Lines;" ∈ x_Ts := x_wq_of (i := 355) (by decide +kernel)
theorem wd_267 : Cond.fieldLink RX6 45 "CueBoard$Mixer" "rig" "LCueBoard$Rig;" ∈ x_Ts := x_wq_of (i := 356) (by decide +kernel)
theorem wd_268 : Cond.fieldLink RX6 46 "CueBoard$Mixer" "patching" "LCueBoard$Patching;" ∈ x_Ts := x_wq_of (i := 357) (by decide +kernel)
theorem wd_269 : Cond.fieldLink RX6 50 "CueBoard$Mixer" "curves" "LCueBoard$Curves;" ∈ x_Ts := x_wq_of (i := 358) (by decide +kernel)
theorem wd_270 : Cond.fieldLink RX6 54 "CueBoard$Mixer" "playbacks" "[LCueBoard$Playback;" ∈ x_Ts := x_wq_of (i := 359) (by decide +kernel)
theorem wd_271 : Cond.fieldLink RX6 9 "CueBoard$Mixer" "curveOf" "[I" ∈ x_Ts := x_wq_of (i := 360) (by decide +kernel)
theorem wd_272 : Cond.fieldLink RX6 15 "CueBoard$Mixer" "bents" "[I" ∈ x_Ts := x_wq_of (i := 361) (by decide +kernel)
theorem wd_273 : Cond.fieldLink RX6 18 "CueBoard$Mixer" "byLatest" "[Z" ∈ x_Ts := x_wq_of (i := 362) (by decide +kernel)
theorem wd_274 : Cond.fieldLink RX6 22 "CueBoard$Mixer" "levels" "[I" ∈ x_Ts := x_wq_of (i := 363) (by decide +kernel)
theorem wd_275 : Cond.fieldLink RX6 25 "CueBoard$Mixer" "wholes" "[Z" ∈ x_Ts := x_wq_of (i := 364) (by decide +kernel)
theorem wd_311 : Cond.code yI8 bI8 1 none ∈ x_Ts := x_wq_of (i := 400) (by decide +kernel)
theorem wd_312 : Cond.methodLink RX8 3 objectInit ∈ x_Ts := x_wq_of (i := 401) (by decide +kernel)
theorem wd_330 : Cond.fieldLink RX8 9 "CueBoard$Playback" "values" "[I" ∈ x_Ts := x_wq_of (i := 419) (by decide +kernel)
theorem wd_333 : Cond.fieldLink RX8 15 "CueBoard$Playback" "began" "[I" ∈ x_Ts := x_wq_of (i := 422) (by decide +kernel)
theorem wd_336 : Cond.fieldLink RX8 18 "CueBoard$Playback" "from" "[I" ∈ x_Ts := x_wq_of (i := 425) (by decide +kernel)
theorem wd_337 : Cond.fieldLink RX8 21 "CueBoard$Playback" "to" "[I" ∈ x_Ts := x_wq_of (i := 426) (by decide +kernel)
theorem wd_338 : Cond.fieldLink RX8 24 "CueBoard$Playback" "lengths" "[I" ∈ x_Ts := x_wq_of (i := 427) (by decide +kernel)
theorem wd_339 : Cond.fieldLink RX8 27 "CueBoard$Playback" "gone" "[I" ∈ x_Ts := x_wq_of (i := 428) (by decide +kernel)
theorem df0 : ∀ j, j < 11 → defaultValue (tyX0 j) = vp_V [.null, .null, .null, .null, .null, .null, .null, .null, .int 0, .int 0, .int 0] j := by
  intro j hj
  rcases (show j = 0 ∨ j = 1 ∨ j = 2 ∨ j = 3 ∨ j = 4 ∨ j = 5 ∨ j = 6 ∨ j = 7 ∨ j = 8 ∨ j = 9 ∨ j = 10 by omega) with rfl | rfl | rfl | rfl | rfl | rfl | rfl | rfl | rfl | rfl | rfl <;> rfl
theorem df1 : ∀ j, j < 3 → defaultValue (tyX1 j) = vp_V [.null, .null, .int 0] j := by
  intro j hj
  rcases (show j = 0 ∨ j = 1 ∨ j = 2 by omega) with rfl | rfl | rfl <;> rfl
theorem df2 : ∀ j, j < 9 → defaultValue (tyX2 j) = vp_V [.null, .null, .null, .null, .null, .null, .null, .null, .null] j := by
  intro j hj
  rcases (show j = 0 ∨ j = 1 ∨ j = 2 ∨ j = 3 ∨ j = 4 ∨ j = 5 ∨ j = 6 ∨ j = 7 ∨ j = 8 by omega) with rfl | rfl | rfl | rfl | rfl | rfl | rfl | rfl | rfl <;> rfl
theorem df3 : ∀ j, j < 7 → defaultValue (tyX3 j) = vp_V [.null, .null, .null, .null, .null, .int 0, .int 0] j := by
  intro j hj
  rcases (show j = 0 ∨ j = 1 ∨ j = 2 ∨ j = 3 ∨ j = 4 ∨ j = 5 ∨ j = 6 by omega) with rfl | rfl | rfl | rfl | rfl | rfl | rfl <;> rfl
theorem df4 : ∀ j, j < 1 → defaultValue (tyX4 j) = vp_V [.null] j := by
  intro j hj
  rcases (show j = 0 by omega) with rfl <;> rfl
theorem df5 : ∀ j, j < 7 → defaultValue (tyX5 j) = vp_V [.null, .null, .null, .null, .null, .null, .null] j := by
  intro j hj
  rcases (show j = 0 ∨ j = 1 ∨ j = 2 ∨ j = 3 ∨ j = 4 ∨ j = 5 ∨ j = 6 by omega) with rfl | rfl | rfl | rfl | rfl | rfl | rfl <;> rfl
theorem df6 : ∀ j, j < 13 → defaultValue (tyX6 j) = vp_V [.null, .null, .null, .null, .null, .null, .null, .null, .null, .null, .null, .int 0, .int 0] j := by
  intro j hj
  rcases (show j = 0 ∨ j = 1 ∨ j = 2 ∨ j = 3 ∨ j = 4 ∨ j = 5 ∨ j = 6 ∨ j = 7 ∨ j = 8 ∨ j = 9 ∨ j = 10 ∨ j = 11 ∨ j = 12 by omega) with rfl | rfl | rfl | rfl | rfl | rfl | rfl | rfl | rfl | rfl | rfl | rfl | rfl <;> rfl
theorem df7 : ∀ j, j < 7 → defaultValue (tyX7 j) = vp_V [.null, .null, .null, .null, .null, .null, .int 0] j := by
  intro j hj
  rcases (show j = 0 ∨ j = 1 ∨ j = 2 ∨ j = 3 ∨ j = 4 ∨ j = 5 ∨ j = 6 by omega) with rfl | rfl | rfl | rfl | rfl | rfl | rfl <;> rfl
theorem df8 : ∀ j, j < 15 → defaultValue (tyX8 j) = vp_V [.int 0, .int 0, .int 0, .int 0, .int 0, .int 0, .int 0, .int 0, .int 0, .null, .null, .null, .null, .null, .null] j := by
  intro j hj
  rcases (show j = 0 ∨ j = 1 ∨ j = 2 ∨ j = 3 ∨ j = 4 ∨ j = 5 ∨ j = 6 ∨ j = 7 ∨ j = 8 ∨ j = 9 ∨ j = 10 ∨ j = 11 ∨ j = 12 ∨ j = 13 ∨ j = 14 by omega) with rfl | rfl | rfl | rfl | rfl | rfl | rfl | rfl | rfl | rfl | rfl | rfl | rfl | rfl | rfl <;> rfl
theorem df9 : ∀ j, j < 14 → defaultValue (tyX9 j) = vp_V [.null, .int 0, .int 0, .null, .null, .null, .null, .null, .null, .null, .int 0, .null, .int 0, .int 0] j := by
  intro j hj
  rcases (show j = 0 ∨ j = 1 ∨ j = 2 ∨ j = 3 ∨ j = 4 ∨ j = 5 ∨ j = 6 ∨ j = 7 ∨ j = 8 ∨ j = 9 ∨ j = 10 ∨ j = 11 ∨ j = 12 ∨ j = 13 by omega) with rfl | rfl | rfl | rfl | rfl | rfl | rfl | rfl | rfl | rfl | rfl | rfl | rfl | rfl <;> rfl
theorem df10 : ∀ j, j < 3 → defaultValue (tyX10 j) = vp_V [.null, .null, .null] j := by
  intro j hj
  rcases (show j = 0 ∨ j = 1 ∨ j = 2 by omega) with rfl | rfl | rfl <;> rfl
theorem df11 : ∀ j, j < 13 → defaultValue (tyX11 j) = vp_V [.null, .null, .null, .int 0, .int 0, .null, .int 0, .int 0, .null, .null, .null, .int 0, .null] j := by
  intro j hj
  rcases (show j = 0 ∨ j = 1 ∨ j = 2 ∨ j = 3 ∨ j = 4 ∨ j = 5 ∨ j = 6 ∨ j = 7 ∨ j = 8 ∨ j = 9 ∨ j = 10 ∨ j = 11 ∨ j = 12 by omega) with rfl | rfl | rfl | rfl | rfl | rfl | rfl | rfl | rfl | rfl | rfl | rfl | rfl <;> rfl
theorem dI4_0 : decode bI4 0 = .ok (.aload_n 0, 1) := by decide +kernel
theorem dI4_1 : decode bI4 1 = .ok (.invokespecial 3, 3) := by decide +kernel
theorem dI4_4 : decode bI4 4 = .ok (.aload_n 0, 1) := by decide +kernel
theorem dI4_5 : decode bI4 5 = .ok (.bipush 7, 2) := by decide +kernel
theorem dI4_7 : decode bI4 7 = .ok (.newarray .int, 2) := by decide +kernel
theorem dI4_9 : decode bI4 9 = .ok (.putfield 9, 3) := by decide +kernel
theorem dI4_12 : decode bI4 12 = .ok (.return_, 1) := by decide +kernel
abbrev pI4 (h0 : Nat) : va_W := [(h0, .inr (4, [.null]))]
abbrev oI4 (dA : Nat → ClassId) (h0 : Nat) (u : Nat → Nat) : va_W := [(h0, .inr (4, [.ref (u 0)])), ((u 0), aI dA 7)]
set_option maxHeartbeats 4000000 in
set_option maxRecDepth 100000 in
theorem cI4 (l : Launch) (D : va_G) (dA : Nat → ClassId) (h0 sz : Nat) : Met l yI4 (Cond.code yI4 bI4 1 none :: x_Ts) ({ frames := 1, cells := 1, slots := 7, locals := 12 }) (va_Pc [.ref h0] (fun U => U.heap.size = sz ∧ va_P D vwCl (pI4 h0) U.heap ∧ va_K D vwCl (x_tys dA) U ∧ va_D (fun _ => True) (pI4 h0))) (va_Qv (fun _ : Nat → Nat => True) (fun u t => va_P D vwCl (oI4 dA h0 u) t.heap ∧ va_K D vwCl (x_tys dA) t ∧ va_D (va_A (pI4 h0) sz) (oI4 dA h0 u)) (va_A (pI4 h0) sz)) 1 7 (va_A (pI4 h0) sz) := by
  refine Met.ofW (cc := bI4) (maxL := 1) (ret := none) (by decide +kernel) rfl ?_
  intro p e s m args below meth c s₁ B hml hv
  obtain ⟨rfl, hsz, hP, hK, hD0⟩ := hv
  have hx := B.exec
  have hb := B.bytes
  have hr := B.returns
  have hts0 := atoms_spec (ws := Cond.code yI4 bI4 1 none :: x_Ts) B.pre
  have hts : ∀ w ∈ x_Ts, w.before _ s = true := fun w h => hts0 w (List.mem_cons_of_mem _ h)
  have hown : s.vm.findClass RX4 = some m.cls := findClass_of_methodNamed B.named
  have hlocks := B.notSynchronized
  have hin : meth.name = "<init>" := (name_of_methodNamed B.named B.method).1
  subst hsz
  have hD := hD0.self (sz := s.heap.size)
  generalize hAe : va_A (pI4 h0) s.heap.size = A at hD ⊢
  have hA : ∀ q : Nat, s.heap.size ≤ q → A q := fun q h => by rw [← hAe]; exact Or.inr h
  have hS : va_S A s.heap s.heap [] := va_S.rf
  have hl := lv_entry ([.ref h0]) (n := 1) (Nat.le_of_ble_eq_true rfl)
  rw [lg_entry_eq]
  generalize (lg_sl ([.ref h0]) ++ List.replicate (1 - (lg_sl ([.ref h0])).length) Slot.unset).toArray = ls at hl ⊢
  have hl : lv_has ls 1 [(0, .ref h0)] := hl
  refine lv_aload_n hx hb dI4_0 rfl (lv_at hl 0 rfl) ?_
  refine W.objInit hx hb hown (hts _ wd_56) (hts _ wd_23) (hts _ wd_24) rfl (by rw [hml]; exact hl.1) rfl dI4_1 (Nat.le_of_ble_eq_true rfl) (Nat.le_of_ble_eq_true rfl) ?_
  refine W.eq (g2 := F0 m 4 ls []) rfl ?_
  refine lv_aload_n hx hb dI4_4 rfl (lv_at hl 0 rfl) ?_
  refine lv_bipush (v := 7) hx hb dI4_5 (by decide) ?_
  refine nw_i hx hb (hts _ wd_44) hK hP hD hS hA 7 (by decide) (by decide) (by decide) (Nat.le_of_ble_eq_true rfl) (Nat.le_of_ble_eq_true rfl) dI4_7 (fun q1 H hP hD hS => ?_)
  have hP : va_P D vwCl [(h0, .inr (4, [.null])), (q1, aI dA 7)] H := hP
  have hD : va_D A [(h0, .inr (4, [.null])), (q1, aI dA 7)] := hD
  refine W.widen (k := 1) (n := 7) (by decide) (by decide) ?_
  refine va_putF (D := D) (ci := 4) (v := .ref q1) (ty := .array .int) (C := RX4) (T := TX4) (N := 1) hx hb hts (x_cl_words 4 _ rfl).1 tyX4 tyX4_ok nmX4 hown hK hP hD hS 0 rfl rfl 0 (by decide) (hts _ wd_57) (fun _ h9 => h9) rfl hin rfl (by decide +kernel) rfl rfl (Nat.le_of_ble_eq_true rfl) dI4_9 (fun H locs hP hD hS => ?_)
  have hP : va_P D vwCl [(h0, .inr (4, [.ref q1])), (q1, aI dA 7)] H := hP
  have hD : va_D A [(h0, .inr (4, [.ref q1])), (q1, aI dA 7)] := hD
  exact W.vret hx hb hr (fun t ht hW => ⟨⟨fun k => ([q1] : List Nat).getD k 0, rfl, trivial, by rw [ht]; exact hP, va_K.moved hW.alike hK, hD⟩, hS.F ht⟩) hS.2.2 dI4_12
theorem dI5_0 : decode bI5 0 = .ok (.aload_n 0, 1) := by decide +kernel
theorem dI5_1 : decode bI5 1 = .ok (.invokespecial 3, 3) := by decide +kernel
theorem dI5_4 : decode bI5 4 = .ok (.aload_n 0, 1) := by decide +kernel
theorem dI5_5 : decode bI5 5 = .ok (.sipush 256, 3) := by decide +kernel
theorem dI5_8 : decode bI5 8 = .ok (.newarray .int, 2) := by decide +kernel
theorem dI5_10 : decode bI5 10 = .ok (.putfield 9, 3) := by decide +kernel
theorem dI5_13 : decode bI5 13 = .ok (.aload_n 0, 1) := by decide +kernel
theorem dI5_14 : decode bI5 14 = .ok (.iconst 4, 1) := by decide +kernel
theorem dI5_15 : decode bI5 15 = .ok (.newarray .int, 2) := by decide +kernel
theorem dI5_17 : decode bI5 17 = .ok (.putfield 15, 3) := by decide +kernel
theorem dI5_20 : decode bI5 20 = .ok (.aload_n 0, 1) := by decide +kernel
theorem dI5_21 : decode bI5 21 = .ok (.iconst 4, 1) := by decide +kernel
theorem dI5_22 : decode bI5 22 = .ok (.newarray .boolean, 2) := by decide +kernel
theorem dI5_24 : decode bI5 24 = .ok (.putfield 18, 3) := by decide +kernel
theorem dI5_27 : decode bI5 27 = .ok (.aload_n 0, 1) := by decide +kernel
theorem dI5_28 : decode bI5 28 = .ok (.iconst 4, 1) := by decide +kernel
theorem dI5_29 : decode bI5 29 = .ok (.newarray .int, 2) := by decide +kernel
theorem dI5_31 : decode bI5 31 = .ok (.putfield 22, 3) := by decide +kernel
theorem dI5_34 : decode bI5 34 = .ok (.aload_n 0, 1) := by decide +kernel
theorem dI5_35 : decode bI5 35 = .ok (.iconst 4, 1) := by decide +kernel
theorem dI5_36 : decode bI5 36 = .ok (.newarray .int, 2) := by decide +kernel
theorem dI5_38 : decode bI5 38 = .ok (.putfield 25, 3) := by decide +kernel
theorem dI5_41 : decode bI5 41 = .ok (.aload_n 0, 1) := by decide +kernel
theorem dI5_42 : decode bI5 42 = .ok (.iconst 4, 1) := by decide +kernel
theorem dI5_43 : decode bI5 43 = .ok (.newarray .boolean, 2) := by decide +kernel
theorem dI5_45 : decode bI5 45 = .ok (.putfield 28, 3) := by decide +kernel
theorem dI5_48 : decode bI5 48 = .ok (.aload_n 0, 1) := by decide +kernel
theorem dI5_49 : decode bI5 49 = .ok (.aload_n 1, 1) := by decide +kernel
theorem dI5_50 : decode bI5 50 = .ok (.putfield 31, 3) := by decide +kernel
theorem dI5_53 : decode bI5 53 = .ok (.return_, 1) := by decide +kernel
abbrev pI5 (h0 a1 : Nat) : va_W := [(h0, .inr (5, [.null, .null, .null, .null, .null, .null, .null]))]
abbrev oI5 (dA : Nat → ClassId) (h0 a1 : Nat) (u : Nat → Nat) : va_W := [(h0, .inr (5, [.ref a1, .ref (u 0), .ref (u 1), .ref (u 2), .ref (u 3), .ref (u 4), .ref (u 5)])), ((u 0), aI dA 256), ((u 1), aI dA 4), ((u 2), aZ dA 4), ((u 3), aI dA 4), ((u 4), aI dA 4), ((u 5), aZ dA 4)]
set_option maxHeartbeats 4000000 in
set_option maxRecDepth 100000 in
theorem cI5 (l : Launch) (D : va_G) (dA : Nat → ClassId) (h0 a1 sz : Nat) : Met l yI5 (Cond.code yI5 bI5 2 none :: x_Ts) ({ frames := 1, cells := 6, slots := 276, locals := 12 }) (va_Pc [.ref h0, .ref a1] (fun U => U.heap.size = sz ∧ va_P D vwCl (pI5 h0 a1) U.heap ∧ va_K D vwCl (x_tys dA) U ∧ va_D (fun _ => True) (pI5 h0 a1))) (va_Qv (fun _ : Nat → Nat => True) (fun u t => va_P D vwCl (oI5 dA h0 a1 u) t.heap ∧ va_K D vwCl (x_tys dA) t ∧ va_D (va_A (pI5 h0 a1) sz) (oI5 dA h0 a1 u)) (va_A (pI5 h0 a1) sz)) 6 276 (va_A (pI5 h0 a1) sz) := by
  refine Met.ofW (cc := bI5) (maxL := 2) (ret := none) (by decide +kernel) rfl ?_
  intro p e s m args below meth c s₁ B hml hv
  obtain ⟨rfl, hsz, hP, hK, hD0⟩ := hv
  have hx := B.exec
  have hb := B.bytes
  have hr := B.returns
  have hts0 := atoms_spec (ws := Cond.code yI5 bI5 2 none :: x_Ts) B.pre
  have hts : ∀ w ∈ x_Ts, w.before _ s = true := fun w h => hts0 w (List.mem_cons_of_mem _ h)
  have hown : s.vm.findClass RX5 = some m.cls := findClass_of_methodNamed B.named
  have hlocks := B.notSynchronized
  have hin : meth.name = "<init>" := (name_of_methodNamed B.named B.method).1
  subst hsz
  have hD := hD0.self (sz := s.heap.size)
  generalize hAe : va_A (pI5 h0 a1) s.heap.size = A at hD ⊢
  have hA : ∀ q : Nat, s.heap.size ≤ q → A q := fun q h => by rw [← hAe]; exact Or.inr h
  have hS : va_S A s.heap s.heap [] := va_S.rf
  have hl := lv_entry ([.ref h0, .ref a1]) (n := 2) (Nat.le_of_ble_eq_true rfl)
  rw [lg_entry_eq]
  generalize (lg_sl ([.ref h0, .ref a1]) ++ List.replicate (2 - (lg_sl ([.ref h0, .ref a1])).length) Slot.unset).toArray = ls at hl ⊢
  have hl : lv_has ls 2 [(0, .ref h0), (1, .ref a1)] := hl
  refine lv_aload_n hx hb dI5_0 rfl (lv_at hl 0 rfl) ?_
  refine W.objInit hx hb hown (hts _ wd_66) (hts _ wd_23) (hts _ wd_24) rfl (by rw [hml]; exact hl.1) rfl dI5_1 (Nat.le_of_ble_eq_true rfl) (Nat.le_of_ble_eq_true rfl) ?_
  refine W.eq (g2 := F0 m 4 ls []) rfl ?_
  refine lv_aload_n hx hb dI5_4 rfl (lv_at hl 0 rfl) ?_
  refine lv_sipush (v := 256) hx hb dI5_5 (by decide) ?_
  refine nw_i hx hb (hts _ wd_44) hK hP hD hS hA 256 (by decide) (by decide) (by decide) (Nat.le_of_ble_eq_true rfl) (Nat.le_of_ble_eq_true rfl) dI5_8 (fun q1 H hP hD hS => ?_)
  have hP : va_P D vwCl [(h0, .inr (5, [.null, .null, .null, .null, .null, .null, .null])), (q1, aI dA 256)] H := hP
  have hD : va_D A [(h0, .inr (5, [.null, .null, .null, .null, .null, .null, .null])), (q1, aI dA 256)] := hD
  refine W.widen (k := 1) (n := 256) (by decide) (by decide) ?_
  refine va_putF (D := D) (ci := 5) (v := .ref q1) (ty := .array .int) (C := RX5) (T := TX5) (N := 7) hx hb hts (x_cl_words 5 _ rfl).1 tyX5 tyX5_ok nmX5 hown hK hP hD hS 0 rfl rfl 1 (by decide) (hts _ wd_69) (fun _ h9 => h9) rfl hin rfl (by decide +kernel) rfl rfl (Nat.le_of_ble_eq_true rfl) dI5_10 (fun H locs hP hD hS => ?_)
  have hP : va_P D vwCl [(h0, .inr (5, [.null, .ref q1, .null, .null, .null, .null, .null])), (q1, aI dA 256)] H := hP
  have hD : va_D A [(h0, .inr (5, [.null, .ref q1, .null, .null, .null, .null, .null])), (q1, aI dA 256)] := hD
  refine lv_aload_n hx hb dI5_13 rfl (lv_at hl 0 rfl) ?_
  refine lv_iconst (v := 4) hx hb dI5_14 (by decide) ?_
  refine nw_i hx hb (hts _ wd_44) hK hP hD hS hA 4 (by decide) (by decide) (by decide) (Nat.le_of_ble_eq_true rfl) (Nat.le_of_ble_eq_true rfl) dI5_15 (fun q2 H hP hD hS => ?_)
  have hP : va_P D vwCl [(h0, .inr (5, [.null, .ref q1, .null, .null, .null, .null, .null])), (q1, aI dA 256), (q2, aI dA 4)] H := hP
  have hD : va_D A [(h0, .inr (5, [.null, .ref q1, .null, .null, .null, .null, .null])), (q1, aI dA 256), (q2, aI dA 4)] := hD
  refine W.widen (k := 2) (n := 260) (by decide) (by decide) ?_
  refine va_putF (D := D) (ci := 5) (v := .ref q2) (ty := .array .int) (C := RX5) (T := TX5) (N := 7) hx hb hts (x_cl_words 5 _ rfl).1 tyX5 tyX5_ok nmX5 hown hK hP hD hS 0 rfl rfl 2 (by decide) (hts _ wd_71) (fun _ h9 => h9) rfl hin rfl (by decide +kernel) rfl rfl (Nat.le_of_ble_eq_true rfl) dI5_17 (fun H locs hP hD hS => ?_)
  have hP : va_P D vwCl [(h0, .inr (5, [.null, .ref q1, .ref q2, .null, .null, .null, .null])), (q1, aI dA 256), (q2, aI dA 4)] H := hP
  have hD : va_D A [(h0, .inr (5, [.null, .ref q1, .ref q2, .null, .null, .null, .null])), (q1, aI dA 256), (q2, aI dA 4)] := hD
  refine lv_aload_n hx hb dI5_20 rfl (lv_at hl 0 rfl) ?_
  refine lv_iconst (v := 4) hx hb dI5_21 (by decide) ?_
  refine nw_z hx hb (hts _ wd_96) hK hP hD hS hA 4 (by decide) (by decide) (by decide) (Nat.le_of_ble_eq_true rfl) (Nat.le_of_ble_eq_true rfl) dI5_22 (fun q3 H hP hD hS => ?_)
  have hP : va_P D vwCl [(h0, .inr (5, [.null, .ref q1, .ref q2, .null, .null, .null, .null])), (q1, aI dA 256), (q2, aI dA 4), (q3, aZ dA 4)] H := hP
  have hD : va_D A [(h0, .inr (5, [.null, .ref q1, .ref q2, .null, .null, .null, .null])), (q1, aI dA 256), (q2, aI dA 4), (q3, aZ dA 4)] := hD
  refine W.widen (k := 3) (n := 264) (by decide) (by decide) ?_
  refine va_putF (D := D) (ci := 5) (v := .ref q3) (ty := .array .boolean) (C := RX5) (T := TX5) (N := 7) hx hb hts (x_cl_words 5 _ rfl).1 tyX5 tyX5_ok nmX5 hown hK hP hD hS 0 rfl rfl 3 (by decide) (hts _ wd_73) (fun _ h9 => h9) rfl hin rfl (by decide +kernel) rfl rfl (Nat.le_of_ble_eq_true rfl) dI5_24 (fun H locs hP hD hS => ?_)
  have hP : va_P D vwCl [(h0, .inr (5, [.null, .ref q1, .ref q2, .ref q3, .null, .null, .null])), (q1, aI dA 256), (q2, aI dA 4), (q3, aZ dA 4)] H := hP
  have hD : va_D A [(h0, .inr (5, [.null, .ref q1, .ref q2, .ref q3, .null, .null, .null])), (q1, aI dA 256), (q2, aI dA 4), (q3, aZ dA 4)] := hD
  refine lv_aload_n hx hb dI5_27 rfl (lv_at hl 0 rfl) ?_
  refine lv_iconst (v := 4) hx hb dI5_28 (by decide) ?_
  refine nw_i hx hb (hts _ wd_44) hK hP hD hS hA 4 (by decide) (by decide) (by decide) (Nat.le_of_ble_eq_true rfl) (Nat.le_of_ble_eq_true rfl) dI5_29 (fun q4 H hP hD hS => ?_)
  have hP : va_P D vwCl [(h0, .inr (5, [.null, .ref q1, .ref q2, .ref q3, .null, .null, .null])), (q1, aI dA 256), (q2, aI dA 4), (q3, aZ dA 4), (q4, aI dA 4)] H := hP
  have hD : va_D A [(h0, .inr (5, [.null, .ref q1, .ref q2, .ref q3, .null, .null, .null])), (q1, aI dA 256), (q2, aI dA 4), (q3, aZ dA 4), (q4, aI dA 4)] := hD
  refine W.widen (k := 4) (n := 268) (by decide) (by decide) ?_
  refine va_putF (D := D) (ci := 5) (v := .ref q4) (ty := .array .int) (C := RX5) (T := TX5) (N := 7) hx hb hts (x_cl_words 5 _ rfl).1 tyX5 tyX5_ok nmX5 hown hK hP hD hS 0 rfl rfl 4 (by decide) (hts _ wd_75) (fun _ h9 => h9) rfl hin rfl (by decide +kernel) rfl rfl (Nat.le_of_ble_eq_true rfl) dI5_31 (fun H locs hP hD hS => ?_)
  have hP : va_P D vwCl [(h0, .inr (5, [.null, .ref q1, .ref q2, .ref q3, .ref q4, .null, .null])), (q1, aI dA 256), (q2, aI dA 4), (q3, aZ dA 4), (q4, aI dA 4)] H := hP
  have hD : va_D A [(h0, .inr (5, [.null, .ref q1, .ref q2, .ref q3, .ref q4, .null, .null])), (q1, aI dA 256), (q2, aI dA 4), (q3, aZ dA 4), (q4, aI dA 4)] := hD
  refine lv_aload_n hx hb dI5_34 rfl (lv_at hl 0 rfl) ?_
  refine lv_iconst (v := 4) hx hb dI5_35 (by decide) ?_
  refine nw_i hx hb (hts _ wd_44) hK hP hD hS hA 4 (by decide) (by decide) (by decide) (Nat.le_of_ble_eq_true rfl) (Nat.le_of_ble_eq_true rfl) dI5_36 (fun q5 H hP hD hS => ?_)
  have hP : va_P D vwCl [(h0, .inr (5, [.null, .ref q1, .ref q2, .ref q3, .ref q4, .null, .null])), (q1, aI dA 256), (q2, aI dA 4), (q3, aZ dA 4), (q4, aI dA 4), (q5, aI dA 4)] H := hP
  have hD : va_D A [(h0, .inr (5, [.null, .ref q1, .ref q2, .ref q3, .ref q4, .null, .null])), (q1, aI dA 256), (q2, aI dA 4), (q3, aZ dA 4), (q4, aI dA 4), (q5, aI dA 4)] := hD
  refine W.widen (k := 5) (n := 272) (by decide) (by decide) ?_
  refine va_putF (D := D) (ci := 5) (v := .ref q5) (ty := .array .int) (C := RX5) (T := TX5) (N := 7) hx hb hts (x_cl_words 5 _ rfl).1 tyX5 tyX5_ok nmX5 hown hK hP hD hS 0 rfl rfl 5 (by decide) (hts _ wd_77) (fun _ h9 => h9) rfl hin rfl (by decide +kernel) rfl rfl (Nat.le_of_ble_eq_true rfl) dI5_38 (fun H locs hP hD hS => ?_)
  have hP : va_P D vwCl [(h0, .inr (5, [.null, .ref q1, .ref q2, .ref q3, .ref q4, .ref q5, .null])), (q1, aI dA 256), (q2, aI dA 4), (q3, aZ dA 4), (q4, aI dA 4), (q5, aI dA 4)] H := hP
  have hD : va_D A [(h0, .inr (5, [.null, .ref q1, .ref q2, .ref q3, .ref q4, .ref q5, .null])), (q1, aI dA 256), (q2, aI dA 4), (q3, aZ dA 4), (q4, aI dA 4), (q5, aI dA 4)] := hD
  refine lv_aload_n hx hb dI5_41 rfl (lv_at hl 0 rfl) ?_
  refine lv_iconst (v := 4) hx hb dI5_42 (by decide) ?_
  refine nw_z hx hb (hts _ wd_96) hK hP hD hS hA 4 (by decide) (by decide) (by decide) (Nat.le_of_ble_eq_true rfl) (Nat.le_of_ble_eq_true rfl) dI5_43 (fun q6 H hP hD hS => ?_)
  have hP : va_P D vwCl [(h0, .inr (5, [.null, .ref q1, .ref q2, .ref q3, .ref q4, .ref q5, .null])), (q1, aI dA 256), (q2, aI dA 4), (q3, aZ dA 4), (q4, aI dA 4), (q5, aI dA 4), (q6, aZ dA 4)] H := hP
  have hD : va_D A [(h0, .inr (5, [.null, .ref q1, .ref q2, .ref q3, .ref q4, .ref q5, .null])), (q1, aI dA 256), (q2, aI dA 4), (q3, aZ dA 4), (q4, aI dA 4), (q5, aI dA 4), (q6, aZ dA 4)] := hD
  refine W.widen (k := 6) (n := 276) (by decide) (by decide) ?_
  refine va_putF (D := D) (ci := 5) (v := .ref q6) (ty := .array .boolean) (C := RX5) (T := TX5) (N := 7) hx hb hts (x_cl_words 5 _ rfl).1 tyX5 tyX5_ok nmX5 hown hK hP hD hS 0 rfl rfl 6 (by decide) (hts _ wd_79) (fun _ h9 => h9) rfl hin rfl (by decide +kernel) rfl rfl (Nat.le_of_ble_eq_true rfl) dI5_45 (fun H locs hP hD hS => ?_)
  have hP : va_P D vwCl [(h0, .inr (5, [.null, .ref q1, .ref q2, .ref q3, .ref q4, .ref q5, .ref q6])), (q1, aI dA 256), (q2, aI dA 4), (q3, aZ dA 4), (q4, aI dA 4), (q5, aI dA 4), (q6, aZ dA 4)] H := hP
  have hD : va_D A [(h0, .inr (5, [.null, .ref q1, .ref q2, .ref q3, .ref q4, .ref q5, .ref q6])), (q1, aI dA 256), (q2, aI dA 4), (q3, aZ dA 4), (q4, aI dA 4), (q5, aI dA 4), (q6, aZ dA 4)] := hD
  refine lv_aload_n hx hb dI5_48 rfl (lv_at hl 0 rfl) ?_
  refine lv_aload_n hx hb dI5_49 rfl (lv_at hl 1 rfl) ?_
  refine va_putF (D := D) (ci := 5) (v := .ref a1) (ty := .object "CueBoard$Findings") (C := RX5) (T := TX5) (N := 7) hx hb hts (x_cl_words 5 _ rfl).1 tyX5 tyX5_ok nmX5 hown hK hP hD hS 0 rfl rfl 0 (by decide) (hts _ wd_68) (fun _ h9 => h9) rfl hin rfl (by decide +kernel) rfl rfl (Nat.le_of_ble_eq_true rfl) dI5_50 (fun H locs hP hD hS => ?_)
  have hP : va_P D vwCl [(h0, .inr (5, [.ref a1, .ref q1, .ref q2, .ref q3, .ref q4, .ref q5, .ref q6])), (q1, aI dA 256), (q2, aI dA 4), (q3, aZ dA 4), (q4, aI dA 4), (q5, aI dA 4), (q6, aZ dA 4)] H := hP
  have hD : va_D A [(h0, .inr (5, [.ref a1, .ref q1, .ref q2, .ref q3, .ref q4, .ref q5, .ref q6])), (q1, aI dA 256), (q2, aI dA 4), (q3, aZ dA 4), (q4, aI dA 4), (q5, aI dA 4), (q6, aZ dA 4)] := hD
  exact W.vret hx hb hr (fun t ht hW => ⟨⟨fun k => ([q1, q2, q3, q4, q5, q6] : List Nat).getD k 0, rfl, trivial, by rw [ht]; exact hP, va_K.moved hW.alike hK, hD⟩, hS.F ht⟩) hS.2.2 dI5_53
theorem dI9_0 : decode bI9 0 = .ok (.aload_n 0, 1) := by decide +kernel
theorem dI9_1 : decode bI9 1 = .ok (.invokespecial 3, 3) := by decide +kernel
theorem dI9_4 : decode bI9 4 = .ok (.aload_n 0, 1) := by decide +kernel
theorem dI9_5 : decode bI9 5 = .ok (.bipush 24, 2) := by decide +kernel
theorem dI9_7 : decode bI9 7 = .ok (.newarray .int, 2) := by decide +kernel
theorem dI9_9 : decode bI9 9 = .ok (.putfield 9, 3) := by decide +kernel
theorem dI9_12 : decode bI9 12 = .ok (.aload_n 0, 1) := by decide +kernel
theorem dI9_13 : decode bI9 13 = .ok (.bipush 24, 2) := by decide +kernel
theorem dI9_15 : decode bI9 15 = .ok (.newarray .int, 2) := by decide +kernel
theorem dI9_17 : decode bI9 17 = .ok (.putfield 15, 3) := by decide +kernel
theorem dI9_20 : decode bI9 20 = .ok (.aload_n 0, 1) := by decide +kernel
theorem dI9_21 : decode bI9 21 = .ok (.bipush 24, 2) := by decide +kernel
theorem dI9_23 : decode bI9 23 = .ok (.newarray .int, 2) := by decide +kernel
theorem dI9_25 : decode bI9 25 = .ok (.putfield 18, 3) := by decide +kernel
theorem dI9_28 : decode bI9 28 = .ok (.aload_n 0, 1) := by decide +kernel
theorem dI9_29 : decode bI9 29 = .ok (.sipush 144, 3) := by decide +kernel
theorem dI9_32 : decode bI9 32 = .ok (.newarray .int, 2) := by decide +kernel
theorem dI9_34 : decode bI9 34 = .ok (.putfield 21, 3) := by decide +kernel
theorem dI9_37 : decode bI9 37 = .ok (.aload_n 0, 1) := by decide +kernel
theorem dI9_38 : decode bI9 38 = .ok (.bipush 24, 2) := by decide +kernel
theorem dI9_40 : decode bI9 40 = .ok (.newarray .int, 2) := by decide +kernel
theorem dI9_42 : decode bI9 42 = .ok (.putfield 24, 3) := by decide +kernel
theorem dI9_45 : decode bI9 45 = .ok (.aload_n 0, 1) := by decide +kernel
theorem dI9_46 : decode bI9 46 = .ok (.bipush 24, 2) := by decide +kernel
theorem dI9_48 : decode bI9 48 = .ok (.newarray .int, 2) := by decide +kernel
theorem dI9_50 : decode bI9 50 = .ok (.putfield 27, 3) := by decide +kernel
theorem dI9_53 : decode bI9 53 = .ok (.aload_n 0, 1) := by decide +kernel
theorem dI9_54 : decode bI9 54 = .ok (.sipush 216, 3) := by decide +kernel
theorem dI9_57 : decode bI9 57 = .ok (.newarray .int, 2) := by decide +kernel
theorem dI9_59 : decode bI9 59 = .ok (.putfield 30, 3) := by decide +kernel
theorem dI9_62 : decode bI9 62 = .ok (.aload_n 0, 1) := by decide +kernel
theorem dI9_63 : decode bI9 63 = .ok (.sipush 475, 3) := by decide +kernel
theorem dI9_66 : decode bI9 66 = .ok (.newarray .int, 2) := by decide +kernel
theorem dI9_68 : decode bI9 68 = .ok (.putfield 33, 3) := by decide +kernel
theorem dI9_71 : decode bI9 71 = .ok (.aload_n 0, 1) := by decide +kernel
theorem dI9_72 : decode bI9 72 = .ok (.aload_n 1, 1) := by decide +kernel
theorem dI9_73 : decode bI9 73 = .ok (.putfield 36, 3) := by decide +kernel
theorem dI9_76 : decode bI9 76 = .ok (.return_, 1) := by decide +kernel
abbrev pI9 (h0 a1 : Nat) : va_W := [(h0, .inr (9, [.null, .int 0, .int 0, .null, .null, .null, .null, .null, .null, .null, .int 0, .null, .int 0, .int 0]))]
abbrev oI9 (dA : Nat → ClassId) (h0 a1 : Nat) (u : Nat → Nat) : va_W := [(h0, .inr (9, [.ref a1, .int 0, .int 0, .ref (u 0), .ref (u 1), .ref (u 2), .ref (u 3), .ref (u 4), .ref (u 5), .ref (u 6), .int 0, .ref (u 7), .int 0, .int 0])), ((u 0), aI dA 24), ((u 1), aI dA 24), ((u 2), aI dA 24), ((u 3), aI dA 144), ((u 4), aI dA 24), ((u 5), aI dA 24), ((u 6), aI dA 216), ((u 7), aI dA 475)]
set_option maxHeartbeats 4000000 in
set_option maxRecDepth 100000 in
theorem cI9 (l : Launch) (D : va_G) (dA : Nat → ClassId) (h0 a1 sz : Nat) : Met l yI9 (Cond.code yI9 bI9 2 none :: x_Ts) ({ frames := 1, cells := 8, slots := 955, locals := 12 }) (va_Pc [.ref h0, .ref a1] (fun U => U.heap.size = sz ∧ va_P D vwCl (pI9 h0 a1) U.heap ∧ va_K D vwCl (x_tys dA) U ∧ va_D (fun _ => True) (pI9 h0 a1))) (va_Qv (fun _ : Nat → Nat => True) (fun u t => va_P D vwCl (oI9 dA h0 a1 u) t.heap ∧ va_K D vwCl (x_tys dA) t ∧ va_D (va_A (pI9 h0 a1) sz) (oI9 dA h0 a1 u)) (va_A (pI9 h0 a1) sz)) 8 955 (va_A (pI9 h0 a1) sz) := by
  refine Met.ofW (cc := bI9) (maxL := 2) (ret := none) (by decide +kernel) rfl ?_
  intro p e s m args below meth c s₁ B hml hv
  obtain ⟨rfl, hsz, hP, hK, hD0⟩ := hv
  have hx := B.exec
  have hb := B.bytes
  have hr := B.returns
  have hts0 := atoms_spec (ws := Cond.code yI9 bI9 2 none :: x_Ts) B.pre
  have hts : ∀ w ∈ x_Ts, w.before _ s = true := fun w h => hts0 w (List.mem_cons_of_mem _ h)
  have hown : s.vm.findClass RX9 = some m.cls := findClass_of_methodNamed B.named
  have hlocks := B.notSynchronized
  have hin : meth.name = "<init>" := (name_of_methodNamed B.named B.method).1
  subst hsz
  have hD := hD0.self (sz := s.heap.size)
  generalize hAe : va_A (pI9 h0 a1) s.heap.size = A at hD ⊢
  have hA : ∀ q : Nat, s.heap.size ≤ q → A q := fun q h => by rw [← hAe]; exact Or.inr h
  have hS : va_S A s.heap s.heap [] := va_S.rf
  have hl := lv_entry ([.ref h0, .ref a1]) (n := 2) (Nat.le_of_ble_eq_true rfl)
  rw [lg_entry_eq]
  generalize (lg_sl ([.ref h0, .ref a1]) ++ List.replicate (2 - (lg_sl ([.ref h0, .ref a1])).length) Slot.unset).toArray = ls at hl ⊢
  have hl : lv_has ls 2 [(0, .ref h0), (1, .ref a1)] := hl
  refine lv_aload_n hx hb dI9_0 rfl (lv_at hl 0 rfl) ?_
  refine W.objInit hx hb hown (hts _ wd_102) (hts _ wd_23) (hts _ wd_24) rfl (by rw [hml]; exact hl.1) rfl dI9_1 (Nat.le_of_ble_eq_true rfl) (Nat.le_of_ble_eq_true rfl) ?_
  refine W.eq (g2 := F0 m 4 ls []) rfl ?_
  refine lv_aload_n hx hb dI9_4 rfl (lv_at hl 0 rfl) ?_
  refine lv_bipush (v := 24) hx hb dI9_5 (by decide) ?_
  refine nw_i hx hb (hts _ wd_44) hK hP hD hS hA 24 (by decide) (by decide) (by decide) (Nat.le_of_ble_eq_true rfl) (Nat.le_of_ble_eq_true rfl) dI9_7 (fun q1 H hP hD hS => ?_)
  have hP : va_P D vwCl [(h0, .inr (9, [.null, .int 0, .int 0, .null, .null, .null, .null, .null, .null, .null, .int 0, .null, .int 0, .int 0])), (q1, aI dA 24)] H := hP
  have hD : va_D A [(h0, .inr (9, [.null, .int 0, .int 0, .null, .null, .null, .null, .null, .null, .null, .int 0, .null, .int 0, .int 0])), (q1, aI dA 24)] := hD
  refine W.widen (k := 1) (n := 24) (by decide) (by decide) ?_
  refine va_putF (D := D) (ci := 9) (v := .ref q1) (ty := .array .int) (C := RX9) (T := TX9) (N := 14) hx hb hts (x_cl_words 9 _ rfl).1 tyX9 tyX9_ok nmX9 hown hK hP hD hS 0 rfl rfl 3 (by decide) (hts _ wd_107) (fun _ h9 => h9) rfl hin rfl (by decide +kernel) rfl rfl (Nat.le_of_ble_eq_true rfl) dI9_9 (fun H locs hP hD hS => ?_)
  have hP : va_P D vwCl [(h0, .inr (9, [.null, .int 0, .int 0, .ref q1, .null, .null, .null, .null, .null, .null, .int 0, .null, .int 0, .int 0])), (q1, aI dA 24)] H := hP
  have hD : va_D A [(h0, .inr (9, [.null, .int 0, .int 0, .ref q1, .null, .null, .null, .null, .null, .null, .int 0, .null, .int 0, .int 0])), (q1, aI dA 24)] := hD
  refine lv_aload_n hx hb dI9_12 rfl (lv_at hl 0 rfl) ?_
  refine lv_bipush (v := 24) hx hb dI9_13 (by decide) ?_
  refine nw_i hx hb (hts _ wd_44) hK hP hD hS hA 24 (by decide) (by decide) (by decide) (Nat.le_of_ble_eq_true rfl) (Nat.le_of_ble_eq_true rfl) dI9_15 (fun q2 H hP hD hS => ?_)
  have hP : va_P D vwCl [(h0, .inr (9, [.null, .int 0, .int 0, .ref q1, .null, .null, .null, .null, .null, .null, .int 0, .null, .int 0, .int 0])), (q1, aI dA 24), (q2, aI dA 24)] H := hP
  have hD : va_D A [(h0, .inr (9, [.null, .int 0, .int 0, .ref q1, .null, .null, .null, .null, .null, .null, .int 0, .null, .int 0, .int 0])), (q1, aI dA 24), (q2, aI dA 24)] := hD
  refine W.widen (k := 2) (n := 48) (by decide) (by decide) ?_
  refine va_putF (D := D) (ci := 9) (v := .ref q2) (ty := .array .int) (C := RX9) (T := TX9) (N := 14) hx hb hts (x_cl_words 9 _ rfl).1 tyX9 tyX9_ok nmX9 hown hK hP hD hS 0 rfl rfl 4 (by decide) (hts _ wd_109) (fun _ h9 => h9) rfl hin rfl (by decide +kernel) rfl rfl (Nat.le_of_ble_eq_true rfl) dI9_17 (fun H locs hP hD hS => ?_)
  have hP : va_P D vwCl [(h0, .inr (9, [.null, .int 0, .int 0, .ref q1, .ref q2, .null, .null, .null, .null, .null, .int 0, .null, .int 0, .int 0])), (q1, aI dA 24), (q2, aI dA 24)] H := hP
  have hD : va_D A [(h0, .inr (9, [.null, .int 0, .int 0, .ref q1, .ref q2, .null, .null, .null, .null, .null, .int 0, .null, .int 0, .int 0])), (q1, aI dA 24), (q2, aI dA 24)] := hD
  refine lv_aload_n hx hb dI9_20 rfl (lv_at hl 0 rfl) ?_
  refine lv_bipush (v := 24) hx hb dI9_21 (by decide) ?_
  refine nw_i hx hb (hts _ wd_44) hK hP hD hS hA 24 (by decide) (by decide) (by decide) (Nat.le_of_ble_eq_true rfl) (Nat.le_of_ble_eq_true rfl) dI9_23 (fun q3 H hP hD hS => ?_)
  have hP : va_P D vwCl [(h0, .inr (9, [.null, .int 0, .int 0, .ref q1, .ref q2, .null, .null, .null, .null, .null, .int 0, .null, .int 0, .int 0])), (q1, aI dA 24), (q2, aI dA 24), (q3, aI dA 24)] H := hP
  have hD : va_D A [(h0, .inr (9, [.null, .int 0, .int 0, .ref q1, .ref q2, .null, .null, .null, .null, .null, .int 0, .null, .int 0, .int 0])), (q1, aI dA 24), (q2, aI dA 24), (q3, aI dA 24)] := hD
  refine W.widen (k := 3) (n := 72) (by decide) (by decide) ?_
  refine va_putF (D := D) (ci := 9) (v := .ref q3) (ty := .array .int) (C := RX9) (T := TX9) (N := 14) hx hb hts (x_cl_words 9 _ rfl).1 tyX9 tyX9_ok nmX9 hown hK hP hD hS 0 rfl rfl 5 (by decide) (hts _ wd_111) (fun _ h9 => h9) rfl hin rfl (by decide +kernel) rfl rfl (Nat.le_of_ble_eq_true rfl) dI9_25 (fun H locs hP hD hS => ?_)
  have hP : va_P D vwCl [(h0, .inr (9, [.null, .int 0, .int 0, .ref q1, .ref q2, .ref q3, .null, .null, .null, .null, .int 0, .null, .int 0, .int 0])), (q1, aI dA 24), (q2, aI dA 24), (q3, aI dA 24)] H := hP
  have hD : va_D A [(h0, .inr (9, [.null, .int 0, .int 0, .ref q1, .ref q2, .ref q3, .null, .null, .null, .null, .int 0, .null, .int 0, .int 0])), (q1, aI dA 24), (q2, aI dA 24), (q3, aI dA 24)] := hD
  refine lv_aload_n hx hb dI9_28 rfl (lv_at hl 0 rfl) ?_
  refine lv_sipush (v := 144) hx hb dI9_29 (by decide) ?_
  refine nw_i hx hb (hts _ wd_44) hK hP hD hS hA 144 (by decide) (by decide) (by decide) (Nat.le_of_ble_eq_true rfl) (Nat.le_of_ble_eq_true rfl) dI9_32 (fun q4 H hP hD hS => ?_)
  have hP : va_P D vwCl [(h0, .inr (9, [.null, .int 0, .int 0, .ref q1, .ref q2, .ref q3, .null, .null, .null, .null, .int 0, .null, .int 0, .int 0])), (q1, aI dA 24), (q2, aI dA 24), (q3, aI dA 24), (q4, aI dA 144)] H := hP
  have hD : va_D A [(h0, .inr (9, [.null, .int 0, .int 0, .ref q1, .ref q2, .ref q3, .null, .null, .null, .null, .int 0, .null, .int 0, .int 0])), (q1, aI dA 24), (q2, aI dA 24), (q3, aI dA 24), (q4, aI dA 144)] := hD
  refine W.widen (k := 4) (n := 216) (by decide) (by decide) ?_
  refine va_putF (D := D) (ci := 9) (v := .ref q4) (ty := .array .int) (C := RX9) (T := TX9) (N := 14) hx hb hts (x_cl_words 9 _ rfl).1 tyX9 tyX9_ok nmX9 hown hK hP hD hS 0 rfl rfl 6 (by decide) (hts _ wd_112) (fun _ h9 => h9) rfl hin rfl (by decide +kernel) rfl rfl (Nat.le_of_ble_eq_true rfl) dI9_34 (fun H locs hP hD hS => ?_)
  have hP : va_P D vwCl [(h0, .inr (9, [.null, .int 0, .int 0, .ref q1, .ref q2, .ref q3, .ref q4, .null, .null, .null, .int 0, .null, .int 0, .int 0])), (q1, aI dA 24), (q2, aI dA 24), (q3, aI dA 24), (q4, aI dA 144)] H := hP
  have hD : va_D A [(h0, .inr (9, [.null, .int 0, .int 0, .ref q1, .ref q2, .ref q3, .ref q4, .null, .null, .null, .int 0, .null, .int 0, .int 0])), (q1, aI dA 24), (q2, aI dA 24), (q3, aI dA 24), (q4, aI dA 144)] := hD
  refine lv_aload_n hx hb dI9_37 rfl (lv_at hl 0 rfl) ?_
  refine lv_bipush (v := 24) hx hb dI9_38 (by decide) ?_
  refine nw_i hx hb (hts _ wd_44) hK hP hD hS hA 24 (by decide) (by decide) (by decide) (Nat.le_of_ble_eq_true rfl) (Nat.le_of_ble_eq_true rfl) dI9_40 (fun q5 H hP hD hS => ?_)
  have hP : va_P D vwCl [(h0, .inr (9, [.null, .int 0, .int 0, .ref q1, .ref q2, .ref q3, .ref q4, .null, .null, .null, .int 0, .null, .int 0, .int 0])), (q1, aI dA 24), (q2, aI dA 24), (q3, aI dA 24), (q4, aI dA 144), (q5, aI dA 24)] H := hP
  have hD : va_D A [(h0, .inr (9, [.null, .int 0, .int 0, .ref q1, .ref q2, .ref q3, .ref q4, .null, .null, .null, .int 0, .null, .int 0, .int 0])), (q1, aI dA 24), (q2, aI dA 24), (q3, aI dA 24), (q4, aI dA 144), (q5, aI dA 24)] := hD
  refine W.widen (k := 5) (n := 240) (by decide) (by decide) ?_
  refine va_putF (D := D) (ci := 9) (v := .ref q5) (ty := .array .int) (C := RX9) (T := TX9) (N := 14) hx hb hts (x_cl_words 9 _ rfl).1 tyX9 tyX9_ok nmX9 hown hK hP hD hS 0 rfl rfl 7 (by decide) (hts _ wd_113) (fun _ h9 => h9) rfl hin rfl (by decide +kernel) rfl rfl (Nat.le_of_ble_eq_true rfl) dI9_42 (fun H locs hP hD hS => ?_)
  have hP : va_P D vwCl [(h0, .inr (9, [.null, .int 0, .int 0, .ref q1, .ref q2, .ref q3, .ref q4, .ref q5, .null, .null, .int 0, .null, .int 0, .int 0])), (q1, aI dA 24), (q2, aI dA 24), (q3, aI dA 24), (q4, aI dA 144), (q5, aI dA 24)] H := hP
  have hD : va_D A [(h0, .inr (9, [.null, .int 0, .int 0, .ref q1, .ref q2, .ref q3, .ref q4, .ref q5, .null, .null, .int 0, .null, .int 0, .int 0])), (q1, aI dA 24), (q2, aI dA 24), (q3, aI dA 24), (q4, aI dA 144), (q5, aI dA 24)] := hD
  refine lv_aload_n hx hb dI9_45 rfl (lv_at hl 0 rfl) ?_
  refine lv_bipush (v := 24) hx hb dI9_46 (by decide) ?_
  refine nw_i hx hb (hts _ wd_44) hK hP hD hS hA 24 (by decide) (by decide) (by decide) (Nat.le_of_ble_eq_true rfl) (Nat.le_of_ble_eq_true rfl) dI9_48 (fun q6 H hP hD hS => ?_)
  have hP : va_P D vwCl [(h0, .inr (9, [.null, .int 0, .int 0, .ref q1, .ref q2, .ref q3, .ref q4, .ref q5, .null, .null, .int 0, .null, .int 0, .int 0])), (q1, aI dA 24), (q2, aI dA 24), (q3, aI dA 24), (q4, aI dA 144), (q5, aI dA 24), (q6, aI dA 24)] H := hP
  have hD : va_D A [(h0, .inr (9, [.null, .int 0, .int 0, .ref q1, .ref q2, .ref q3, .ref q4, .ref q5, .null, .null, .int 0, .null, .int 0, .int 0])), (q1, aI dA 24), (q2, aI dA 24), (q3, aI dA 24), (q4, aI dA 144), (q5, aI dA 24), (q6, aI dA 24)] := hD
  refine W.widen (k := 6) (n := 264) (by decide) (by decide) ?_
  refine va_putF (D := D) (ci := 9) (v := .ref q6) (ty := .array .int) (C := RX9) (T := TX9) (N := 14) hx hb hts (x_cl_words 9 _ rfl).1 tyX9 tyX9_ok nmX9 hown hK hP hD hS 0 rfl rfl 8 (by decide) (hts _ wd_115) (fun _ h9 => h9) rfl hin rfl (by decide +kernel) rfl rfl (Nat.le_of_ble_eq_true rfl) dI9_50 (fun H locs hP hD hS => ?_)
  have hP : va_P D vwCl [(h0, .inr (9, [.null, .int 0, .int 0, .ref q1, .ref q2, .ref q3, .ref q4, .ref q5, .ref q6, .null, .int 0, .null, .int 0, .int 0])), (q1, aI dA 24), (q2, aI dA 24), (q3, aI dA 24), (q4, aI dA 144), (q5, aI dA 24), (q6, aI dA 24)] H := hP
  have hD : va_D A [(h0, .inr (9, [.null, .int 0, .int 0, .ref q1, .ref q2, .ref q3, .ref q4, .ref q5, .ref q6, .null, .int 0, .null, .int 0, .int 0])), (q1, aI dA 24), (q2, aI dA 24), (q3, aI dA 24), (q4, aI dA 144), (q5, aI dA 24), (q6, aI dA 24)] := hD
  refine lv_aload_n hx hb dI9_53 rfl (lv_at hl 0 rfl) ?_
  refine lv_sipush (v := 216) hx hb dI9_54 (by decide) ?_
  refine nw_i hx hb (hts _ wd_44) hK hP hD hS hA 216 (by decide) (by decide) (by decide) (Nat.le_of_ble_eq_true rfl) (Nat.le_of_ble_eq_true rfl) dI9_57 (fun q7 H hP hD hS => ?_)
  have hP : va_P D vwCl [(h0, .inr (9, [.null, .int 0, .int 0, .ref q1, .ref q2, .ref q3, .ref q4, .ref q5, .ref q6, .null, .int 0, .null, .int 0, .int 0])), (q1, aI dA 24), (q2, aI dA 24), (q3, aI dA 24), (q4, aI dA 144), (q5, aI dA 24), (q6, aI dA 24), (q7, aI dA 216)] H := hP
  have hD : va_D A [(h0, .inr (9, [.null, .int 0, .int 0, .ref q1, .ref q2, .ref q3, .ref q4, .ref q5, .ref q6, .null, .int 0, .null, .int 0, .int 0])), (q1, aI dA 24), (q2, aI dA 24), (q3, aI dA 24), (q4, aI dA 144), (q5, aI dA 24), (q6, aI dA 24), (q7, aI dA 216)] := hD
  refine W.widen (k := 7) (n := 480) (by decide) (by decide) ?_
  refine va_putF (D := D) (ci := 9) (v := .ref q7) (ty := .array .int) (C := RX9) (T := TX9) (N := 14) hx hb hts (x_cl_words 9 _ rfl).1 tyX9 tyX9_ok nmX9 hown hK hP hD hS 0 rfl rfl 9 (by decide) (hts _ wd_117) (fun _ h9 => h9) rfl hin rfl (by decide +kernel) rfl rfl (Nat.le_of_ble_eq_true rfl) dI9_59 (fun H locs hP hD hS => ?_)
  have hP : va_P D vwCl [(h0, .inr (9, [.null, .int 0, .int 0, .ref q1, .ref q2, .ref q3, .ref q4, .ref q5, .ref q6, .ref q7, .int 0, .null, .int 0, .int 0])), (q1, aI dA 24), (q2, aI dA 24), (q3, aI dA 24), (q4, aI dA 144), (q5, aI dA 24), (q6, aI dA 24), (q7, aI dA 216)] H := hP
  have hD : va_D A [(h0, .inr (9, [.null, .int 0, .int 0, .ref q1, .ref q2, .ref q3, .ref q4, .ref q5, .ref q6, .ref q7, .int 0, .null, .int 0, .int 0])), (q1, aI dA 24), (q2, aI dA 24), (q3, aI dA 24), (q4, aI dA 144), (q5, aI dA 24), (q6, aI dA 24), (q7, aI dA 216)] := hD
  refine lv_aload_n hx hb dI9_62 rfl (lv_at hl 0 rfl) ?_
  refine lv_sipush (v := 475) hx hb dI9_63 (by decide) ?_
  refine nw_i hx hb (hts _ wd_44) hK hP hD hS hA 475 (by decide) (by decide) (by decide) (Nat.le_of_ble_eq_true rfl) (Nat.le_of_ble_eq_true rfl) dI9_66 (fun q8 H hP hD hS => ?_)
  have hP : va_P D vwCl [(h0, .inr (9, [.null, .int 0, .int 0, .ref q1, .ref q2, .ref q3, .ref q4, .ref q5, .ref q6, .ref q7, .int 0, .null, .int 0, .int 0])), (q1, aI dA 24), (q2, aI dA 24), (q3, aI dA 24), (q4, aI dA 144), (q5, aI dA 24), (q6, aI dA 24), (q7, aI dA 216), (q8, aI dA 475)] H := hP
  have hD : va_D A [(h0, .inr (9, [.null, .int 0, .int 0, .ref q1, .ref q2, .ref q3, .ref q4, .ref q5, .ref q6, .ref q7, .int 0, .null, .int 0, .int 0])), (q1, aI dA 24), (q2, aI dA 24), (q3, aI dA 24), (q4, aI dA 144), (q5, aI dA 24), (q6, aI dA 24), (q7, aI dA 216), (q8, aI dA 475)] := hD
  refine W.widen (k := 8) (n := 955) (by decide) (by decide) ?_
  refine va_putF (D := D) (ci := 9) (v := .ref q8) (ty := .array .int) (C := RX9) (T := TX9) (N := 14) hx hb hts (x_cl_words 9 _ rfl).1 tyX9 tyX9_ok nmX9 hown hK hP hD hS 0 rfl rfl 11 (by decide) (hts _ wd_120) (fun _ h9 => h9) rfl hin rfl (by decide +kernel) rfl rfl (Nat.le_of_ble_eq_true rfl) dI9_68 (fun H locs hP hD hS => ?_)
  have hP : va_P D vwCl [(h0, .inr (9, [.null, .int 0, .int 0, .ref q1, .ref q2, .ref q3, .ref q4, .ref q5, .ref q6, .ref q7, .int 0, .ref q8, .int 0, .int 0])), (q1, aI dA 24), (q2, aI dA 24), (q3, aI dA 24), (q4, aI dA 144), (q5, aI dA 24), (q6, aI dA 24), (q7, aI dA 216), (q8, aI dA 475)] H := hP
  have hD : va_D A [(h0, .inr (9, [.null, .int 0, .int 0, .ref q1, .ref q2, .ref q3, .ref q4, .ref q5, .ref q6, .ref q7, .int 0, .ref q8, .int 0, .int 0])), (q1, aI dA 24), (q2, aI dA 24), (q3, aI dA 24), (q4, aI dA 144), (q5, aI dA 24), (q6, aI dA 24), (q7, aI dA 216), (q8, aI dA 475)] := hD
  refine lv_aload_n hx hb dI9_71 rfl (lv_at hl 0 rfl) ?_
  refine lv_aload_n hx hb dI9_72 rfl (lv_at hl 1 rfl) ?_
  refine va_putF (D := D) (ci := 9) (v := .ref a1) (ty := .object "CueBoard$Findings") (C := RX9) (T := TX9) (N := 14) hx hb hts (x_cl_words 9 _ rfl).1 tyX9 tyX9_ok nmX9 hown hK hP hD hS 0 rfl rfl 0 (by decide) (hts _ wd_103) (fun _ h9 => h9) rfl hin rfl (by decide +kernel) rfl rfl (Nat.le_of_ble_eq_true rfl) dI9_73 (fun H locs hP hD hS => ?_)
  have hP : va_P D vwCl [(h0, .inr (9, [.ref a1, .int 0, .int 0, .ref q1, .ref q2, .ref q3, .ref q4, .ref q5, .ref q6, .ref q7, .int 0, .ref q8, .int 0, .int 0])), (q1, aI dA 24), (q2, aI dA 24), (q3, aI dA 24), (q4, aI dA 144), (q5, aI dA 24), (q6, aI dA 24), (q7, aI dA 216), (q8, aI dA 475)] H := hP
  have hD : va_D A [(h0, .inr (9, [.ref a1, .int 0, .int 0, .ref q1, .ref q2, .ref q3, .ref q4, .ref q5, .ref q6, .ref q7, .int 0, .ref q8, .int 0, .int 0])), (q1, aI dA 24), (q2, aI dA 24), (q3, aI dA 24), (q4, aI dA 144), (q5, aI dA 24), (q6, aI dA 24), (q7, aI dA 216), (q8, aI dA 475)] := hD
  exact W.vret hx hb hr (fun t ht hW => ⟨⟨fun k => ([q1, q2, q3, q4, q5, q6, q7, q8] : List Nat).getD k 0, rfl, trivial, by rw [ht]; exact hP, va_K.moved hW.alike hK, hD⟩, hS.F ht⟩) hS.2.2 dI9_76
theorem dI7_0 : decode bI7 0 = .ok (.aload_n 0, 1) := by decide +kernel
theorem dI7_1 : decode bI7 1 = .ok (.invokespecial 3, 3) := by decide +kernel
theorem dI7_4 : decode bI7 4 = .ok (.aload_n 0, 1) := by decide +kernel
theorem dI7_5 : decode bI7 5 = .ok (.bipush 24, 2) := by decide +kernel
theorem dI7_7 : decode bI7 7 = .ok (.newarray .int, 2) := by decide +kernel
theorem dI7_9 : decode bI7 9 = .ok (.putfield 9, 3) := by decide +kernel
theorem dI7_12 : decode bI7 12 = .ok (.aload_n 0, 1) := by decide +kernel
theorem dI7_13 : decode bI7 13 = .ok (.bipush 24, 2) := by decide +kernel
theorem dI7_15 : decode bI7 15 = .ok (.newarray .int, 2) := by decide +kernel
theorem dI7_17 : decode bI7 17 = .ok (.putfield 15, 3) := by decide +kernel
theorem dI7_20 : decode bI7 20 = .ok (.aload_n 0, 1) := by decide +kernel
theorem dI7_21 : decode bI7 21 = .ok (.bipush 24, 2) := by decide +kernel
theorem dI7_23 : decode bI7 23 = .ok (.newarray .boolean, 2) := by decide +kernel
theorem dI7_25 : decode bI7 25 = .ok (.putfield 18, 3) := by decide +kernel
theorem dI7_28 : decode bI7 28 = .ok (.aload_n 0, 1) := by decide +kernel
theorem dI7_29 : decode bI7 29 = .ok (.bipush 24, 2) := by decide +kernel
theorem dI7_31 : decode bI7 31 = .ok (.newarray .int, 2) := by decide +kernel
theorem dI7_33 : decode bI7 33 = .ok (.putfield 22, 3) := by decide +kernel
theorem dI7_36 : decode bI7 36 = .ok (.aload_n 0, 1) := by decide +kernel
theorem dI7_37 : decode bI7 37 = .ok (.aload_n 1, 1) := by decide +kernel
theorem dI7_38 : decode bI7 38 = .ok (.putfield 25, 3) := by decide +kernel
theorem dI7_41 : decode bI7 41 = .ok (.aload_n 0, 1) := by decide +kernel
theorem dI7_42 : decode bI7 42 = .ok (.aload_n 2, 1) := by decide +kernel
theorem dI7_43 : decode bI7 43 = .ok (.putfield 29, 3) := by decide +kernel
theorem dI7_46 : decode bI7 46 = .ok (.return_, 1) := by decide +kernel
abbrev pI7 (h0 a1 a2 : Nat) : va_W := [(h0, .inr (7, [.null, .null, .null, .null, .null, .null, .int 0]))]
abbrev oI7 (dA : Nat → ClassId) (h0 a1 a2 : Nat) (u : Nat → Nat) : va_W := [(h0, .inr (7, [.ref a1, .ref a2, .ref (u 0), .ref (u 1), .ref (u 2), .ref (u 3), .int 0])), ((u 0), aI dA 24), ((u 1), aI dA 24), ((u 2), aZ dA 24), ((u 3), aI dA 24)]
set_option maxHeartbeats 4000000 in
set_option maxRecDepth 100000 in
theorem cI7 (l : Launch) (D : va_G) (dA : Nat → ClassId) (h0 a1 a2 sz : Nat) : Met l yI7 (Cond.code yI7 bI7 3 none :: x_Ts) ({ frames := 1, cells := 4, slots := 96, locals := 12 }) (va_Pc [.ref h0, .ref a1, .ref a2] (fun U => U.heap.size = sz ∧ va_P D vwCl (pI7 h0 a1 a2) U.heap ∧ va_K D vwCl (x_tys dA) U ∧ va_D (fun _ => True) (pI7 h0 a1 a2))) (va_Qv (fun _ : Nat → Nat => True) (fun u t => va_P D vwCl (oI7 dA h0 a1 a2 u) t.heap ∧ va_K D vwCl (x_tys dA) t ∧ va_D (va_A (pI7 h0 a1 a2) sz) (oI7 dA h0 a1 a2 u)) (va_A (pI7 h0 a1 a2) sz)) 4 96 (va_A (pI7 h0 a1 a2) sz) := by
  refine Met.ofW (cc := bI7) (maxL := 3) (ret := none) (by decide +kernel) rfl ?_
  intro p e s m args below meth c s₁ B hml hv
  obtain ⟨rfl, hsz, hP, hK, hD0⟩ := hv
  have hx := B.exec
  have hb := B.bytes
  have hr := B.returns
  have hts0 := atoms_spec (ws := Cond.code yI7 bI7 3 none :: x_Ts) B.pre
  have hts : ∀ w ∈ x_Ts, w.before _ s = true := fun w h => hts0 w (List.mem_cons_of_mem _ h)
  have hown : s.vm.findClass RX7 = some m.cls := findClass_of_methodNamed B.named
  have hlocks := B.notSynchronized
  have hin : meth.name = "<init>" := (name_of_methodNamed B.named B.method).1
  subst hsz
  have hD := hD0.self (sz := s.heap.size)
  generalize hAe : va_A (pI7 h0 a1 a2) s.heap.size = A at hD ⊢
  have hA : ∀ q : Nat, s.heap.size ≤ q → A q := fun q h => by rw [← hAe]; exact Or.inr h
  have hS : va_S A s.heap s.heap [] := va_S.rf
  have hl := lv_entry ([.ref h0, .ref a1, .ref a2]) (n := 3) (Nat.le_of_ble_eq_true rfl)
  rw [lg_entry_eq]
  generalize (lg_sl ([.ref h0, .ref a1, .ref a2]) ++ List.replicate (3 - (lg_sl ([.ref h0, .ref a1, .ref a2])).length) Slot.unset).toArray = ls at hl ⊢
  have hl : lv_has ls 3 [(0, .ref h0), (1, .ref a1), (2, .ref a2)] := hl
  refine lv_aload_n hx hb dI7_0 rfl (lv_at hl 0 rfl) ?_
  refine W.objInit hx hb hown (hts _ wd_157) (hts _ wd_23) (hts _ wd_24) rfl (by rw [hml]; exact hl.1) rfl dI7_1 (Nat.le_of_ble_eq_true rfl) (Nat.le_of_ble_eq_true rfl) ?_
  refine W.eq (g2 := F0 m 4 ls []) rfl ?_
  refine lv_aload_n hx hb dI7_4 rfl (lv_at hl 0 rfl) ?_
  refine lv_bipush (v := 24) hx hb dI7_5 (by decide) ?_
  refine nw_i hx hb (hts _ wd_44) hK hP hD hS hA 24 (by decide) (by decide) (by decide) (Nat.le_of_ble_eq_true rfl) (Nat.le_of_ble_eq_true rfl) dI7_7 (fun q1 H hP hD hS => ?_)
  have hP : va_P D vwCl [(h0, .inr (7, [.null, .null, .null, .null, .null, .null, .int 0])), (q1, aI dA 24)] H := hP
  have hD : va_D A [(h0, .inr (7, [.null, .null, .null, .null, .null, .null, .int 0])), (q1, aI dA 24)] := hD
  refine W.widen (k := 1) (n := 24) (by decide) (by decide) ?_
  refine va_putF (D := D) (ci := 7) (v := .ref q1) (ty := .array .int) (C := RX7) (T := TX7) (N := 7) hx hb hts (x_cl_words 7 _ rfl).1 tyX7 tyX7_ok nmX7 hown hK hP hD hS 0 rfl rfl 2 (by decide) (hts _ wd_161) (fun _ h9 => h9) rfl hin rfl (by decide +kernel) rfl rfl (Nat.le_of_ble_eq_true rfl) dI7_9 (fun H locs hP hD hS => ?_)
  have hP : va_P D vwCl [(h0, .inr (7, [.null, .null, .ref q1, .null, .null, .null, .int 0])), (q1, aI dA 24)] H := hP
  have hD : va_D A [(h0, .inr (7, [.null, .null, .ref q1, .null, .null, .null, .int 0])), (q1, aI dA 24)] := hD
  refine lv_aload_n hx hb dI7_12 rfl (lv_at hl 0 rfl) ?_
  refine lv_bipush (v := 24) hx hb dI7_13 (by decide) ?_
  refine nw_i hx hb (hts _ wd_44) hK hP hD hS hA 24 (by decide) (by decide) (by decide) (Nat.le_of_ble_eq_true rfl) (Nat.le_of_ble_eq_true rfl) dI7_15 (fun q2 H hP hD hS => ?_)
  have hP : va_P D vwCl [(h0, .inr (7, [.null, .null, .ref q1, .null, .null, .null, .int 0])), (q1, aI dA 24), (q2, aI dA 24)] H := hP
  have hD : va_D A [(h0, .inr (7, [.null, .null, .ref q1, .null, .null, .null, .int 0])), (q1, aI dA 24), (q2, aI dA 24)] := hD
  refine W.widen (k := 2) (n := 48) (by decide) (by decide) ?_
  refine va_putF (D := D) (ci := 7) (v := .ref q2) (ty := .array .int) (C := RX7) (T := TX7) (N := 7) hx hb hts (x_cl_words 7 _ rfl).1 tyX7 tyX7_ok nmX7 hown hK hP hD hS 0 rfl rfl 3 (by decide) (hts _ wd_164) (fun _ h9 => h9) rfl hin rfl (by decide +kernel) rfl rfl (Nat.le_of_ble_eq_true rfl) dI7_17 (fun H locs hP hD hS => ?_)
  have hP : va_P D vwCl [(h0, .inr (7, [.null, .null, .ref q1, .ref q2, .null, .null, .int 0])), (q1, aI dA 24), (q2, aI dA 24)] H := hP
  have hD : va_D A [(h0, .inr (7, [.null, .null, .ref q1, .ref q2, .null, .null, .int 0])), (q1, aI dA 24), (q2, aI dA 24)] := hD
  refine lv_aload_n hx hb dI7_20 rfl (lv_at hl 0 rfl) ?_
  refine lv_bipush (v := 24) hx hb dI7_21 (by decide) ?_
  refine nw_z hx hb (hts _ wd_96) hK hP hD hS hA 24 (by decide) (by decide) (by decide) (Nat.le_of_ble_eq_true rfl) (Nat.le_of_ble_eq_true rfl) dI7_23 (fun q3 H hP hD hS => ?_)
  have hP : va_P D vwCl [(h0, .inr (7, [.null, .null, .ref q1, .ref q2, .null, .null, .int 0])), (q1, aI dA 24), (q2, aI dA 24), (q3, aZ dA 24)] H := hP
  have hD : va_D A [(h0, .inr (7, [.null, .null, .ref q1, .ref q2, .null, .null, .int 0])), (q1, aI dA 24), (q2, aI dA 24), (q3, aZ dA 24)] := hD
  refine W.widen (k := 3) (n := 72) (by decide) (by decide) ?_
  refine va_putF (D := D) (ci := 7) (v := .ref q3) (ty := .array .boolean) (C := RX7) (T := TX7) (N := 7) hx hb hts (x_cl_words 7 _ rfl).1 tyX7 tyX7_ok nmX7 hown hK hP hD hS 0 rfl rfl 4 (by decide) (hts _ wd_167) (fun _ h9 => h9) rfl hin rfl (by decide +kernel) rfl rfl (Nat.le_of_ble_eq_true rfl) dI7_25 (fun H locs hP hD hS => ?_)
  have hP : va_P D vwCl [(h0, .inr (7, [.null, .null, .ref q1, .ref q2, .ref q3, .null, .int 0])), (q1, aI dA 24), (q2, aI dA 24), (q3, aZ dA 24)] H := hP
  have hD : va_D A [(h0, .inr (7, [.null, .null, .ref q1, .ref q2, .ref q3, .null, .int 0])), (q1, aI dA 24), (q2, aI dA 24), (q3, aZ dA 24)] := hD
  refine lv_aload_n hx hb dI7_28 rfl (lv_at hl 0 rfl) ?_
  refine lv_bipush (v := 24) hx hb dI7_29 (by decide) ?_
  refine nw_i hx hb (hts _ wd_44) hK hP hD hS hA 24 (by decide) (by decide) (by decide) (Nat.le_of_ble_eq_true rfl) (Nat.le_of_ble_eq_true rfl) dI7_31 (fun q4 H hP hD hS => ?_)
  have hP : va_P D vwCl [(h0, .inr (7, [.null, .null, .ref q1, .ref q2, .ref q3, .null, .int 0])), (q1, aI dA 24), (q2, aI dA 24), (q3, aZ dA 24), (q4, aI dA 24)] H := hP
  have hD : va_D A [(h0, .inr (7, [.null, .null, .ref q1, .ref q2, .ref q3, .null, .int 0])), (q1, aI dA 24), (q2, aI dA 24), (q3, aZ dA 24), (q4, aI dA 24)] := hD
  refine W.widen (k := 4) (n := 96) (by decide) (by decide) ?_
  refine va_putF (D := D) (ci := 7) (v := .ref q4) (ty := .array .int) (C := RX7) (T := TX7) (N := 7) hx hb hts (x_cl_words 7 _ rfl).1 tyX7 tyX7_ok nmX7 hown hK hP hD hS 0 rfl rfl 5 (by decide) (hts _ wd_170) (fun _ h9 => h9) rfl hin rfl (by decide +kernel) rfl rfl (Nat.le_of_ble_eq_true rfl) dI7_33 (fun H locs hP hD hS => ?_)
  have hP : va_P D vwCl [(h0, .inr (7, [.null, .null, .ref q1, .ref q2, .ref q3, .ref q4, .int 0])), (q1, aI dA 24), (q2, aI dA 24), (q3, aZ dA 24), (q4, aI dA 24)] H := hP
  have hD : va_D A [(h0, .inr (7, [.null, .null, .ref q1, .ref q2, .ref q3, .ref q4, .int 0])), (q1, aI dA 24), (q2, aI dA 24), (q3, aZ dA 24), (q4, aI dA 24)] := hD
  refine lv_aload_n hx hb dI7_36 rfl (lv_at hl 0 rfl) ?_
  refine lv_aload_n hx hb dI7_37 rfl (lv_at hl 1 rfl) ?_
  refine va_putF (D := D) (ci := 7) (v := .ref a1) (ty := .object "CueBoard$Findings") (C := RX7) (T := TX7) (N := 7) hx hb hts (x_cl_words 7 _ rfl).1 tyX7 tyX7_ok nmX7 hown hK hP hD hS 0 rfl rfl 0 (by decide) (hts _ wd_158) (fun _ h9 => h9) rfl hin rfl (by decide +kernel) rfl rfl (Nat.le_of_ble_eq_true rfl) dI7_38 (fun H locs hP hD hS => ?_)
  have hP : va_P D vwCl [(h0, .inr (7, [.ref a1, .null, .ref q1, .ref q2, .ref q3, .ref q4, .int 0])), (q1, aI dA 24), (q2, aI dA 24), (q3, aZ dA 24), (q4, aI dA 24)] H := hP
  have hD : va_D A [(h0, .inr (7, [.ref a1, .null, .ref q1, .ref q2, .ref q3, .ref q4, .int 0])), (q1, aI dA 24), (q2, aI dA 24), (q3, aZ dA 24), (q4, aI dA 24)] := hD
  refine lv_aload_n hx hb dI7_41 rfl (lv_at hl 0 rfl) ?_
  refine lv_aload_n hx hb dI7_42 rfl (lv_at hl 2 rfl) ?_
  refine va_putF (D := D) (ci := 7) (v := .ref a2) (ty := .object "CueBoard$Rig") (C := RX7) (T := TX7) (N := 7) hx hb hts (x_cl_words 7 _ rfl).1 tyX7 tyX7_ok nmX7 hown hK hP hD hS 0 rfl rfl 1 (by decide) (hts _ wd_159) (fun _ h9 => h9) rfl hin rfl (by decide +kernel) rfl rfl (Nat.le_of_ble_eq_true rfl) dI7_43 (fun H locs hP hD hS => ?_)
  have hP : va_P D vwCl [(h0, .inr (7, [.ref a1, .ref a2, .ref q1, .ref q2, .ref q3, .ref q4, .int 0])), (q1, aI dA 24), (q2, aI dA 24), (q3, aZ dA 24), (q4, aI dA 24)] H := hP
  have hD : va_D A [(h0, .inr (7, [.ref a1, .ref a2, .ref q1, .ref q2, .ref q3, .ref q4, .int 0])), (q1, aI dA 24), (q2, aI dA 24), (q3, aZ dA 24), (q4, aI dA 24)] := hD
  exact W.vret hx hb hr (fun t ht hW => ⟨⟨fun k => ([q1, q2, q3, q4] : List Nat).getD k 0, rfl, trivial, by rw [ht]; exact hP, va_K.moved hW.alike hK, hD⟩, hS.F ht⟩) hS.2.2 dI7_46
theorem dI3_0 : decode bI3 0 = .ok (.aload_n 0, 1) := by decide +kernel
theorem dI3_1 : decode bI3 1 = .ok (.invokespecial 3, 3) := by decide +kernel
theorem dI3_4 : decode bI3 4 = .ok (.aload_n 0, 1) := by decide +kernel
theorem dI3_5 : decode bI3 5 = .ok (.iconst 4, 1) := by decide +kernel
theorem dI3_6 : decode bI3 6 = .ok (.newarray .int, 2) := by decide +kernel
theorem dI3_8 : decode bI3 8 = .ok (.putfield 9, 3) := by decide +kernel
theorem dI3_11 : decode bI3 11 = .ok (.aload_n 0, 1) := by decide +kernel
theorem dI3_12 : decode bI3 12 = .ok (.bipush 32, 2) := by decide +kernel
theorem dI3_14 : decode bI3 14 = .ok (.newarray .int, 2) := by decide +kernel
theorem dI3_16 : decode bI3 16 = .ok (.putfield 15, 3) := by decide +kernel
theorem dI3_19 : decode bI3 19 = .ok (.aload_n 0, 1) := by decide +kernel
theorem dI3_20 : decode bI3 20 = .ok (.bipush 32, 2) := by decide +kernel
theorem dI3_22 : decode bI3 22 = .ok (.newarray .int, 2) := by decide +kernel
theorem dI3_24 : decode bI3 24 = .ok (.putfield 18, 3) := by decide +kernel
theorem dI3_27 : decode bI3 27 = .ok (.aload_n 0, 1) := by decide +kernel
theorem dI3_28 : decode bI3 28 = .ok (.bipush 32, 2) := by decide +kernel
theorem dI3_30 : decode bI3 30 = .ok (.newarray .boolean, 2) := by decide +kernel
theorem dI3_32 : decode bI3 32 = .ok (.putfield 21, 3) := by decide +kernel
theorem dI3_35 : decode bI3 35 = .ok (.aload_n 0, 1) := by decide +kernel
theorem dI3_36 : decode bI3 36 = .ok (.bipush 32, 2) := by decide +kernel
theorem dI3_38 : decode bI3 38 = .ok (.newarray .float, 2) := by decide +kernel
theorem dI3_40 : decode bI3 40 = .ok (.putfield 25, 3) := by decide +kernel
theorem dI3_43 : decode bI3 43 = .ok (.return_, 1) := by decide +kernel
abbrev pI3 (h0 : Nat) : va_W := [(h0, .inr (3, [.null, .null, .null, .null, .null, .int 0, .int 0]))]
abbrev oI3 (dA : Nat → ClassId) (h0 : Nat) (u : Nat → Nat) : va_W := [(h0, .inr (3, [.ref (u 0), .ref (u 1), .ref (u 2), .ref (u 3), .ref (u 4), .int 0, .int 0])), ((u 0), aI dA 4), ((u 1), aI dA 32), ((u 2), aI dA 32), ((u 3), aZ dA 32), ((u 4), aF dA 32)]
set_option maxHeartbeats 4000000 in
set_option maxRecDepth 100000 in
theorem cI3 (l : Launch) (D : va_G) (dA : Nat → ClassId) (h0 sz : Nat) : Met l yI3 (Cond.code yI3 bI3 1 none :: x_Ts) ({ frames := 1, cells := 5, slots := 132, locals := 12 }) (va_Pc [.ref h0] (fun U => U.heap.size = sz ∧ va_P D vwCl (pI3 h0) U.heap ∧ va_K D vwCl (x_tys dA) U ∧ va_D (fun _ => True) (pI3 h0))) (va_Qv (fun _ : Nat → Nat => True) (fun u t => va_P D vwCl (oI3 dA h0 u) t.heap ∧ va_K D vwCl (x_tys dA) t ∧ va_D (va_A (pI3 h0) sz) (oI3 dA h0 u)) (va_A (pI3 h0) sz)) 5 132 (va_A (pI3 h0) sz) := by
  refine Met.ofW (cc := bI3) (maxL := 1) (ret := none) (by decide +kernel) rfl ?_
  intro p e s m args below meth c s₁ B hml hv
  obtain ⟨rfl, hsz, hP, hK, hD0⟩ := hv
  have hx := B.exec
  have hb := B.bytes
  have hr := B.returns
  have hts0 := atoms_spec (ws := Cond.code yI3 bI3 1 none :: x_Ts) B.pre
  have hts : ∀ w ∈ x_Ts, w.before _ s = true := fun w h => hts0 w (List.mem_cons_of_mem _ h)
  have hown : s.vm.findClass RX3 = some m.cls := findClass_of_methodNamed B.named
  have hlocks := B.notSynchronized
  have hin : meth.name = "<init>" := (name_of_methodNamed B.named B.method).1
  subst hsz
  have hD := hD0.self (sz := s.heap.size)
  generalize hAe : va_A (pI3 h0) s.heap.size = A at hD ⊢
  have hA : ∀ q : Nat, s.heap.size ≤ q → A q := fun q h => by rw [← hAe]; exact Or.inr h
  have hS : va_S A s.heap s.heap [] := va_S.rf
  have hl := lv_entry ([.ref h0]) (n := 1) (Nat.le_of_ble_eq_true rfl)
  rw [lg_entry_eq]
  generalize (lg_sl ([.ref h0]) ++ List.replicate (1 - (lg_sl ([.ref h0])).length) Slot.unset).toArray = ls at hl ⊢
  have hl : lv_has ls 1 [(0, .ref h0)] := hl
  refine lv_aload_n hx hb dI3_0 rfl (lv_at hl 0 rfl) ?_
  refine W.objInit hx hb hown (hts _ wd_194) (hts _ wd_23) (hts _ wd_24) rfl (by rw [hml]; exact hl.1) rfl dI3_1 (Nat.le_of_ble_eq_true rfl) (Nat.le_of_ble_eq_true rfl) ?_
  refine W.eq (g2 := F0 m 4 ls []) rfl ?_
  refine lv_aload_n hx hb dI3_4 rfl (lv_at hl 0 rfl) ?_
  refine lv_iconst (v := 4) hx hb dI3_5 (by decide) ?_
  refine nw_i hx hb (hts _ wd_44) hK hP hD hS hA 4 (by decide) (by decide) (by decide) (Nat.le_of_ble_eq_true rfl) (Nat.le_of_ble_eq_true rfl) dI3_6 (fun q1 H hP hD hS => ?_)
  have hP : va_P D vwCl [(h0, .inr (3, [.null, .null, .null, .null, .null, .int 0, .int 0])), (q1, aI dA 4)] H := hP
  have hD : va_D A [(h0, .inr (3, [.null, .null, .null, .null, .null, .int 0, .int 0])), (q1, aI dA 4)] := hD
  refine W.widen (k := 1) (n := 4) (by decide) (by decide) ?_
  refine va_putF (D := D) (ci := 3) (v := .ref q1) (ty := .array .int) (C := RX3) (T := TX3) (N := 7) hx hb hts (x_cl_words 3 _ rfl).1 tyX3 tyX3_ok nmX3 hown hK hP hD hS 0 rfl rfl 0 (by decide) (hts _ wd_195) (fun _ h9 => h9) rfl hin rfl (by decide +kernel) rfl rfl (Nat.le_of_ble_eq_true rfl) dI3_8 (fun H locs hP hD hS => ?_)
  have hP : va_P D vwCl [(h0, .inr (3, [.ref q1, .null, .null, .null, .null, .int 0, .int 0])), (q1, aI dA 4)] H := hP
  have hD : va_D A [(h0, .inr (3, [.ref q1, .null, .null, .null, .null, .int 0, .int 0])), (q1, aI dA 4)] := hD
  refine lv_aload_n hx hb dI3_11 rfl (lv_at hl 0 rfl) ?_
  refine lv_bipush (v := 32) hx hb dI3_12 (by decide) ?_
  refine nw_i hx hb (hts _ wd_44) hK hP hD hS hA 32 (by decide) (by decide) (by decide) (Nat.le_of_ble_eq_true rfl) (Nat.le_of_ble_eq_true rfl) dI3_14 (fun q2 H hP hD hS => ?_)
  have hP : va_P D vwCl [(h0, .inr (3, [.ref q1, .null, .null, .null, .null, .int 0, .int 0])), (q1, aI dA 4), (q2, aI dA 32)] H := hP
  have hD : va_D A [(h0, .inr (3, [.ref q1, .null, .null, .null, .null, .int 0, .int 0])), (q1, aI dA 4), (q2, aI dA 32)] := hD
  refine W.widen (k := 2) (n := 36) (by decide) (by decide) ?_
  refine va_putF (D := D) (ci := 3) (v := .ref q2) (ty := .array .int) (C := RX3) (T := TX3) (N := 7) hx hb hts (x_cl_words 3 _ rfl).1 tyX3 tyX3_ok nmX3 hown hK hP hD hS 0 rfl rfl 1 (by decide) (hts _ wd_196) (fun _ h9 => h9) rfl hin rfl (by decide +kernel) rfl rfl (Nat.le_of_ble_eq_true rfl) dI3_16 (fun H locs hP hD hS => ?_)
  have hP : va_P D vwCl [(h0, .inr (3, [.ref q1, .ref q2, .null, .null, .null, .int 0, .int 0])), (q1, aI dA 4), (q2, aI dA 32)] H := hP
  have hD : va_D A [(h0, .inr (3, [.ref q1, .ref q2, .null, .null, .null, .int 0, .int 0])), (q1, aI dA 4), (q2, aI dA 32)] := hD
  refine lv_aload_n hx hb dI3_19 rfl (lv_at hl 0 rfl) ?_
  refine lv_bipush (v := 32) hx hb dI3_20 (by decide) ?_
  refine nw_i hx hb (hts _ wd_44) hK hP hD hS hA 32 (by decide) (by decide) (by decide) (Nat.le_of_ble_eq_true rfl) (Nat.le_of_ble_eq_true rfl) dI3_22 (fun q3 H hP hD hS => ?_)
  have hP : va_P D vwCl [(h0, .inr (3, [.ref q1, .ref q2, .null, .null, .null, .int 0, .int 0])), (q1, aI dA 4), (q2, aI dA 32), (q3, aI dA 32)] H := hP
  have hD : va_D A [(h0, .inr (3, [.ref q1, .ref q2, .null, .null, .null, .int 0, .int 0])), (q1, aI dA 4), (q2, aI dA 32), (q3, aI dA 32)] := hD
  refine W.widen (k := 3) (n := 68) (by decide) (by decide) ?_
  refine va_putF (D := D) (ci := 3) (v := .ref q3) (ty := .array .int) (C := RX3) (T := TX3) (N := 7) hx hb hts (x_cl_words 3 _ rfl).1 tyX3 tyX3_ok nmX3 hown hK hP hD hS 0 rfl rfl 2 (by decide) (hts _ wd_197) (fun _ h9 => h9) rfl hin rfl (by decide +kernel) rfl rfl (Nat.le_of_ble_eq_true rfl) dI3_24 (fun H locs hP hD hS => ?_)
  have hP : va_P D vwCl [(h0, .inr (3, [.ref q1, .ref q2, .ref q3, .null, .null, .int 0, .int 0])), (q1, aI dA 4), (q2, aI dA 32), (q3, aI dA 32)] H := hP
  have hD : va_D A [(h0, .inr (3, [.ref q1, .ref q2, .ref q3, .null, .null, .int 0, .int 0])), (q1, aI dA 4), (q2, aI dA 32), (q3, aI dA 32)] := hD
  refine lv_aload_n hx hb dI3_27 rfl (lv_at hl 0 rfl) ?_
  refine lv_bipush (v := 32) hx hb dI3_28 (by decide) ?_
  refine nw_z hx hb (hts _ wd_96) hK hP hD hS hA 32 (by decide) (by decide) (by decide) (Nat.le_of_ble_eq_true rfl) (Nat.le_of_ble_eq_true rfl) dI3_30 (fun q4 H hP hD hS => ?_)
  have hP : va_P D vwCl [(h0, .inr (3, [.ref q1, .ref q2, .ref q3, .null, .null, .int 0, .int 0])), (q1, aI dA 4), (q2, aI dA 32), (q3, aI dA 32), (q4, aZ dA 32)] H := hP
  have hD : va_D A [(h0, .inr (3, [.ref q1, .ref q2, .ref q3, .null, .null, .int 0, .int 0])), (q1, aI dA 4), (q2, aI dA 32), (q3, aI dA 32), (q4, aZ dA 32)] := hD
  refine W.widen (k := 4) (n := 100) (by decide) (by decide) ?_
  refine va_putF (D := D) (ci := 3) (v := .ref q4) (ty := .array .boolean) (C := RX3) (T := TX3) (N := 7) hx hb hts (x_cl_words 3 _ rfl).1 tyX3 tyX3_ok nmX3 hown hK hP hD hS 0 rfl rfl 3 (by decide) (hts _ wd_198) (fun _ h9 => h9) rfl hin rfl (by decide +kernel) rfl rfl (Nat.le_of_ble_eq_true rfl) dI3_32 (fun H locs hP hD hS => ?_)
  have hP : va_P D vwCl [(h0, .inr (3, [.ref q1, .ref q2, .ref q3, .ref q4, .null, .int 0, .int 0])), (q1, aI dA 4), (q2, aI dA 32), (q3, aI dA 32), (q4, aZ dA 32)] H := hP
  have hD : va_D A [(h0, .inr (3, [.ref q1, .ref q2, .ref q3, .ref q4, .null, .int 0, .int 0])), (q1, aI dA 4), (q2, aI dA 32), (q3, aI dA 32), (q4, aZ dA 32)] := hD
  refine lv_aload_n hx hb dI3_35 rfl (lv_at hl 0 rfl) ?_
  refine lv_bipush (v := 32) hx hb dI3_36 (by decide) ?_
  refine nw_f hx hb (hts _ wd_217) hK hP hD hS hA 32 (by decide) (by decide) (by decide) (Nat.le_of_ble_eq_true rfl) (Nat.le_of_ble_eq_true rfl) dI3_38 (fun q5 H hP hD hS => ?_)
  have hP : va_P D vwCl [(h0, .inr (3, [.ref q1, .ref q2, .ref q3, .ref q4, .null, .int 0, .int 0])), (q1, aI dA 4), (q2, aI dA 32), (q3, aI dA 32), (q4, aZ dA 32), (q5, aF dA 32)] H := hP
  have hD : va_D A [(h0, .inr (3, [.ref q1, .ref q2, .ref q3, .ref q4, .null, .int 0, .int 0])), (q1, aI dA 4), (q2, aI dA 32), (q3, aI dA 32), (q4, aZ dA 32), (q5, aF dA 32)] := hD
  refine W.widen (k := 5) (n := 132) (by decide) (by decide) ?_
  refine va_putF (D := D) (ci := 3) (v := .ref q5) (ty := .array .float) (C := RX3) (T := TX3) (N := 7) hx hb hts (x_cl_words 3 _ rfl).1 tyX3 tyX3_ok nmX3 hown hK hP hD hS 0 rfl rfl 4 (by decide) (hts _ wd_199) (fun _ h9 => h9) rfl hin rfl (by decide +kernel) rfl rfl (Nat.le_of_ble_eq_true rfl) dI3_40 (fun H locs hP hD hS => ?_)
  have hP : va_P D vwCl [(h0, .inr (3, [.ref q1, .ref q2, .ref q3, .ref q4, .ref q5, .int 0, .int 0])), (q1, aI dA 4), (q2, aI dA 32), (q3, aI dA 32), (q4, aZ dA 32), (q5, aF dA 32)] H := hP
  have hD : va_D A [(h0, .inr (3, [.ref q1, .ref q2, .ref q3, .ref q4, .ref q5, .int 0, .int 0])), (q1, aI dA 4), (q2, aI dA 32), (q3, aI dA 32), (q4, aZ dA 32), (q5, aF dA 32)] := hD
  exact W.vret hx hb hr (fun t ht hW => ⟨⟨fun k => ([q1, q2, q3, q4, q5] : List Nat).getD k 0, rfl, trivial, by rw [ht]; exact hP, va_K.moved hW.alike hK, hD⟩, hS.F ht⟩) hS.2.2 dI3_43
theorem dI2_0 : decode bI2 0 = .ok (.aload_n 0, 1) := by decide +kernel
theorem dI2_1 : decode bI2 1 = .ok (.invokespecial 3, 3) := by decide +kernel
theorem dI2_4 : decode bI2 4 = .ok (.aload_n 0, 1) := by decide +kernel
theorem dI2_5 : decode bI2 5 = .ok (.bipush 16, 2) := by decide +kernel
theorem dI2_7 : decode bI2 7 = .ok (.newarray .int, 2) := by decide +kernel
theorem dI2_9 : decode bI2 9 = .ok (.putfield 9, 3) := by decide +kernel
theorem dI2_12 : decode bI2 12 = .ok (.aload_n 0, 1) := by decide +kernel
theorem dI2_13 : decode bI2 13 = .ok (.sipush 192, 3) := by decide +kernel
theorem dI2_16 : decode bI2 16 = .ok (.newarray .int, 2) := by decide +kernel
theorem dI2_18 : decode bI2 18 = .ok (.putfield 15, 3) := by decide +kernel
theorem dI2_21 : decode bI2 21 = .ok (.aload_n 0, 1) := by decide +kernel
theorem dI2_22 : decode bI2 22 = .ok (.sipush 192, 3) := by decide +kernel
theorem dI2_25 : decode bI2 25 = .ok (.newarray .int, 2) := by decide +kernel
theorem dI2_27 : decode bI2 27 = .ok (.putfield 18, 3) := by decide +kernel
theorem dI2_30 : decode bI2 30 = .ok (.aload_n 0, 1) := by decide +kernel
theorem dI2_31 : decode bI2 31 = .ok (.sipush 192, 3) := by decide +kernel
theorem dI2_34 : decode bI2 34 = .ok (.newarray .int, 2) := by decide +kernel
theorem dI2_36 : decode bI2 36 = .ok (.putfield 21, 3) := by decide +kernel
theorem dI2_39 : decode bI2 39 = .ok (.aload_n 0, 1) := by decide +kernel
theorem dI2_40 : decode bI2 40 = .ok (.sipush 192, 3) := by decide +kernel
theorem dI2_43 : decode bI2 43 = .ok (.newarray .int, 2) := by decide +kernel
theorem dI2_45 : decode bI2 45 = .ok (.putfield 24, 3) := by decide +kernel
theorem dI2_48 : decode bI2 48 = .ok (.aload_n 0, 1) := by decide +kernel
theorem dI2_49 : decode bI2 49 = .ok (.iconst 4, 1) := by decide +kernel
theorem dI2_50 : decode bI2 50 = .ok (.newarray .int, 2) := by decide +kernel
theorem dI2_52 : decode bI2 52 = .ok (.putfield 27, 3) := by decide +kernel
theorem dI2_55 : decode bI2 55 = .ok (.aload_n 0, 1) := by decide +kernel
theorem dI2_56 : decode bI2 56 = .ok (.bipush 32, 2) := by decide +kernel
theorem dI2_58 : decode bI2 58 = .ok (.newarray .int, 2) := by decide +kernel
theorem dI2_60 : decode bI2 60 = .ok (.putfield 30, 3) := by decide +kernel
theorem dI2_63 : decode bI2 63 = .ok (.aload_n 0, 1) := by decide +kernel
theorem dI2_64 : decode bI2 64 = .ok (.bipush 32, 2) := by decide +kernel
theorem dI2_66 : decode bI2 66 = .ok (.newarray .int, 2) := by decide +kernel
theorem dI2_68 : decode bI2 68 = .ok (.putfield 33, 3) := by decide +kernel
theorem dI2_71 : decode bI2 71 = .ok (.aload_n 0, 1) := by decide +kernel
theorem dI2_72 : decode bI2 72 = .ok (.aload_n 1, 1) := by decide +kernel
theorem dI2_73 : decode bI2 73 = .ok (.putfield 36, 3) := by decide +kernel
theorem dI2_76 : decode bI2 76 = .ok (.return_, 1) := by decide +kernel
abbrev pI2 (h0 a1 : Nat) : va_W := [(h0, .inr (2, [.null, .null, .null, .null, .null, .null, .null, .null, .null]))]
abbrev oI2 (dA : Nat → ClassId) (h0 a1 : Nat) (u : Nat → Nat) : va_W := [(h0, .inr (2, [.ref a1, .ref (u 0), .ref (u 1), .ref (u 2), .ref (u 3), .ref (u 4), .ref (u 5), .ref (u 6), .ref (u 7)])), ((u 0), aI dA 16), ((u 1), aI dA 192), ((u 2), aI dA 192), ((u 3), aI dA 192), ((u 4), aI dA 192), ((u 5), aI dA 4), ((u 6), aI dA 32), ((u 7), aI dA 32)]
set_option maxHeartbeats 4000000 in
set_option maxRecDepth 100000 in
theorem cI2 (l : Launch) (D : va_G) (dA : Nat → ClassId) (h0 a1 sz : Nat) : Met l yI2 (Cond.code yI2 bI2 2 none :: x_Ts) ({ frames := 1, cells := 8, slots := 852, locals := 12 }) (va_Pc [.ref h0, .ref a1] (fun U => U.heap.size = sz ∧ va_P D vwCl (pI2 h0 a1) U.heap ∧ va_K D vwCl (x_tys dA) U ∧ va_D (fun _ => True) (pI2 h0 a1))) (va_Qv (fun _ : Nat → Nat => True) (fun u t => va_P D vwCl (oI2 dA h0 a1 u) t.heap ∧ va_K D vwCl (x_tys dA) t ∧ va_D (va_A (pI2 h0 a1) sz) (oI2 dA h0 a1 u)) (va_A (pI2 h0 a1) sz)) 8 852 (va_A (pI2 h0 a1) sz) := by
  refine Met.ofW (cc := bI2) (maxL := 2) (ret := none) (by decide +kernel) rfl ?_
  intro p e s m args below meth c s₁ B hml hv
  obtain ⟨rfl, hsz, hP, hK, hD0⟩ := hv
  have hx := B.exec
  have hb := B.bytes
  have hr := B.returns
  have hts0 := atoms_spec (ws := Cond.code yI2 bI2 2 none :: x_Ts) B.pre
  have hts : ∀ w ∈ x_Ts, w.before _ s = true := fun w h => hts0 w (List.mem_cons_of_mem _ h)
  have hown : s.vm.findClass RX2 = some m.cls := findClass_of_methodNamed B.named
  have hlocks := B.notSynchronized
  have hin : meth.name = "<init>" := (name_of_methodNamed B.named B.method).1
  subst hsz
  have hD := hD0.self (sz := s.heap.size)
  generalize hAe : va_A (pI2 h0 a1) s.heap.size = A at hD ⊢
  have hA : ∀ q : Nat, s.heap.size ≤ q → A q := fun q h => by rw [← hAe]; exact Or.inr h
  have hS : va_S A s.heap s.heap [] := va_S.rf
  have hl := lv_entry ([.ref h0, .ref a1]) (n := 2) (Nat.le_of_ble_eq_true rfl)
  rw [lg_entry_eq]
  generalize (lg_sl ([.ref h0, .ref a1]) ++ List.replicate (2 - (lg_sl ([.ref h0, .ref a1])).length) Slot.unset).toArray = ls at hl ⊢
  have hl : lv_has ls 2 [(0, .ref h0), (1, .ref a1)] := hl
  refine lv_aload_n hx hb dI2_0 rfl (lv_at hl 0 rfl) ?_
  refine W.objInit hx hb hown (hts _ wd_223) (hts _ wd_23) (hts _ wd_24) rfl (by rw [hml]; exact hl.1) rfl dI2_1 (Nat.le_of_ble_eq_true rfl) (Nat.le_of_ble_eq_true rfl) ?_
  refine W.eq (g2 := F0 m 4 ls []) rfl ?_
  refine lv_aload_n hx hb dI2_4 rfl (lv_at hl 0 rfl) ?_
  refine lv_bipush (v := 16) hx hb dI2_5 (by decide) ?_
  refine nw_i hx hb (hts _ wd_44) hK hP hD hS hA 16 (by decide) (by decide) (by decide) (Nat.le_of_ble_eq_true rfl) (Nat.le_of_ble_eq_true rfl) dI2_7 (fun q1 H hP hD hS => ?_)
  have hP : va_P D vwCl [(h0, .inr (2, [.null, .null, .null, .null, .null, .null, .null, .null, .null])), (q1, aI dA 16)] H := hP
  have hD : va_D A [(h0, .inr (2, [.null, .null, .null, .null, .null, .null, .null, .null, .null])), (q1, aI dA 16)] := hD
  refine W.widen (k := 1) (n := 16) (by decide) (by decide) ?_
  refine va_putF (D := D) (ci := 2) (v := .ref q1) (ty := .array .int) (C := RX2) (T := TX2) (N := 9) hx hb hts (x_cl_words 2 _ rfl).1 tyX2 tyX2_ok nmX2 hown hK hP hD hS 0 rfl rfl 1 (by decide) (hts _ wd_225) (fun _ h9 => h9) rfl hin rfl (by decide +kernel) rfl rfl (Nat.le_of_ble_eq_true rfl) dI2_9 (fun H locs hP hD hS => ?_)
  have hP : va_P D vwCl [(h0, .inr (2, [.null, .ref q1, .null, .null, .null, .null, .null, .null, .null])), (q1, aI dA 16)] H := hP
  have hD : va_D A [(h0, .inr (2, [.null, .ref q1, .null, .null, .null, .null, .null, .null, .null])), (q1, aI dA 16)] := hD
  refine lv_aload_n hx hb dI2_12 rfl (lv_at hl 0 rfl) ?_
  refine lv_sipush (v := 192) hx hb dI2_13 (by decide) ?_
  refine nw_i hx hb (hts _ wd_44) hK hP hD hS hA 192 (by decide) (by decide) (by decide) (Nat.le_of_ble_eq_true rfl) (Nat.le_of_ble_eq_true rfl) dI2_16 (fun q2 H hP hD hS => ?_)
  have hP : va_P D vwCl [(h0, .inr (2, [.null, .ref q1, .null, .null, .null, .null, .null, .null, .null])), (q1, aI dA 16), (q2, aI dA 192)] H := hP
  have hD : va_D A [(h0, .inr (2, [.null, .ref q1, .null, .null, .null, .null, .null, .null, .null])), (q1, aI dA 16), (q2, aI dA 192)] := hD
  refine W.widen (k := 2) (n := 208) (by decide) (by decide) ?_
  refine va_putF (D := D) (ci := 2) (v := .ref q2) (ty := .array .int) (C := RX2) (T := TX2) (N := 9) hx hb hts (x_cl_words 2 _ rfl).1 tyX2 tyX2_ok nmX2 hown hK hP hD hS 0 rfl rfl 2 (by decide) (hts _ wd_227) (fun _ h9 => h9) rfl hin rfl (by decide +kernel) rfl rfl (Nat.le_of_ble_eq_true rfl) dI2_18 (fun H locs hP hD hS => ?_)
  have hP : va_P D vwCl [(h0, .inr (2, [.null, .ref q1, .ref q2, .null, .null, .null, .null, .null, .null])), (q1, aI dA 16), (q2, aI dA 192)] H := hP
  have hD : va_D A [(h0, .inr (2, [.null, .ref q1, .ref q2, .null, .null, .null, .null, .null, .null])), (q1, aI dA 16), (q2, aI dA 192)] := hD
  refine lv_aload_n hx hb dI2_21 rfl (lv_at hl 0 rfl) ?_
  refine lv_sipush (v := 192) hx hb dI2_22 (by decide) ?_
  refine nw_i hx hb (hts _ wd_44) hK hP hD hS hA 192 (by decide) (by decide) (by decide) (Nat.le_of_ble_eq_true rfl) (Nat.le_of_ble_eq_true rfl) dI2_25 (fun q3 H hP hD hS => ?_)
  have hP : va_P D vwCl [(h0, .inr (2, [.null, .ref q1, .ref q2, .null, .null, .null, .null, .null, .null])), (q1, aI dA 16), (q2, aI dA 192), (q3, aI dA 192)] H := hP
  have hD : va_D A [(h0, .inr (2, [.null, .ref q1, .ref q2, .null, .null, .null, .null, .null, .null])), (q1, aI dA 16), (q2, aI dA 192), (q3, aI dA 192)] := hD
  refine W.widen (k := 3) (n := 400) (by decide) (by decide) ?_
  refine va_putF (D := D) (ci := 2) (v := .ref q3) (ty := .array .int) (C := RX2) (T := TX2) (N := 9) hx hb hts (x_cl_words 2 _ rfl).1 tyX2 tyX2_ok nmX2 hown hK hP hD hS 0 rfl rfl 3 (by decide) (hts _ wd_229) (fun _ h9 => h9) rfl hin rfl (by decide +kernel) rfl rfl (Nat.le_of_ble_eq_true rfl) dI2_27 (fun H locs hP hD hS => ?_)
  have hP : va_P D vwCl [(h0, .inr (2, [.null, .ref q1, .ref q2, .ref q3, .null, .null, .null, .null, .null])), (q1, aI dA 16), (q2, aI dA 192), (q3, aI dA 192)] H := hP
  have hD : va_D A [(h0, .inr (2, [.null, .ref q1, .ref q2, .ref q3, .null, .null, .null, .null, .null])), (q1, aI dA 16), (q2, aI dA 192), (q3, aI dA 192)] := hD
  refine lv_aload_n hx hb dI2_30 rfl (lv_at hl 0 rfl) ?_
  refine lv_sipush (v := 192) hx hb dI2_31 (by decide) ?_
  refine nw_i hx hb (hts _ wd_44) hK hP hD hS hA 192 (by decide) (by decide) (by decide) (Nat.le_of_ble_eq_true rfl) (Nat.le_of_ble_eq_true rfl) dI2_34 (fun q4 H hP hD hS => ?_)
  have hP : va_P D vwCl [(h0, .inr (2, [.null, .ref q1, .ref q2, .ref q3, .null, .null, .null, .null, .null])), (q1, aI dA 16), (q2, aI dA 192), (q3, aI dA 192), (q4, aI dA 192)] H := hP
  have hD : va_D A [(h0, .inr (2, [.null, .ref q1, .ref q2, .ref q3, .null, .null, .null, .null, .null])), (q1, aI dA 16), (q2, aI dA 192), (q3, aI dA 192), (q4, aI dA 192)] := hD
  refine W.widen (k := 4) (n := 592) (by decide) (by decide) ?_
  refine va_putF (D := D) (ci := 2) (v := .ref q4) (ty := .array .int) (C := RX2) (T := TX2) (N := 9) hx hb hts (x_cl_words 2 _ rfl).1 tyX2 tyX2_ok nmX2 hown hK hP hD hS 0 rfl rfl 4 (by decide) (hts _ wd_231) (fun _ h9 => h9) rfl hin rfl (by decide +kernel) rfl rfl (Nat.le_of_ble_eq_true rfl) dI2_36 (fun H locs hP hD hS => ?_)
  have hP : va_P D vwCl [(h0, .inr (2, [.null, .ref q1, .ref q2, .ref q3, .ref q4, .null, .null, .null, .null])), (q1, aI dA 16), (q2, aI dA 192), (q3, aI dA 192), (q4, aI dA 192)] H := hP
  have hD : va_D A [(h0, .inr (2, [.null, .ref q1, .ref q2, .ref q3, .ref q4, .null, .null, .null, .null])), (q1, aI dA 16), (q2, aI dA 192), (q3, aI dA 192), (q4, aI dA 192)] := hD
  refine lv_aload_n hx hb dI2_39 rfl (lv_at hl 0 rfl) ?_
  refine lv_sipush (v := 192) hx hb dI2_40 (by decide) ?_
  refine nw_i hx hb (hts _ wd_44) hK hP hD hS hA 192 (by decide) (by decide) (by decide) (Nat.le_of_ble_eq_true rfl) (Nat.le_of_ble_eq_true rfl) dI2_43 (fun q5 H hP hD hS => ?_)
  have hP : va_P D vwCl [(h0, .inr (2, [.null, .ref q1, .ref q2, .ref q3, .ref q4, .null, .null, .null, .null])), (q1, aI dA 16), (q2, aI dA 192), (q3, aI dA 192), (q4, aI dA 192), (q5, aI dA 192)] H := hP
  have hD : va_D A [(h0, .inr (2, [.null, .ref q1, .ref q2, .ref q3, .ref q4, .null, .null, .null, .null])), (q1, aI dA 16), (q2, aI dA 192), (q3, aI dA 192), (q4, aI dA 192), (q5, aI dA 192)] := hD
  refine W.widen (k := 5) (n := 784) (by decide) (by decide) ?_
  refine va_putF (D := D) (ci := 2) (v := .ref q5) (ty := .array .int) (C := RX2) (T := TX2) (N := 9) hx hb hts (x_cl_words 2 _ rfl).1 tyX2 tyX2_ok nmX2 hown hK hP hD hS 0 rfl rfl 5 (by decide) (hts _ wd_233) (fun _ h9 => h9) rfl hin rfl (by decide +kernel) rfl rfl (Nat.le_of_ble_eq_true rfl) dI2_45 (fun H locs hP hD hS => ?_)
  have hP : va_P D vwCl [(h0, .inr (2, [.null, .ref q1, .ref q2, .ref q3, .ref q4, .ref q5, .null, .null, .null])), (q1, aI dA 16), (q2, aI dA 192), (q3, aI dA 192), (q4, aI dA 192), (q5, aI dA 192)] H := hP
  have hD : va_D A [(h0, .inr (2, [.null, .ref q1, .ref q2, .ref q3, .ref q4, .ref q5, .null, .null, .null])), (q1, aI dA 16), (q2, aI dA 192), (q3, aI dA 192), (q4, aI dA 192), (q5, aI dA 192)] := hD
  refine lv_aload_n hx hb dI2_48 rfl (lv_at hl 0 rfl) ?_
  refine lv_iconst (v := 4) hx hb dI2_49 (by decide) ?_
  refine nw_i hx hb (hts _ wd_44) hK hP hD hS hA 4 (by decide) (by decide) (by decide) (Nat.le_of_ble_eq_true rfl) (Nat.le_of_ble_eq_true rfl) dI2_50 (fun q6 H hP hD hS => ?_)
  have hP : va_P D vwCl [(h0, .inr (2, [.null, .ref q1, .ref q2, .ref q3, .ref q4, .ref q5, .null, .null, .null])), (q1, aI dA 16), (q2, aI dA 192), (q3, aI dA 192), (q4, aI dA 192), (q5, aI dA 192), (q6, aI dA 4)] H := hP
  have hD : va_D A [(h0, .inr (2, [.null, .ref q1, .ref q2, .ref q3, .ref q4, .ref q5, .null, .null, .null])), (q1, aI dA 16), (q2, aI dA 192), (q3, aI dA 192), (q4, aI dA 192), (q5, aI dA 192), (q6, aI dA 4)] := hD
  refine W.widen (k := 6) (n := 788) (by decide) (by decide) ?_
  refine va_putF (D := D) (ci := 2) (v := .ref q6) (ty := .array .int) (C := RX2) (T := TX2) (N := 9) hx hb hts (x_cl_words 2 _ rfl).1 tyX2 tyX2_ok nmX2 hown hK hP hD hS 0 rfl rfl 6 (by decide) (hts _ wd_235) (fun _ h9 => h9) rfl hin rfl (by decide +kernel) rfl rfl (Nat.le_of_ble_eq_true rfl) dI2_52 (fun H locs hP hD hS => ?_)
  have hP : va_P D vwCl [(h0, .inr (2, [.null, .ref q1, .ref q2, .ref q3, .ref q4, .ref q5, .ref q6, .null, .null])), (q1, aI dA 16), (q2, aI dA 192), (q3, aI dA 192), (q4, aI dA 192), (q5, aI dA 192), (q6, aI dA 4)] H := hP
  have hD : va_D A [(h0, .inr (2, [.null, .ref q1, .ref q2, .ref q3, .ref q4, .ref q5, .ref q6, .null, .null])), (q1, aI dA 16), (q2, aI dA 192), (q3, aI dA 192), (q4, aI dA 192), (q5, aI dA 192), (q6, aI dA 4)] := hD
  refine lv_aload_n hx hb dI2_55 rfl (lv_at hl 0 rfl) ?_
  refine lv_bipush (v := 32) hx hb dI2_56 (by decide) ?_
  refine nw_i hx hb (hts _ wd_44) hK hP hD hS hA 32 (by decide) (by decide) (by decide) (Nat.le_of_ble_eq_true rfl) (Nat.le_of_ble_eq_true rfl) dI2_58 (fun q7 H hP hD hS => ?_)
  have hP : va_P D vwCl [(h0, .inr (2, [.null, .ref q1, .ref q2, .ref q3, .ref q4, .ref q5, .ref q6, .null, .null])), (q1, aI dA 16), (q2, aI dA 192), (q3, aI dA 192), (q4, aI dA 192), (q5, aI dA 192), (q6, aI dA 4), (q7, aI dA 32)] H := hP
  have hD : va_D A [(h0, .inr (2, [.null, .ref q1, .ref q2, .ref q3, .ref q4, .ref q5, .ref q6, .null, .null])), (q1, aI dA 16), (q2, aI dA 192), (q3, aI dA 192), (q4, aI dA 192), (q5, aI dA 192), (q6, aI dA 4), (q7, aI dA 32)] := hD
  refine W.widen (k := 7) (n := 820) (by decide) (by decide) ?_
  refine va_putF (D := D) (ci := 2) (v := .ref q7) (ty := .array .int) (C := RX2) (T := TX2) (N := 9) hx hb hts (x_cl_words 2 _ rfl).1 tyX2 tyX2_ok nmX2 hown hK hP hD hS 0 rfl rfl 7 (by decide) (hts _ wd_236) (fun _ h9 => h9) rfl hin rfl (by decide +kernel) rfl rfl (Nat.le_of_ble_eq_true rfl) dI2_60 (fun H locs hP hD hS => ?_)
  have hP : va_P D vwCl [(h0, .inr (2, [.null, .ref q1, .ref q2, .ref q3, .ref q4, .ref q5, .ref q6, .ref q7, .null])), (q1, aI dA 16), (q2, aI dA 192), (q3, aI dA 192), (q4, aI dA 192), (q5, aI dA 192), (q6, aI dA 4), (q7, aI dA 32)] H := hP
  have hD : va_D A [(h0, .inr (2, [.null, .ref q1, .ref q2, .ref q3, .ref q4, .ref q5, .ref q6, .ref q7, .null])), (q1, aI dA 16), (q2, aI dA 192), (q3, aI dA 192), (q4, aI dA 192), (q5, aI dA 192), (q6, aI dA 4), (q7, aI dA 32)] := hD
  refine lv_aload_n hx hb dI2_63 rfl (lv_at hl 0 rfl) ?_
  refine lv_bipush (v := 32) hx hb dI2_64 (by decide) ?_
  refine nw_i hx hb (hts _ wd_44) hK hP hD hS hA 32 (by decide) (by decide) (by decide) (Nat.le_of_ble_eq_true rfl) (Nat.le_of_ble_eq_true rfl) dI2_66 (fun q8 H hP hD hS => ?_)
  have hP : va_P D vwCl [(h0, .inr (2, [.null, .ref q1, .ref q2, .ref q3, .ref q4, .ref q5, .ref q6, .ref q7, .null])), (q1, aI dA 16), (q2, aI dA 192), (q3, aI dA 192), (q4, aI dA 192), (q5, aI dA 192), (q6, aI dA 4), (q7, aI dA 32), (q8, aI dA 32)] H := hP
  have hD : va_D A [(h0, .inr (2, [.null, .ref q1, .ref q2, .ref q3, .ref q4, .ref q5, .ref q6, .ref q7, .null])), (q1, aI dA 16), (q2, aI dA 192), (q3, aI dA 192), (q4, aI dA 192), (q5, aI dA 192), (q6, aI dA 4), (q7, aI dA 32), (q8, aI dA 32)] := hD
  refine W.widen (k := 8) (n := 852) (by decide) (by decide) ?_
  refine va_putF (D := D) (ci := 2) (v := .ref q8) (ty := .array .int) (C := RX2) (T := TX2) (N := 9) hx hb hts (x_cl_words 2 _ rfl).1 tyX2 tyX2_ok nmX2 hown hK hP hD hS 0 rfl rfl 8 (by decide) (hts _ wd_237) (fun _ h9 => h9) rfl hin rfl (by decide +kernel) rfl rfl (Nat.le_of_ble_eq_true rfl) dI2_68 (fun H locs hP hD hS => ?_)
  have hP : va_P D vwCl [(h0, .inr (2, [.null, .ref q1, .ref q2, .ref q3, .ref q4, .ref q5, .ref q6, .ref q7, .ref q8])), (q1, aI dA 16), (q2, aI dA 192), (q3, aI dA 192), (q4, aI dA 192), (q5, aI dA 192), (q6, aI dA 4), (q7, aI dA 32), (q8, aI dA 32)] H := hP
  have hD : va_D A [(h0, .inr (2, [.null, .ref q1, .ref q2, .ref q3, .ref q4, .ref q5, .ref q6, .ref q7, .ref q8])), (q1, aI dA 16), (q2, aI dA 192), (q3, aI dA 192), (q4, aI dA 192), (q5, aI dA 192), (q6, aI dA 4), (q7, aI dA 32), (q8, aI dA 32)] := hD
  refine lv_aload_n hx hb dI2_71 rfl (lv_at hl 0 rfl) ?_
  refine lv_aload_n hx hb dI2_72 rfl (lv_at hl 1 rfl) ?_
  refine va_putF (D := D) (ci := 2) (v := .ref a1) (ty := .object "CueBoard$Rig") (C := RX2) (T := TX2) (N := 9) hx hb hts (x_cl_words 2 _ rfl).1 tyX2 tyX2_ok nmX2 hown hK hP hD hS 0 rfl rfl 0 (by decide) (hts _ wd_224) (fun _ h9 => h9) rfl hin rfl (by decide +kernel) rfl rfl (Nat.le_of_ble_eq_true rfl) dI2_73 (fun H locs hP hD hS => ?_)
  have hP : va_P D vwCl [(h0, .inr (2, [.ref a1, .ref q1, .ref q2, .ref q3, .ref q4, .ref q5, .ref q6, .ref q7, .ref q8])), (q1, aI dA 16), (q2, aI dA 192), (q3, aI dA 192), (q4, aI dA 192), (q5, aI dA 192), (q6, aI dA 4), (q7, aI dA 32), (q8, aI dA 32)] H := hP
  have hD : va_D A [(h0, .inr (2, [.ref a1, .ref q1, .ref q2, .ref q3, .ref q4, .ref q5, .ref q6, .ref q7, .ref q8])), (q1, aI dA 16), (q2, aI dA 192), (q3, aI dA 192), (q4, aI dA 192), (q5, aI dA 192), (q6, aI dA 4), (q7, aI dA 32), (q8, aI dA 32)] := hD
  exact W.vret hx hb hr (fun t ht hW => ⟨⟨fun k => ([q1, q2, q3, q4, q5, q6, q7, q8] : List Nat).getD k 0, rfl, trivial, by rw [ht]; exact hP, va_K.moved hW.alike hK, hD⟩, hS.F ht⟩) hS.2.2 dI2_76
theorem dI8_0 : decode bI8 0 = .ok (.aload_n 0, 1) := by decide +kernel
theorem dI8_1 : decode bI8 1 = .ok (.invokespecial 3, 3) := by decide +kernel
theorem dI8_4 : decode bI8 4 = .ok (.aload_n 0, 1) := by decide +kernel
theorem dI8_5 : decode bI8 5 = .ok (.bipush 72, 2) := by decide +kernel
theorem dI8_7 : decode bI8 7 = .ok (.newarray .int, 2) := by decide +kernel
theorem dI8_9 : decode bI8 9 = .ok (.putfield 9, 3) := by decide +kernel
theorem dI8_12 : decode bI8 12 = .ok (.aload_n 0, 1) := by decide +kernel
theorem dI8_13 : decode bI8 13 = .ok (.bipush 72, 2) := by decide +kernel
theorem dI8_15 : decode bI8 15 = .ok (.newarray .int, 2) := by decide +kernel
theorem dI8_17 : decode bI8 17 = .ok (.putfield 15, 3) := by decide +kernel
theorem dI8_20 : decode bI8 20 = .ok (.aload_n 0, 1) := by decide +kernel
theorem dI8_21 : decode bI8 21 = .ok (.bipush 72, 2) := by decide +kernel
theorem dI8_23 : decode bI8 23 = .ok (.newarray .int, 2) := by decide +kernel
theorem dI8_25 : decode bI8 25 = .ok (.putfield 18, 3) := by decide +kernel
theorem dI8_28 : decode bI8 28 = .ok (.aload_n 0, 1) := by decide +kernel
theorem dI8_29 : decode bI8 29 = .ok (.bipush 72, 2) := by decide +kernel
theorem dI8_31 : decode bI8 31 = .ok (.newarray .int, 2) := by decide +kernel
theorem dI8_33 : decode bI8 33 = .ok (.putfield 21, 3) := by decide +kernel
theorem dI8_36 : decode bI8 36 = .ok (.aload_n 0, 1) := by decide +kernel
theorem dI8_37 : decode bI8 37 = .ok (.bipush 72, 2) := by decide +kernel
theorem dI8_39 : decode bI8 39 = .ok (.newarray .int, 2) := by decide +kernel
theorem dI8_41 : decode bI8 41 = .ok (.putfield 24, 3) := by decide +kernel
theorem dI8_44 : decode bI8 44 = .ok (.aload_n 0, 1) := by decide +kernel
theorem dI8_45 : decode bI8 45 = .ok (.bipush 72, 2) := by decide +kernel
theorem dI8_47 : decode bI8 47 = .ok (.newarray .int, 2) := by decide +kernel
theorem dI8_49 : decode bI8 49 = .ok (.putfield 27, 3) := by decide +kernel
theorem dI8_52 : decode bI8 52 = .ok (.return_, 1) := by decide +kernel
abbrev pI8 (h0 : Nat) : va_W := [(h0, .inr (8, [.int 0, .int 0, .int 0, .int 0, .int 0, .int 0, .int 0, .int 0, .int 0, .null, .null, .null, .null, .null, .null]))]
abbrev oI8 (dA : Nat → ClassId) (h0 : Nat) (u : Nat → Nat) : va_W := [(h0, .inr (8, [.int 0, .int 0, .int 0, .int 0, .int 0, .int 0, .int 0, .int 0, .int 0, .ref (u 0), .ref (u 1), .ref (u 2), .ref (u 3), .ref (u 4), .ref (u 5)])), ((u 0), aI dA 72), ((u 1), aI dA 72), ((u 2), aI dA 72), ((u 3), aI dA 72), ((u 4), aI dA 72), ((u 5), aI dA 72)]
set_option maxHeartbeats 4000000 in
set_option maxRecDepth 100000 in
theorem cI8 (l : Launch) (D : va_G) (dA : Nat → ClassId) (h0 sz : Nat) : Met l yI8 (Cond.code yI8 bI8 1 none :: x_Ts) ({ frames := 1, cells := 6, slots := 432, locals := 12 }) (va_Pc [.ref h0] (fun U => U.heap.size = sz ∧ va_P D vwCl (pI8 h0) U.heap ∧ va_K D vwCl (x_tys dA) U ∧ va_D (fun _ => True) (pI8 h0))) (va_Qv (fun _ : Nat → Nat => True) (fun u t => va_P D vwCl (oI8 dA h0 u) t.heap ∧ va_K D vwCl (x_tys dA) t ∧ va_D (va_A (pI8 h0) sz) (oI8 dA h0 u)) (va_A (pI8 h0) sz)) 6 432 (va_A (pI8 h0) sz) := by
  refine Met.ofW (cc := bI8) (maxL := 1) (ret := none) (by decide +kernel) rfl ?_
  intro p e s m args below meth c s₁ B hml hv
  obtain ⟨rfl, hsz, hP, hK, hD0⟩ := hv
  have hx := B.exec
  have hb := B.bytes
  have hr := B.returns
  have hts0 := atoms_spec (ws := Cond.code yI8 bI8 1 none :: x_Ts) B.pre
  have hts : ∀ w ∈ x_Ts, w.before _ s = true := fun w h => hts0 w (List.mem_cons_of_mem _ h)
  have hown : s.vm.findClass RX8 = some m.cls := findClass_of_methodNamed B.named
  have hlocks := B.notSynchronized
  have hin : meth.name = "<init>" := (name_of_methodNamed B.named B.method).1
  subst hsz
  have hD := hD0.self (sz := s.heap.size)
  generalize hAe : va_A (pI8 h0) s.heap.size = A at hD ⊢
  have hA : ∀ q : Nat, s.heap.size ≤ q → A q := fun q h => by rw [← hAe]; exact Or.inr h
  have hS : va_S A s.heap s.heap [] := va_S.rf
  have hl := lv_entry ([.ref h0]) (n := 1) (Nat.le_of_ble_eq_true rfl)
  rw [lg_entry_eq]
  generalize (lg_sl ([.ref h0]) ++ List.replicate (1 - (lg_sl ([.ref h0])).length) Slot.unset).toArray = ls at hl ⊢
  have hl : lv_has ls 1 [(0, .ref h0)] := hl
  refine lv_aload_n hx hb dI8_0 rfl (lv_at hl 0 rfl) ?_
  refine W.objInit hx hb hown (hts _ wd_312) (hts _ wd_23) (hts _ wd_24) rfl (by rw [hml]; exact hl.1) rfl dI8_1 (Nat.le_of_ble_eq_true rfl) (Nat.le_of_ble_eq_true rfl) ?_
  refine W.eq (g2 := F0 m 4 ls []) rfl ?_
  refine lv_aload_n hx hb dI8_4 rfl (lv_at hl 0 rfl) ?_
  refine lv_bipush (v := 72) hx hb dI8_5 (by decide) ?_
  refine nw_i hx hb (hts _ wd_44) hK hP hD hS hA 72 (by decide) (by decide) (by decide) (Nat.le_of_ble_eq_true rfl) (Nat.le_of_ble_eq_true rfl) dI8_7 (fun q1 H hP hD hS => ?_)
  have hP : va_P D vwCl [(h0, .inr (8, [.int 0, .int 0, .int 0, .int 0, .int 0, .int 0, .int 0, .int 0, .int 0, .null, .null, .null, .null, .null, .null])), (q1, aI dA 72)] H := hP
  have hD : va_D A [(h0, .inr (8, [.int 0, .int 0, .int 0, .int 0, .int 0, .int 0, .int 0, .int 0, .int 0, .null, .null, .null, .null, .null, .null])), (q1, aI dA 72)] := hD
  refine W.widen (k := 1) (n := 72) (by decide) (by decide) ?_
  refine va_putF (D := D) (ci := 8) (v := .ref q1) (ty := .array .int) (C := RX8) (T := TX8) (N := 15) hx hb hts (x_cl_words 8 _ rfl).1 tyX8 tyX8_ok nmX8 hown hK hP hD hS 0 rfl rfl 9 (by decide) (hts _ wd_330) (fun _ h9 => h9) rfl hin rfl (by decide +kernel) rfl rfl (Nat.le_of_ble_eq_true rfl) dI8_9 (fun H locs hP hD hS => ?_)
  have hP : va_P D vwCl [(h0, .inr (8, [.int 0, .int 0, .int 0, .int 0, .int 0, .int 0, .int 0, .int 0, .int 0, .ref q1, .null, .null, .null, .null, .null])), (q1, aI dA 72)] H := hP
  have hD : va_D A [(h0, .inr (8, [.int 0, .int 0, .int 0, .int 0, .int 0, .int 0, .int 0, .int 0, .int 0, .ref q1, .null, .null, .null, .null, .null])), (q1, aI dA 72)] := hD
  refine lv_aload_n hx hb dI8_12 rfl (lv_at hl 0 rfl) ?_
  refine lv_bipush (v := 72) hx hb dI8_13 (by decide) ?_
  refine nw_i hx hb (hts _ wd_44) hK hP hD hS hA 72 (by decide) (by decide) (by decide) (Nat.le_of_ble_eq_true rfl) (Nat.le_of_ble_eq_true rfl) dI8_15 (fun q2 H hP hD hS => ?_)
  have hP : va_P D vwCl [(h0, .inr (8, [.int 0, .int 0, .int 0, .int 0, .int 0, .int 0, .int 0, .int 0, .int 0, .ref q1, .null, .null, .null, .null, .null])), (q1, aI dA 72), (q2, aI dA 72)] H := hP
  have hD : va_D A [(h0, .inr (8, [.int 0, .int 0, .int 0, .int 0, .int 0, .int 0, .int 0, .int 0, .int 0, .ref q1, .null, .null, .null, .null, .null])), (q1, aI dA 72), (q2, aI dA 72)] := hD
  refine W.widen (k := 2) (n := 144) (by decide) (by decide) ?_
  refine va_putF (D := D) (ci := 8) (v := .ref q2) (ty := .array .int) (C := RX8) (T := TX8) (N := 15) hx hb hts (x_cl_words 8 _ rfl).1 tyX8 tyX8_ok nmX8 hown hK hP hD hS 0 rfl rfl 10 (by decide) (hts _ wd_333) (fun _ h9 => h9) rfl hin rfl (by decide +kernel) rfl rfl (Nat.le_of_ble_eq_true rfl) dI8_17 (fun H locs hP hD hS => ?_)
  have hP : va_P D vwCl [(h0, .inr (8, [.int 0, .int 0, .int 0, .int 0, .int 0, .int 0, .int 0, .int 0, .int 0, .ref q1, .ref q2, .null, .null, .null, .null])), (q1, aI dA 72), (q2, aI dA 72)] H := hP
  have hD : va_D A [(h0, .inr (8, [.int 0, .int 0, .int 0, .int 0, .int 0, .int 0, .int 0, .int 0, .int 0, .ref q1, .ref q2, .null, .null, .null, .null])), (q1, aI dA 72), (q2, aI dA 72)] := hD
  refine lv_aload_n hx hb dI8_20 rfl (lv_at hl 0 rfl) ?_
  refine lv_bipush (v := 72) hx hb dI8_21 (by decide) ?_
  refine nw_i hx hb (hts _ wd_44) hK hP hD hS hA 72 (by decide) (by decide) (by decide) (Nat.le_of_ble_eq_true rfl) (Nat.le_of_ble_eq_true rfl) dI8_23 (fun q3 H hP hD hS => ?_)
  have hP : va_P D vwCl [(h0, .inr (8, [.int 0, .int 0, .int 0, .int 0, .int 0, .int 0, .int 0, .int 0, .int 0, .ref q1, .ref q2, .null, .null, .null, .null])), (q1, aI dA 72), (q2, aI dA 72), (q3, aI dA 72)] H := hP
  have hD : va_D A [(h0, .inr (8, [.int 0, .int 0, .int 0, .int 0, .int 0, .int 0, .int 0, .int 0, .int 0, .ref q1, .ref q2, .null, .null, .null, .null])), (q1, aI dA 72), (q2, aI dA 72), (q3, aI dA 72)] := hD
  refine W.widen (k := 3) (n := 216) (by decide) (by decide) ?_
  refine va_putF (D := D) (ci := 8) (v := .ref q3) (ty := .array .int) (C := RX8) (T := TX8) (N := 15) hx hb hts (x_cl_words 8 _ rfl).1 tyX8 tyX8_ok nmX8 hown hK hP hD hS 0 rfl rfl 11 (by decide) (hts _ wd_336) (fun _ h9 => h9) rfl hin rfl (by decide +kernel) rfl rfl (Nat.le_of_ble_eq_true rfl) dI8_25 (fun H locs hP hD hS => ?_)
  have hP : va_P D vwCl [(h0, .inr (8, [.int 0, .int 0, .int 0, .int 0, .int 0, .int 0, .int 0, .int 0, .int 0, .ref q1, .ref q2, .ref q3, .null, .null, .null])), (q1, aI dA 72), (q2, aI dA 72), (q3, aI dA 72)] H := hP
  have hD : va_D A [(h0, .inr (8, [.int 0, .int 0, .int 0, .int 0, .int 0, .int 0, .int 0, .int 0, .int 0, .ref q1, .ref q2, .ref q3, .null, .null, .null])), (q1, aI dA 72), (q2, aI dA 72), (q3, aI dA 72)] := hD
  refine lv_aload_n hx hb dI8_28 rfl (lv_at hl 0 rfl) ?_
  refine lv_bipush (v := 72) hx hb dI8_29 (by decide) ?_
  refine nw_i hx hb (hts _ wd_44) hK hP hD hS hA 72 (by decide) (by decide) (by decide) (Nat.le_of_ble_eq_true rfl) (Nat.le_of_ble_eq_true rfl) dI8_31 (fun q4 H hP hD hS => ?_)
  have hP : va_P D vwCl [(h0, .inr (8, [.int 0, .int 0, .int 0, .int 0, .int 0, .int 0, .int 0, .int 0, .int 0, .ref q1, .ref q2, .ref q3, .null, .null, .null])), (q1, aI dA 72), (q2, aI dA 72), (q3, aI dA 72), (q4, aI dA 72)] H := hP
  have hD : va_D A [(h0, .inr (8, [.int 0, .int 0, .int 0, .int 0, .int 0, .int 0, .int 0, .int 0, .int 0, .ref q1, .ref q2, .ref q3, .null, .null, .null])), (q1, aI dA 72), (q2, aI dA 72), (q3, aI dA 72), (q4, aI dA 72)] := hD
  refine W.widen (k := 4) (n := 288) (by decide) (by decide) ?_
  refine va_putF (D := D) (ci := 8) (v := .ref q4) (ty := .array .int) (C := RX8) (T := TX8) (N := 15) hx hb hts (x_cl_words 8 _ rfl).1 tyX8 tyX8_ok nmX8 hown hK hP hD hS 0 rfl rfl 12 (by decide) (hts _ wd_337) (fun _ h9 => h9) rfl hin rfl (by decide +kernel) rfl rfl (Nat.le_of_ble_eq_true rfl) dI8_33 (fun H locs hP hD hS => ?_)
  have hP : va_P D vwCl [(h0, .inr (8, [.int 0, .int 0, .int 0, .int 0, .int 0, .int 0, .int 0, .int 0, .int 0, .ref q1, .ref q2, .ref q3, .ref q4, .null, .null])), (q1, aI dA 72), (q2, aI dA 72), (q3, aI dA 72), (q4, aI dA 72)] H := hP
  have hD : va_D A [(h0, .inr (8, [.int 0, .int 0, .int 0, .int 0, .int 0, .int 0, .int 0, .int 0, .int 0, .ref q1, .ref q2, .ref q3, .ref q4, .null, .null])), (q1, aI dA 72), (q2, aI dA 72), (q3, aI dA 72), (q4, aI dA 72)] := hD
  refine lv_aload_n hx hb dI8_36 rfl (lv_at hl 0 rfl) ?_
  refine lv_bipush (v := 72) hx hb dI8_37 (by decide) ?_
  refine nw_i hx hb (hts _ wd_44) hK hP hD hS hA 72 (by decide) (by decide) (by decide) (Nat.le_of_ble_eq_true rfl) (Nat.le_of_ble_eq_true rfl) dI8_39 (fun q5 H hP hD hS => ?_)
  have hP : va_P D vwCl [(h0, .inr (8, [.int 0, .int 0, .int 0, .int 0, .int 0, .int 0, .int 0, .int 0, .int 0, .ref q1, .ref q2, .ref q3, .ref q4, .null, .null])), (q1, aI dA 72), (q2, aI dA 72), (q3, aI dA 72), (q4, aI dA 72), (q5, aI dA 72)] H := hP
  have hD : va_D A [(h0, .inr (8, [.int 0, .int 0, .int 0, .int 0, .int 0, .int 0, .int 0, .int 0, .int 0, .ref q1, .ref q2, .ref q3, .ref q4, .null, .null])), (q1, aI dA 72), (q2, aI dA 72), (q3, aI dA 72), (q4, aI dA 72), (q5, aI dA 72)] := hD
  refine W.widen (k := 5) (n := 360) (by decide) (by decide) ?_
  refine va_putF (D := D) (ci := 8) (v := .ref q5) (ty := .array .int) (C := RX8) (T := TX8) (N := 15) hx hb hts (x_cl_words 8 _ rfl).1 tyX8 tyX8_ok nmX8 hown hK hP hD hS 0 rfl rfl 13 (by decide) (hts _ wd_338) (fun _ h9 => h9) rfl hin rfl (by decide +kernel) rfl rfl (Nat.le_of_ble_eq_true rfl) dI8_41 (fun H locs hP hD hS => ?_)
  have hP : va_P D vwCl [(h0, .inr (8, [.int 0, .int 0, .int 0, .int 0, .int 0, .int 0, .int 0, .int 0, .int 0, .ref q1, .ref q2, .ref q3, .ref q4, .ref q5, .null])), (q1, aI dA 72), (q2, aI dA 72), (q3, aI dA 72), (q4, aI dA 72), (q5, aI dA 72)] H := hP
  have hD : va_D A [(h0, .inr (8, [.int 0, .int 0, .int 0, .int 0, .int 0, .int 0, .int 0, .int 0, .int 0, .ref q1, .ref q2, .ref q3, .ref q4, .ref q5, .null])), (q1, aI dA 72), (q2, aI dA 72), (q3, aI dA 72), (q4, aI dA 72), (q5, aI dA 72)] := hD
  refine lv_aload_n hx hb dI8_44 rfl (lv_at hl 0 rfl) ?_
  refine lv_bipush (v := 72) hx hb dI8_45 (by decide) ?_
  refine nw_i hx hb (hts _ wd_44) hK hP hD hS hA 72 (by decide) (by decide) (by decide) (Nat.le_of_ble_eq_true rfl) (Nat.le_of_ble_eq_true rfl) dI8_47 (fun q6 H hP hD hS => ?_)
  have hP : va_P D vwCl [(h0, .inr (8, [.int 0, .int 0, .int 0, .int 0, .int 0, .int 0, .int 0, .int 0, .int 0, .ref q1, .ref q2, .ref q3, .ref q4, .ref q5, .null])), (q1, aI dA 72), (q2, aI dA 72), (q3, aI dA 72), (q4, aI dA 72), (q5, aI dA 72), (q6, aI dA 72)] H := hP
  have hD : va_D A [(h0, .inr (8, [.int 0, .int 0, .int 0, .int 0, .int 0, .int 0, .int 0, .int 0, .int 0, .ref q1, .ref q2, .ref q3, .ref q4, .ref q5, .null])), (q1, aI dA 72), (q2, aI dA 72), (q3, aI dA 72), (q4, aI dA 72), (q5, aI dA 72), (q6, aI dA 72)] := hD
  refine W.widen (k := 6) (n := 432) (by decide) (by decide) ?_
  refine va_putF (D := D) (ci := 8) (v := .ref q6) (ty := .array .int) (C := RX8) (T := TX8) (N := 15) hx hb hts (x_cl_words 8 _ rfl).1 tyX8 tyX8_ok nmX8 hown hK hP hD hS 0 rfl rfl 14 (by decide) (hts _ wd_339) (fun _ h9 => h9) rfl hin rfl (by decide +kernel) rfl rfl (Nat.le_of_ble_eq_true rfl) dI8_49 (fun H locs hP hD hS => ?_)
  have hP : va_P D vwCl [(h0, .inr (8, [.int 0, .int 0, .int 0, .int 0, .int 0, .int 0, .int 0, .int 0, .int 0, .ref q1, .ref q2, .ref q3, .ref q4, .ref q5, .ref q6])), (q1, aI dA 72), (q2, aI dA 72), (q3, aI dA 72), (q4, aI dA 72), (q5, aI dA 72), (q6, aI dA 72)] H := hP
  have hD : va_D A [(h0, .inr (8, [.int 0, .int 0, .int 0, .int 0, .int 0, .int 0, .int 0, .int 0, .int 0, .ref q1, .ref q2, .ref q3, .ref q4, .ref q5, .ref q6])), (q1, aI dA 72), (q2, aI dA 72), (q3, aI dA 72), (q4, aI dA 72), (q5, aI dA 72), (q6, aI dA 72)] := hD
  exact W.vret hx hb hr (fun t ht hW => ⟨⟨fun k => ([q1, q2, q3, q4, q5, q6] : List Nat).getD k 0, rfl, trivial, by rw [ht]; exact hP, va_K.moved hW.alike hK, hD⟩, hS.F ht⟩) hS.2.2 dI8_52
theorem dI1_0 : decode bI1 0 = .ok (.aload_n 0, 1) := by decide +kernel
theorem dI1_1 : decode bI1 1 = .ok (.invokespecial 3, 3) := by decide +kernel
theorem dI1_4 : decode bI1 4 = .ok (.aload_n 0, 1) := by decide +kernel
theorem dI1_5 : decode bI1 5 = .ok (.bipush 120, 2) := by decide +kernel
theorem dI1_7 : decode bI1 7 = .ok (.newarray .int, 2) := by decide +kernel
theorem dI1_9 : decode bI1 9 = .ok (.putfield 9, 3) := by decide +kernel
theorem dI1_12 : decode bI1 12 = .ok (.aload_n 0, 1) := by decide +kernel
theorem dI1_13 : decode bI1 13 = .ok (.sipush 600, 3) := by decide +kernel
theorem dI1_16 : decode bI1 16 = .ok (.newarray .int, 2) := by decide +kernel
theorem dI1_18 : decode bI1 18 = .ok (.putfield 15, 3) := by decide +kernel
theorem dI1_21 : decode bI1 21 = .ok (.aload_n 0, 1) := by decide +kernel
theorem dI1_22 : decode bI1 22 = .ok (.iconst 0, 1) := by decide +kernel
theorem dI1_23 : decode bI1 23 = .ok (.putfield 18, 3) := by decide +kernel
theorem dI1_26 : decode bI1 26 = .ok (.return_, 1) := by decide +kernel
abbrev pI1 (h0 : Nat) : va_W := [(h0, .inr (1, [.null, .null, .int 0]))]
abbrev oI1 (dA : Nat → ClassId) (h0 : Nat) (u : Nat → Nat) : va_W := [(h0, .inr (1, [.ref (u 0), .ref (u 1), .int 0])), ((u 0), aI dA 120), ((u 1), aI dA 600)]
set_option maxHeartbeats 4000000 in
set_option maxRecDepth 100000 in
theorem cI1 (l : Launch) (D : va_G) (dA : Nat → ClassId) (h0 sz : Nat) : Met l yI1 (Cond.code yI1 bI1 1 none :: x_Ts) ({ frames := 1, cells := 2, slots := 720, locals := 12 }) (va_Pc [.ref h0] (fun U => U.heap.size = sz ∧ va_P D vwCl (pI1 h0) U.heap ∧ va_K D vwCl (x_tys dA) U ∧ va_D (fun _ => True) (pI1 h0))) (va_Qv (fun _ : Nat → Nat => True) (fun u t => va_P D vwCl (oI1 dA h0 u) t.heap ∧ va_K D vwCl (x_tys dA) t ∧ va_D (va_A (pI1 h0) sz) (oI1 dA h0 u)) (va_A (pI1 h0) sz)) 2 720 (va_A (pI1 h0) sz) := by
  refine Met.ofW (cc := bI1) (maxL := 1) (ret := none) (by decide +kernel) rfl ?_
  intro p e s m args below meth c s₁ B hml hv
  obtain ⟨rfl, hsz, hP, hK, hD0⟩ := hv
  have hx := B.exec
  have hb := B.bytes
  have hr := B.returns
  have hts0 := atoms_spec (ws := Cond.code yI1 bI1 1 none :: x_Ts) B.pre
  have hts : ∀ w ∈ x_Ts, w.before _ s = true := fun w h => hts0 w (List.mem_cons_of_mem _ h)
  have hown : s.vm.findClass RX1 = some m.cls := findClass_of_methodNamed B.named
  have hlocks := B.notSynchronized
  have hin : meth.name = "<init>" := (name_of_methodNamed B.named B.method).1
  subst hsz
  have hD := hD0.self (sz := s.heap.size)
  generalize hAe : va_A (pI1 h0) s.heap.size = A at hD ⊢
  have hA : ∀ q : Nat, s.heap.size ≤ q → A q := fun q h => by rw [← hAe]; exact Or.inr h
  have hS : va_S A s.heap s.heap [] := va_S.rf
  have hl := lv_entry ([.ref h0]) (n := 1) (Nat.le_of_ble_eq_true rfl)
  rw [lg_entry_eq]
  generalize (lg_sl ([.ref h0]) ++ List.replicate (1 - (lg_sl ([.ref h0])).length) Slot.unset).toArray = ls at hl ⊢
  have hl : lv_has ls 1 [(0, .ref h0)] := hl
  refine lv_aload_n hx hb dI1_0 rfl (lv_at hl 0 rfl) ?_
  refine W.objInit hx hb hown (hts _ wd_30) (hts _ wd_23) (hts _ wd_24) rfl (by rw [hml]; exact hl.1) rfl dI1_1 (Nat.le_of_ble_eq_true rfl) (Nat.le_of_ble_eq_true rfl) ?_
  refine W.eq (g2 := F0 m 4 ls []) rfl ?_
  refine lv_aload_n hx hb dI1_4 rfl (lv_at hl 0 rfl) ?_
  refine lv_bipush (v := 120) hx hb dI1_5 (by decide) ?_
  refine nw_i hx hb (hts _ wd_44) hK hP hD hS hA 120 (by decide) (by decide) (by decide) (Nat.le_of_ble_eq_true rfl) (Nat.le_of_ble_eq_true rfl) dI1_7 (fun q1 H hP hD hS => ?_)
  have hP : va_P D vwCl [(h0, .inr (1, [.null, .null, .int 0])), (q1, aI dA 120)] H := hP
  have hD : va_D A [(h0, .inr (1, [.null, .null, .int 0])), (q1, aI dA 120)] := hD
  refine W.widen (k := 1) (n := 120) (by decide) (by decide) ?_
  refine va_putF (D := D) (ci := 1) (v := .ref q1) (ty := .array .int) (C := RX1) (T := TX1) (N := 3) hx hb hts (x_cl_words 1 _ rfl).1 tyX1 tyX1_ok nmX1 hown hK hP hD hS 0 rfl rfl 0 (by decide) (hts _ wd_31) (fun _ h9 => h9) rfl hin rfl (by decide +kernel) rfl rfl (Nat.le_of_ble_eq_true rfl) dI1_9 (fun H locs hP hD hS => ?_)
  have hP : va_P D vwCl [(h0, .inr (1, [.ref q1, .null, .int 0])), (q1, aI dA 120)] H := hP
  have hD : va_D A [(h0, .inr (1, [.ref q1, .null, .int 0])), (q1, aI dA 120)] := hD
  refine lv_aload_n hx hb dI1_12 rfl (lv_at hl 0 rfl) ?_
  refine lv_sipush (v := 600) hx hb dI1_13 (by decide) ?_
  refine nw_i hx hb (hts _ wd_44) hK hP hD hS hA 600 (by decide) (by decide) (by decide) (Nat.le_of_ble_eq_true rfl) (Nat.le_of_ble_eq_true rfl) dI1_16 (fun q2 H hP hD hS => ?_)
  have hP : va_P D vwCl [(h0, .inr (1, [.ref q1, .null, .int 0])), (q1, aI dA 120), (q2, aI dA 600)] H := hP
  have hD : va_D A [(h0, .inr (1, [.ref q1, .null, .int 0])), (q1, aI dA 120), (q2, aI dA 600)] := hD
  refine W.widen (k := 2) (n := 720) (by decide) (by decide) ?_
  refine va_putF (D := D) (ci := 1) (v := .ref q2) (ty := .array .int) (C := RX1) (T := TX1) (N := 3) hx hb hts (x_cl_words 1 _ rfl).1 tyX1 tyX1_ok nmX1 hown hK hP hD hS 0 rfl rfl 1 (by decide) (hts _ wd_33) (fun _ h9 => h9) rfl hin rfl (by decide +kernel) rfl rfl (Nat.le_of_ble_eq_true rfl) dI1_18 (fun H locs hP hD hS => ?_)
  have hP : va_P D vwCl [(h0, .inr (1, [.ref q1, .ref q2, .int 0])), (q1, aI dA 120), (q2, aI dA 600)] H := hP
  have hD : va_D A [(h0, .inr (1, [.ref q1, .ref q2, .int 0])), (q1, aI dA 120), (q2, aI dA 600)] := hD
  refine lv_aload_n hx hb dI1_21 rfl (lv_at hl 0 rfl) ?_
  refine lv_iconst (v := 0) hx hb dI1_22 (by decide) ?_
  refine va_put (D := D) (ci := 1) (v := .int 0) (ty := .int) (C := RX1) (T := TX1) (N := 3) hx hb hts (x_cl_words 1 _ rfl).1 tyX1 tyX1_ok nmX1 hown hK hP hD hS 0 rfl rfl 2 (by decide) (hts _ wd_35) (fun _ h9 => h9) rfl (by decide +kernel) rfl rfl (Nat.le_of_ble_eq_true rfl) dI1_23 (fun H locs hP hD hS => ?_)
  have hP : va_P D vwCl [(h0, .inr (1, [.ref q1, .ref q2, .int 0])), (q1, aI dA 120), (q2, aI dA 600)] H := hP
  have hD : va_D A [(h0, .inr (1, [.ref q1, .ref q2, .int 0])), (q1, aI dA 120), (q2, aI dA 600)] := hD
  exact W.vret hx hb hr (fun t ht hW => ⟨⟨fun k => ([q1, q2] : List Nat).getD k 0, rfl, trivial, by rw [ht]; exact hP, va_K.moved hW.alike hK, hD⟩, hS.F ht⟩) hS.2.2 dI1_26
theorem dI6_0 : decode bI6 0 = .ok (.aload_n 0, 1) := by decide +kernel
theorem dI6_1 : decode bI6 1 = .ok (.invokespecial 3, 3) := by decide +kernel
theorem dI6_4 : decode bI6 4 = .ok (.aload_n 0, 1) := by decide +kernel
theorem dI6_5 : decode bI6 5 = .ok (.bipush 72, 2) := by decide +kernel
theorem dI6_7 : decode bI6 7 = .ok (.newarray .int, 2) := by decide +kernel
theorem dI6_9 : decode bI6 9 = .ok (.putfield 9, 3) := by decide +kernel
theorem dI6_12 : decode bI6 12 = .ok (.aload_n 0, 1) := by decide +kernel
theorem dI6_13 : decode bI6 13 = .ok (.bipush 72, 2) := by decide +kernel
theorem dI6_15 : decode bI6 15 = .ok (.newarray .int, 2) := by decide +kernel
theorem dI6_17 : decode bI6 17 = .ok (.putfield 15, 3) := by decide +kernel
theorem dI6_20 : decode bI6 20 = .ok (.aload_n 0, 1) := by decide +kernel
theorem dI6_21 : decode bI6 21 = .ok (.bipush 72, 2) := by decide +kernel
theorem dI6_23 : decode bI6 23 = .ok (.newarray .boolean, 2) := by decide +kernel
theorem dI6_25 : decode bI6 25 = .ok (.putfield 18, 3) := by decide +kernel
theorem dI6_28 : decode bI6 28 = .ok (.aload_n 0, 1) := by decide +kernel
theorem dI6_29 : decode bI6 29 = .ok (.bipush 72, 2) := by decide +kernel
theorem dI6_31 : decode bI6 31 = .ok (.newarray .int, 2) := by decide +kernel
theorem dI6_33 : decode bI6 33 = .ok (.putfield 22, 3) := by decide +kernel
theorem dI6_36 : decode bI6 36 = .ok (.aload_n 0, 1) := by decide +kernel
theorem dI6_37 : decode bI6 37 = .ok (.bipush 72, 2) := by decide +kernel
theorem dI6_39 : decode bI6 39 = .ok (.newarray .boolean, 2) := by decide +kernel
theorem dI6_41 : decode bI6 41 = .ok (.putfield 25, 3) := by decide +kernel
theorem dI6_44 : decode bI6 44 = .ok (.aload_n 0, 1) := by decide +kernel
theorem dI6_45 : decode bI6 45 = .ok (.aload_n 1, 1) := by decide +kernel
theorem dI6_46 : decode bI6 46 = .ok (.getfield 28, 3) := by decide +kernel
theorem dI6_49 : decode bI6 49 = .ok (.putfield 34, 3) := by decide +kernel
theorem dI6_52 : decode bI6 52 = .ok (.aload_n 0, 1) := by decide +kernel
theorem dI6_53 : decode bI6 53 = .ok (.aload_n 1, 1) := by decide +kernel
theorem dI6_54 : decode bI6 54 = .ok (.putfield 35, 3) := by decide +kernel
theorem dI6_57 : decode bI6 57 = .ok (.aload_n 0, 1) := by decide +kernel
theorem dI6_58 : decode bI6 58 = .ok (.aload_n 2, 1) := by decide +kernel
theorem dI6_59 : decode bI6 59 = .ok (.getfield 39, 3) := by decide +kernel
theorem dI6_62 : decode bI6 62 = .ok (.putfield 45, 3) := by decide +kernel
theorem dI6_65 : decode bI6 65 = .ok (.aload_n 0, 1) := by decide +kernel
theorem dI6_66 : decode bI6 66 = .ok (.aload_n 2, 1) := by decide +kernel
theorem dI6_67 : decode bI6 67 = .ok (.putfield 46, 3) := by decide +kernel
theorem dI6_70 : decode bI6 70 = .ok (.aload_n 0, 1) := by decide +kernel
theorem dI6_71 : decode bI6 71 = .ok (.aload_n 3, 1) := by decide +kernel
theorem dI6_72 : decode bI6 72 = .ok (.putfield 50, 3) := by decide +kernel
theorem dI6_75 : decode bI6 75 = .ok (.aload_n 0, 1) := by decide +kernel
theorem dI6_76 : decode bI6 76 = .ok (.aload 4, 2) := by decide +kernel
theorem dI6_78 : decode bI6 78 = .ok (.putfield 54, 3) := by decide +kernel
theorem dI6_81 : decode bI6 81 = .ok (.return_, 1) := by decide +kernel
abbrev pI6 (h0 a1 a2 a3 a4 : Nat) (fl : List Value) (fp : List Value) : va_W := [(h0, .inr (6, [.null, .null, .null, .null, .null, .null, .null, .null, .null, .null, .null, .int 0, .int 0])), (a1, .inr (5, fl)), (a2, .inr (7, fp))]
abbrev oI6 (dA : Nat → ClassId) (h0 a1 a2 a3 a4 : Nat) (fl : List Value) (fp : List Value) (f1 : Nat) (r1 : Nat) (u : Nat → Nat) : va_W := [(h0, .inr (6, [.ref f1, .ref a1, .ref r1, .ref a2, .ref a3, .ref a4, .ref (u 0), .ref (u 1), .ref (u 2), .ref (u 3), .ref (u 4), .int 0, .int 0])), (a1, .inr (5, fl)), (a2, .inr (7, fp)), ((u 0), aI dA 72), ((u 1), aI dA 72), ((u 2), aZ dA 72), ((u 3), aI dA 72), ((u 4), aZ dA 72)]
set_option maxHeartbeats 4000000 in
set_option maxRecDepth 100000 in
theorem cI6 (l : Launch) (D : va_G) (dA : Nat → ClassId) (h0 a1 a2 a3 a4 sz : Nat) (fl : List Value) (fp : List Value) (f1 : Nat) (r1 : Nat) (hfl : fl[0]? = some (.ref f1)) (hfp : fp[1]? = some (.ref r1)) : Met l yI6 (Cond.code yI6 bI6 5 none :: x_Ts) ({ frames := 1, cells := 5, slots := 360, locals := 12 }) (va_Pc [.ref h0, .ref a1, .ref a2, .ref a3, .ref a4] (fun U => U.heap.size = sz ∧ va_P D vwCl (pI6 h0 a1 a2 a3 a4 fl fp) U.heap ∧ va_K D vwCl (x_tys dA) U ∧ va_D (fun _ => True) (pI6 h0 a1 a2 a3 a4 fl fp))) (va_Qv (fun _ : Nat → Nat => True) (fun u t => va_P D vwCl (oI6 dA h0 a1 a2 a3 a4 fl fp f1 r1 u) t.heap ∧ va_K D vwCl (x_tys dA) t ∧ va_D (va_A (pI6 h0 a1 a2 a3 a4 fl fp) sz) (oI6 dA h0 a1 a2 a3 a4 fl fp f1 r1 u)) (va_A (pI6 h0 a1 a2 a3 a4 fl fp) sz)) 5 360 (va_A (pI6 h0 a1 a2 a3 a4 fl fp) sz) := by
  refine Met.ofW (cc := bI6) (maxL := 5) (ret := none) (by decide +kernel) rfl ?_
  intro p e s m args below meth c s₁ B hml hv
  obtain ⟨rfl, hsz, hP, hK, hD0⟩ := hv
  have hx := B.exec
  have hb := B.bytes
  have hr := B.returns
  have hts0 := atoms_spec (ws := Cond.code yI6 bI6 5 none :: x_Ts) B.pre
  have hts : ∀ w ∈ x_Ts, w.before _ s = true := fun w h => hts0 w (List.mem_cons_of_mem _ h)
  have hown : s.vm.findClass RX6 = some m.cls := findClass_of_methodNamed B.named
  have hlocks := B.notSynchronized
  have hin : meth.name = "<init>" := (name_of_methodNamed B.named B.method).1
  subst hsz
  have hD := hD0.self (sz := s.heap.size)
  generalize hAe : va_A (pI6 h0 a1 a2 a3 a4 fl fp) s.heap.size = A at hD ⊢
  have hA : ∀ q : Nat, s.heap.size ≤ q → A q := fun q h => by rw [← hAe]; exact Or.inr h
  have hS : va_S A s.heap s.heap [] := va_S.rf
  have hl := lv_entry ([.ref h0, .ref a1, .ref a2, .ref a3, .ref a4]) (n := 5) (Nat.le_of_ble_eq_true rfl)
  rw [lg_entry_eq]
  generalize (lg_sl ([.ref h0, .ref a1, .ref a2, .ref a3, .ref a4]) ++ List.replicate (5 - (lg_sl ([.ref h0, .ref a1, .ref a2, .ref a3, .ref a4])).length) Slot.unset).toArray = ls at hl ⊢
  have hl : lv_has ls 5 [(0, .ref h0), (1, .ref a1), (2, .ref a2), (3, .ref a3), (4, .ref a4)] := hl
  refine lv_aload_n hx hb dI6_0 rfl (lv_at hl 0 rfl) ?_
  refine W.objInit hx hb hown (hts _ wd_264) (hts _ wd_23) (hts _ wd_24) rfl (by rw [hml]; exact hl.1) rfl dI6_1 (Nat.le_of_ble_eq_true rfl) (Nat.le_of_ble_eq_true rfl) ?_
  refine W.eq (g2 := F0 m 4 ls []) rfl ?_
  refine lv_aload_n hx hb dI6_4 rfl (lv_at hl 0 rfl) ?_
  refine lv_bipush (v := 72) hx hb dI6_5 (by decide) ?_
  refine nw_i hx hb (hts _ wd_44) hK hP hD hS hA 72 (by decide) (by decide) (by decide) (Nat.le_of_ble_eq_true rfl) (Nat.le_of_ble_eq_true rfl) dI6_7 (fun q1 H hP hD hS => ?_)
  have hP : va_P D vwCl [(h0, .inr (6, [.null, .null, .null, .null, .null, .null, .null, .null, .null, .null, .null, .int 0, .int 0])), (a1, .inr (5, fl)), (a2, .inr (7, fp)), (q1, aI dA 72)] H := hP
  have hD : va_D A [(h0, .inr (6, [.null, .null, .null, .null, .null, .null, .null, .null, .null, .null, .null, .int 0, .int 0])), (a1, .inr (5, fl)), (a2, .inr (7, fp)), (q1, aI dA 72)] := hD
  refine W.widen (k := 1) (n := 72) (by decide) (by decide) ?_
  refine va_putF (D := D) (ci := 6) (v := .ref q1) (ty := .array .int) (C := RX6) (T := TX6) (N := 13) hx hb hts (x_cl_words 6 _ rfl).1 tyX6 tyX6_ok nmX6 hown hK hP hD hS 0 rfl rfl 6 (by decide) (hts _ wd_271) (fun _ h9 => h9) rfl hin rfl (by decide +kernel) rfl rfl (Nat.le_of_ble_eq_true rfl) dI6_9 (fun H locs hP hD hS => ?_)
  have hP : va_P D vwCl [(h0, .inr (6, [.null, .null, .null, .null, .null, .null, .ref q1, .null, .null, .null, .null, .int 0, .int 0])), (a1, .inr (5, fl)), (a2, .inr (7, fp)), (q1, aI dA 72)] H := hP
  have hD : va_D A [(h0, .inr (6, [.null, .null, .null, .null, .null, .null, .ref q1, .null, .null, .null, .null, .int 0, .int 0])), (a1, .inr (5, fl)), (a2, .inr (7, fp)), (q1, aI dA 72)] := hD
  refine lv_aload_n hx hb dI6_12 rfl (lv_at hl 0 rfl) ?_
  refine lv_bipush (v := 72) hx hb dI6_13 (by decide) ?_
  refine nw_i hx hb (hts _ wd_44) hK hP hD hS hA 72 (by decide) (by decide) (by decide) (Nat.le_of_ble_eq_true rfl) (Nat.le_of_ble_eq_true rfl) dI6_15 (fun q2 H hP hD hS => ?_)
  have hP : va_P D vwCl [(h0, .inr (6, [.null, .null, .null, .null, .null, .null, .ref q1, .null, .null, .null, .null, .int 0, .int 0])), (a1, .inr (5, fl)), (a2, .inr (7, fp)), (q1, aI dA 72), (q2, aI dA 72)] H := hP
  have hD : va_D A [(h0, .inr (6, [.null, .null, .null, .null, .null, .null, .ref q1, .null, .null, .null, .null, .int 0, .int 0])), (a1, .inr (5, fl)), (a2, .inr (7, fp)), (q1, aI dA 72), (q2, aI dA 72)] := hD
  refine W.widen (k := 2) (n := 144) (by decide) (by decide) ?_
  refine va_putF (D := D) (ci := 6) (v := .ref q2) (ty := .array .int) (C := RX6) (T := TX6) (N := 13) hx hb hts (x_cl_words 6 _ rfl).1 tyX6 tyX6_ok nmX6 hown hK hP hD hS 0 rfl rfl 7 (by decide) (hts _ wd_272) (fun _ h9 => h9) rfl hin rfl (by decide +kernel) rfl rfl (Nat.le_of_ble_eq_true rfl) dI6_17 (fun H locs hP hD hS => ?_)
  have hP : va_P D vwCl [(h0, .inr (6, [.null, .null, .null, .null, .null, .null, .ref q1, .ref q2, .null, .null, .null, .int 0, .int 0])), (a1, .inr (5, fl)), (a2, .inr (7, fp)), (q1, aI dA 72), (q2, aI dA 72)] H := hP
  have hD : va_D A [(h0, .inr (6, [.null, .null, .null, .null, .null, .null, .ref q1, .ref q2, .null, .null, .null, .int 0, .int 0])), (a1, .inr (5, fl)), (a2, .inr (7, fp)), (q1, aI dA 72), (q2, aI dA 72)] := hD
  refine lv_aload_n hx hb dI6_20 rfl (lv_at hl 0 rfl) ?_
  refine lv_bipush (v := 72) hx hb dI6_21 (by decide) ?_
  refine nw_z hx hb (hts _ wd_96) hK hP hD hS hA 72 (by decide) (by decide) (by decide) (Nat.le_of_ble_eq_true rfl) (Nat.le_of_ble_eq_true rfl) dI6_23 (fun q3 H hP hD hS => ?_)
  have hP : va_P D vwCl [(h0, .inr (6, [.null, .null, .null, .null, .null, .null, .ref q1, .ref q2, .null, .null, .null, .int 0, .int 0])), (a1, .inr (5, fl)), (a2, .inr (7, fp)), (q1, aI dA 72), (q2, aI dA 72), (q3, aZ dA 72)] H := hP
  have hD : va_D A [(h0, .inr (6, [.null, .null, .null, .null, .null, .null, .ref q1, .ref q2, .null, .null, .null, .int 0, .int 0])), (a1, .inr (5, fl)), (a2, .inr (7, fp)), (q1, aI dA 72), (q2, aI dA 72), (q3, aZ dA 72)] := hD
  refine W.widen (k := 3) (n := 216) (by decide) (by decide) ?_
  refine va_putF (D := D) (ci := 6) (v := .ref q3) (ty := .array .boolean) (C := RX6) (T := TX6) (N := 13) hx hb hts (x_cl_words 6 _ rfl).1 tyX6 tyX6_ok nmX6 hown hK hP hD hS 0 rfl rfl 8 (by decide) (hts _ wd_273) (fun _ h9 => h9) rfl hin rfl (by decide +kernel) rfl rfl (Nat.le_of_ble_eq_true rfl) dI6_25 (fun H locs hP hD hS => ?_)
  have hP : va_P D vwCl [(h0, .inr (6, [.null, .null, .null, .null, .null, .null, .ref q1, .ref q2, .ref q3, .null, .null, .int 0, .int 0])), (a1, .inr (5, fl)), (a2, .inr (7, fp)), (q1, aI dA 72), (q2, aI dA 72), (q3, aZ dA 72)] H := hP
  have hD : va_D A [(h0, .inr (6, [.null, .null, .null, .null, .null, .null, .ref q1, .ref q2, .ref q3, .null, .null, .int 0, .int 0])), (a1, .inr (5, fl)), (a2, .inr (7, fp)), (q1, aI dA 72), (q2, aI dA 72), (q3, aZ dA 72)] := hD
  refine lv_aload_n hx hb dI6_28 rfl (lv_at hl 0 rfl) ?_
  refine lv_bipush (v := 72) hx hb dI6_29 (by decide) ?_
  refine nw_i hx hb (hts _ wd_44) hK hP hD hS hA 72 (by decide) (by decide) (by decide) (Nat.le_of_ble_eq_true rfl) (Nat.le_of_ble_eq_true rfl) dI6_31 (fun q4 H hP hD hS => ?_)
  have hP : va_P D vwCl [(h0, .inr (6, [.null, .null, .null, .null, .null, .null, .ref q1, .ref q2, .ref q3, .null, .null, .int 0, .int 0])), (a1, .inr (5, fl)), (a2, .inr (7, fp)), (q1, aI dA 72), (q2, aI dA 72), (q3, aZ dA 72), (q4, aI dA 72)] H := hP
  have hD : va_D A [(h0, .inr (6, [.null, .null, .null, .null, .null, .null, .ref q1, .ref q2, .ref q3, .null, .null, .int 0, .int 0])), (a1, .inr (5, fl)), (a2, .inr (7, fp)), (q1, aI dA 72), (q2, aI dA 72), (q3, aZ dA 72), (q4, aI dA 72)] := hD
  refine W.widen (k := 4) (n := 288) (by decide) (by decide) ?_
  refine va_putF (D := D) (ci := 6) (v := .ref q4) (ty := .array .int) (C := RX6) (T := TX6) (N := 13) hx hb hts (x_cl_words 6 _ rfl).1 tyX6 tyX6_ok nmX6 hown hK hP hD hS 0 rfl rfl 9 (by decide) (hts _ wd_274) (fun _ h9 => h9) rfl hin rfl (by decide +kernel) rfl rfl (Nat.le_of_ble_eq_true rfl) dI6_33 (fun H locs hP hD hS => ?_)
  have hP : va_P D vwCl [(h0, .inr (6, [.null, .null, .null, .null, .null, .null, .ref q1, .ref q2, .ref q3, .ref q4, .null, .int 0, .int 0])), (a1, .inr (5, fl)), (a2, .inr (7, fp)), (q1, aI dA 72), (q2, aI dA 72), (q3, aZ dA 72), (q4, aI dA 72)] H := hP
  have hD : va_D A [(h0, .inr (6, [.null, .null, .null, .null, .null, .null, .ref q1, .ref q2, .ref q3, .ref q4, .null, .int 0, .int 0])), (a1, .inr (5, fl)), (a2, .inr (7, fp)), (q1, aI dA 72), (q2, aI dA 72), (q3, aZ dA 72), (q4, aI dA 72)] := hD
  refine lv_aload_n hx hb dI6_36 rfl (lv_at hl 0 rfl) ?_
  refine lv_bipush (v := 72) hx hb dI6_37 (by decide) ?_
  refine nw_z hx hb (hts _ wd_96) hK hP hD hS hA 72 (by decide) (by decide) (by decide) (Nat.le_of_ble_eq_true rfl) (Nat.le_of_ble_eq_true rfl) dI6_39 (fun q5 H hP hD hS => ?_)
  have hP : va_P D vwCl [(h0, .inr (6, [.null, .null, .null, .null, .null, .null, .ref q1, .ref q2, .ref q3, .ref q4, .null, .int 0, .int 0])), (a1, .inr (5, fl)), (a2, .inr (7, fp)), (q1, aI dA 72), (q2, aI dA 72), (q3, aZ dA 72), (q4, aI dA 72), (q5, aZ dA 72)] H := hP
  have hD : va_D A [(h0, .inr (6, [.null, .null, .null, .null, .null, .null, .ref q1, .ref q2, .ref q3, .ref q4, .null, .int 0, .int 0])), (a1, .inr (5, fl)), (a2, .inr (7, fp)), (q1, aI dA 72), (q2, aI dA 72), (q3, aZ dA 72), (q4, aI dA 72), (q5, aZ dA 72)] := hD
  refine W.widen (k := 5) (n := 360) (by decide) (by decide) ?_
  refine va_putF (D := D) (ci := 6) (v := .ref q5) (ty := .array .boolean) (C := RX6) (T := TX6) (N := 13) hx hb hts (x_cl_words 6 _ rfl).1 tyX6 tyX6_ok nmX6 hown hK hP hD hS 0 rfl rfl 10 (by decide) (hts _ wd_275) (fun _ h9 => h9) rfl hin rfl (by decide +kernel) rfl rfl (Nat.le_of_ble_eq_true rfl) dI6_41 (fun H locs hP hD hS => ?_)
  have hP : va_P D vwCl [(h0, .inr (6, [.null, .null, .null, .null, .null, .null, .ref q1, .ref q2, .ref q3, .ref q4, .ref q5, .int 0, .int 0])), (a1, .inr (5, fl)), (a2, .inr (7, fp)), (q1, aI dA 72), (q2, aI dA 72), (q3, aZ dA 72), (q4, aI dA 72), (q5, aZ dA 72)] H := hP
  have hD : va_D A [(h0, .inr (6, [.null, .null, .null, .null, .null, .null, .ref q1, .ref q2, .ref q3, .ref q4, .ref q5, .int 0, .int 0])), (a1, .inr (5, fl)), (a2, .inr (7, fp)), (q1, aI dA 72), (q2, aI dA 72), (q3, aZ dA 72), (q4, aI dA 72), (q5, aZ dA 72)] := hD
  refine lv_aload_n hx hb dI6_44 rfl (lv_at hl 0 rfl) ?_
  refine lv_aload_n hx hb dI6_45 rfl (lv_at hl 1 rfl) ?_
  refine va_get (D := D) (ci := 5) (v := .ref f1) (C := RX5) (T := TX5) (N := 7) hx hb hts (x_cl_words 5 _ rfl).1 hown hK hP 1 rfl rfl 0 (by decide) (hts _ wd_67) (fun _ h9 => h9) hfl dI6_46 ?_
  refine va_putF (D := D) (ci := 6) (v := .ref f1) (ty := .object "CueBoard$Findings") (C := RX6) (T := TX6) (N := 13) hx hb hts (x_cl_words 6 _ rfl).1 tyX6 tyX6_ok nmX6 hown hK hP hD hS 0 rfl rfl 0 (by decide) (hts _ wd_265) (fun _ h9 => h9) rfl hin rfl (by decide +kernel) rfl rfl (Nat.le_of_ble_eq_true rfl) dI6_49 (fun H locs hP hD hS => ?_)
  have hP : va_P D vwCl [(h0, .inr (6, [.ref f1, .null, .null, .null, .null, .null, .ref q1, .ref q2, .ref q3, .ref q4, .ref q5, .int 0, .int 0])), (a1, .inr (5, fl)), (a2, .inr (7, fp)), (q1, aI dA 72), (q2, aI dA 72), (q3, aZ dA 72), (q4, aI dA 72), (q5, aZ dA 72)] H := hP
  have hD : va_D A [(h0, .inr (6, [.ref f1, .null, .null, .null, .null, .null, .ref q1, .ref q2, .ref q3, .ref q4, .ref q5, .int 0, .int 0])), (a1, .inr (5, fl)), (a2, .inr (7, fp)), (q1, aI dA 72), (q2, aI dA 72), (q3, aZ dA 72), (q4, aI dA 72), (q5, aZ dA 72)] := hD
  refine lv_aload_n hx hb dI6_52 rfl (lv_at hl 0 rfl) ?_
  refine lv_aload_n hx hb dI6_53 rfl (lv_at hl 1 rfl) ?_
  refine va_putF (D := D) (ci := 6) (v := .ref a1) (ty := .object "CueBoard$Lines") (C := RX6) (T := TX6) (N := 13) hx hb hts (x_cl_words 6 _ rfl).1 tyX6 tyX6_ok nmX6 hown hK hP hD hS 0 rfl rfl 1 (by decide) (hts _ wd_266) (fun _ h9 => h9) rfl hin rfl (by decide +kernel) rfl rfl (Nat.le_of_ble_eq_true rfl) dI6_54 (fun H locs hP hD hS => ?_)
  have hP : va_P D vwCl [(h0, .inr (6, [.ref f1, .ref a1, .null, .null, .null, .null, .ref q1, .ref q2, .ref q3, .ref q4, .ref q5, .int 0, .int 0])), (a1, .inr (5, fl)), (a2, .inr (7, fp)), (q1, aI dA 72), (q2, aI dA 72), (q3, aZ dA 72), (q4, aI dA 72), (q5, aZ dA 72)] H := hP
  have hD : va_D A [(h0, .inr (6, [.ref f1, .ref a1, .null, .null, .null, .null, .ref q1, .ref q2, .ref q3, .ref q4, .ref q5, .int 0, .int 0])), (a1, .inr (5, fl)), (a2, .inr (7, fp)), (q1, aI dA 72), (q2, aI dA 72), (q3, aZ dA 72), (q4, aI dA 72), (q5, aZ dA 72)] := hD
  refine lv_aload_n hx hb dI6_57 rfl (lv_at hl 0 rfl) ?_
  refine lv_aload_n hx hb dI6_58 rfl (lv_at hl 2 rfl) ?_
  refine va_get (D := D) (ci := 7) (v := .ref r1) (C := RX7) (T := TX7) (N := 7) hx hb hts (x_cl_words 7 _ rfl).1 hown hK hP 2 rfl rfl 1 (by decide) (hts _ wd_160) (fun _ h9 => h9) hfp dI6_59 ?_
  refine va_putF (D := D) (ci := 6) (v := .ref r1) (ty := .object "CueBoard$Rig") (C := RX6) (T := TX6) (N := 13) hx hb hts (x_cl_words 6 _ rfl).1 tyX6 tyX6_ok nmX6 hown hK hP hD hS 0 rfl rfl 2 (by decide) (hts _ wd_267) (fun _ h9 => h9) rfl hin rfl (by decide +kernel) rfl rfl (Nat.le_of_ble_eq_true rfl) dI6_62 (fun H locs hP hD hS => ?_)
  have hP : va_P D vwCl [(h0, .inr (6, [.ref f1, .ref a1, .ref r1, .null, .null, .null, .ref q1, .ref q2, .ref q3, .ref q4, .ref q5, .int 0, .int 0])), (a1, .inr (5, fl)), (a2, .inr (7, fp)), (q1, aI dA 72), (q2, aI dA 72), (q3, aZ dA 72), (q4, aI dA 72), (q5, aZ dA 72)] H := hP
  have hD : va_D A [(h0, .inr (6, [.ref f1, .ref a1, .ref r1, .null, .null, .null, .ref q1, .ref q2, .ref q3, .ref q4, .ref q5, .int 0, .int 0])), (a1, .inr (5, fl)), (a2, .inr (7, fp)), (q1, aI dA 72), (q2, aI dA 72), (q3, aZ dA 72), (q4, aI dA 72), (q5, aZ dA 72)] := hD
  refine lv_aload_n hx hb dI6_65 rfl (lv_at hl 0 rfl) ?_
  refine lv_aload_n hx hb dI6_66 rfl (lv_at hl 2 rfl) ?_
  refine va_putF (D := D) (ci := 6) (v := .ref a2) (ty := .object "CueBoard$Patching") (C := RX6) (T := TX6) (N := 13) hx hb hts (x_cl_words 6 _ rfl).1 tyX6 tyX6_ok nmX6 hown hK hP hD hS 0 rfl rfl 3 (by decide) (hts _ wd_268) (fun _ h9 => h9) rfl hin rfl (by decide +kernel) rfl rfl (Nat.le_of_ble_eq_true rfl) dI6_67 (fun H locs hP hD hS => ?_)
  have hP : va_P D vwCl [(h0, .inr (6, [.ref f1, .ref a1, .ref r1, .ref a2, .null, .null, .ref q1, .ref q2, .ref q3, .ref q4, .ref q5, .int 0, .int 0])), (a1, .inr (5, fl)), (a2, .inr (7, fp)), (q1, aI dA 72), (q2, aI dA 72), (q3, aZ dA 72), (q4, aI dA 72), (q5, aZ dA 72)] H := hP
  have hD : va_D A [(h0, .inr (6, [.ref f1, .ref a1, .ref r1, .ref a2, .null, .null, .ref q1, .ref q2, .ref q3, .ref q4, .ref q5, .int 0, .int 0])), (a1, .inr (5, fl)), (a2, .inr (7, fp)), (q1, aI dA 72), (q2, aI dA 72), (q3, aZ dA 72), (q4, aI dA 72), (q5, aZ dA 72)] := hD
  refine lv_aload_n hx hb dI6_70 rfl (lv_at hl 0 rfl) ?_
  refine lv_aload_n hx hb dI6_71 rfl (lv_at hl 3 rfl) ?_
  refine va_putF (D := D) (ci := 6) (v := .ref a3) (ty := .object "CueBoard$Curves") (C := RX6) (T := TX6) (N := 13) hx hb hts (x_cl_words 6 _ rfl).1 tyX6 tyX6_ok nmX6 hown hK hP hD hS 0 rfl rfl 4 (by decide) (hts _ wd_269) (fun _ h9 => h9) rfl hin rfl (by decide +kernel) rfl rfl (Nat.le_of_ble_eq_true rfl) dI6_72 (fun H locs hP hD hS => ?_)
  have hP : va_P D vwCl [(h0, .inr (6, [.ref f1, .ref a1, .ref r1, .ref a2, .ref a3, .null, .ref q1, .ref q2, .ref q3, .ref q4, .ref q5, .int 0, .int 0])), (a1, .inr (5, fl)), (a2, .inr (7, fp)), (q1, aI dA 72), (q2, aI dA 72), (q3, aZ dA 72), (q4, aI dA 72), (q5, aZ dA 72)] H := hP
  have hD : va_D A [(h0, .inr (6, [.ref f1, .ref a1, .ref r1, .ref a2, .ref a3, .null, .ref q1, .ref q2, .ref q3, .ref q4, .ref q5, .int 0, .int 0])), (a1, .inr (5, fl)), (a2, .inr (7, fp)), (q1, aI dA 72), (q2, aI dA 72), (q3, aZ dA 72), (q4, aI dA 72), (q5, aZ dA 72)] := hD
  refine lv_aload_n hx hb dI6_75 rfl (lv_at hl 0 rfl) ?_
  refine lv_aload hx hb dI6_76 (lv_at hl 4 rfl) ?_
  refine va_putF (D := D) (ci := 6) (v := .ref a4) (ty := .array (.object "CueBoard$Playback")) (C := RX6) (T := TX6) (N := 13) hx hb hts (x_cl_words 6 _ rfl).1 tyX6 tyX6_ok nmX6 hown hK hP hD hS 0 rfl rfl 5 (by decide) (hts _ wd_270) (fun _ h9 => h9) rfl hin rfl (by decide +kernel) rfl rfl (Nat.le_of_ble_eq_true rfl) dI6_78 (fun H locs hP hD hS => ?_)
  have hP : va_P D vwCl [(h0, .inr (6, [.ref f1, .ref a1, .ref r1, .ref a2, .ref a3, .ref a4, .ref q1, .ref q2, .ref q3, .ref q4, .ref q5, .int 0, .int 0])), (a1, .inr (5, fl)), (a2, .inr (7, fp)), (q1, aI dA 72), (q2, aI dA 72), (q3, aZ dA 72), (q4, aI dA 72), (q5, aZ dA 72)] H := hP
  have hD : va_D A [(h0, .inr (6, [.ref f1, .ref a1, .ref r1, .ref a2, .ref a3, .ref a4, .ref q1, .ref q2, .ref q3, .ref q4, .ref q5, .int 0, .int 0])), (a1, .inr (5, fl)), (a2, .inr (7, fp)), (q1, aI dA 72), (q2, aI dA 72), (q3, aZ dA 72), (q4, aI dA 72), (q5, aZ dA 72)] := hD
  exact W.vret hx hb hr (fun t ht hW => ⟨⟨fun k => ([q1, q2, q3, q4, q5] : List Nat).getD k 0, rfl, trivial, by rw [ht]; exact hP, va_K.moved hW.alike hK, hD⟩, hS.F ht⟩) hS.2.2 dI6_81
