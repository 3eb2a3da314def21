/-! Printed by wip/p1/gen.py: the classes' words, field by field -/
theorem ev_ws_of {C : String} {T : u_T} {N : Nat} (pls : List Nat) (h : (u_ws C T N).map some = pls.map ev_pl) (hg : (u_ws C T N).all goodWord = true) : ∀ w ∈ u_ws C T N, w ∈ ev_Ts := by
  intro w hw
  have h1 : some w ∈ pls.map ev_pl := by rw [← h]; exact List.mem_map.mpr ⟨w, hw, rfl⟩
  obtain ⟨pl, -, h2⟩ := List.mem_map.mp h1
  exact List.mem_filter.mpr ⟨ev_pl_mem h2, List.all_eq_true.mp hg w hw⟩
def ev_pure : ev_V → Bool
  | .inl .null => true
  | .inl (.int _) => true
  | .inl (.long _) => true
  | _ => false
def ev_val : ev_V → Value
  | .inl w => w
  | _ => .null
theorem ev_st_pure {al : List Nat} {ex : Nat → Nat} : ∀ fs : List ev_V, fs.all ev_pure = true → ev_st al ex fs (fs.map ev_val)
  | [], _ => trivial
  | x :: fs, h => by
    simp only [List.all_cons, Bool.and_eq_true] at h
    refine ⟨?_, ev_st_pure fs h.2⟩
    have h1 := h.1
    rcases x with (z | o)
    · cases z <;> first | rfl | (simp [ev_pure] at h1; done)
    · simp [ev_pure] at h1
set_option maxRecDepth 20000 in
theorem ev_cok0 : ev_cok 0 := by
  intro C T N h
  have h : some (ev_R0, ev_T0, 14) = some (C, T, N) := h
  cases h
  refine ⟨ev_ws_of [4165, 4167, 4169, 4171, 4173, 4175, 4177, 4179, 4181, 4183, 4185, 4187, 4189, 4191] (by decide +kernel) (by decide +kernel), by decide +kernel, by decide +kernel, by decide +kernel, fun fs hf => ?_⟩
  have hf : some [.inl .null, .inl (.int 0), .inl (.int 0), .inl (.int 0), .inl .null, .inl .null, .inl .null, .inl .null, .inl .null, .inl .null, .inl .null, .inl .null, .inl (.int 0), .inl (.int 0)] = some fs := hf
  cases hf
  exact ⟨rfl, _, (by decide +kernel : ∀ j, j < 14 → defaultValue (ev_Y 0 j) = vp_V ((ev_fds.getD 0 []).map ev_val) j), fun al ex => ev_st_pure (ev_fds.getD 0 []) (by decide +kernel)⟩
set_option maxRecDepth 20000 in
theorem ev_cok1 : ev_cok 1 := by
  intro C T N h
  have h : some (ev_R1, ev_T1, 57) = some (C, T, N) := h
  cases h
  refine ⟨ev_ws_of [13081, 13083, 13085, 13087, 13089, 13091, 13093, 13095, 13097, 13099, 13101, 13103, 13105, 13107, 13109, 13111, 13113, 13115, 13117, 13119, 13121, 13123, 13125, 13127, 13129, 13131, 13133, 13135, 13137, 13139, 13141, 13143, 13145, 13147, 13149, 13151, 13153, 13155, 13157, 13159, 13161, 13163, 13165, 13167, 13169, 13171, 13173, 13175, 13177, 13179, 13181, 13183, 13185, 13187, 13189, 13191, 13193] (by decide +kernel) (by decide +kernel), by decide +kernel, by decide +kernel, by decide +kernel, fun fs hf => ?_⟩
  have hf : some [.inl (.int 0), .inl .null, .inl (.int 0), .inl (.int 0), .inl .null, .inl .null, .inl (.int 0), .inl (.int 0), .inl (.int 0), .inl (.int 0), .inl (.int 0), .inl .null, .inl (.int 0), .inl .null, .inl .null, .inl (.int 0), .inl .null, .inl (.int 0), .inl .null, .inl (.int 0), .inl (.int 0), .inl (.int 0), .inl .null, .inl (.int 0), .inl .null, .inl .null, .inl .null, .inl .null, .inl (.int 0), .inl .null, .inl .null, .inl .null, .inl .null, .inl .null, .inl .null, .inl .null, .inl (.int 0), .inl .null, .inl (.int 0), .inl (.int 0), .inl .null, .inl .null, .inl (.long 0), .inl .null, .inl .null, .inl (.int 0), .inl (.int 0), .inl (.int 0), .inl (.int 0), .inl .null, .inl (.int 0), .inl .null, .inl (.int 0), .inl .null, .inl .null, .inl (.int 0), .inl (.int 0)] = some fs := hf
  cases hf
  exact ⟨rfl, _, (by decide +kernel : ∀ j, j < 57 → defaultValue (ev_Y 1 j) = vp_V ((ev_fds.getD 1 []).map ev_val) j), fun al ex => ev_st_pure (ev_fds.getD 1 []) (by decide +kernel)⟩
set_option maxRecDepth 20000 in
theorem ev_cok2 : ev_cok 2 := by
  intro C T N h
  have h : some (ev_R2, ev_T2, 23) = some (C, T, N) := h
  cases h
  refine ⟨ev_ws_of [4020, 4022, 4024, 4026, 4028, 4030, 4032, 4034, 4036, 4038, 4040, 4042, 4044, 4046, 4048, 4050, 4052, 4054, 4056, 4058, 4060, 4062, 4064] (by decide +kernel) (by decide +kernel), by decide +kernel, by decide +kernel, by decide +kernel, fun fs hf => ?_⟩
  have hf : some [.inl .null, .inl .null, .inl .null, .inl .null, .inl .null, .inl .null, .inl .null, .inl .null, .inl .null, .inl (.int 0), .inl .null, .inl .null, .inl .null, .inl .null, .inl (.int 0), .inl (.int 0), .inl (.int 0), .inl (.int 0), .inl (.int 0), .inl (.int 0), .inl (.int 0), .inl (.int 0), .inl (.int 0)] = some fs := hf
  cases hf
  exact ⟨rfl, _, (by decide +kernel : ∀ j, j < 23 → defaultValue (ev_Y 2 j) = vp_V ((ev_fds.getD 2 []).map ev_val) j), fun al ex => ev_st_pure (ev_fds.getD 2 []) (by decide +kernel)⟩
set_option maxRecDepth 20000 in
theorem ev_cok3 : ev_cok 3 := by
  intro C T N h
  have h : some (ev_R3, ev_T3, 4) = some (C, T, N) := h
  cases h
  refine ⟨ev_ws_of [2122, 2124, 2126, 2128] (by decide +kernel) (by decide +kernel), by decide +kernel, by decide +kernel, by decide +kernel, fun fs hf => ?_⟩
  have hf : some [.inl .null, .inl .null, .inl .null, .inl .null] = some fs := hf
  cases hf
  exact ⟨rfl, _, (by decide +kernel : ∀ j, j < 4 → defaultValue (ev_Y 3 j) = vp_V ((ev_fds.getD 3 []).map ev_val) j), fun al ex => ev_st_pure (ev_fds.getD 3 []) (by decide +kernel)⟩
set_option maxRecDepth 20000 in
theorem ev_cok4 : ev_cok 4 := by
  intro C T N h
  have h : some (ev_R4, ev_T4, 12) = some (C, T, N) := h
  cases h
  refine ⟨ev_ws_of [2024, 2026, 2028, 2030, 2032, 2034, 2036, 2038, 2040, 2042, 2044, 2046] (by decide +kernel) (by decide +kernel), by decide +kernel, by decide +kernel, by decide +kernel, fun fs hf => ?_⟩
  have hf : some [.inl .null, .inl (.int 0), .inl (.int 0), .inl (.int 0), .inl (.int 0), .inl .null, .inl .null, .inl .null, .inl (.int 0), .inl .null, .inl .null, .inl (.int 0)] = some fs := hf
  cases hf
  exact ⟨rfl, _, (by decide +kernel : ∀ j, j < 12 → defaultValue (ev_Y 4 j) = vp_V ((ev_fds.getD 4 []).map ev_val) j), fun al ex => ev_st_pure (ev_fds.getD 4 []) (by decide +kernel)⟩
set_option maxRecDepth 20000 in
theorem ev_cok5 : ev_cok 5 := by
  intro C T N h
  have h : some (ev_R5, ev_T5, 22) = some (C, T, N) := h
  cases h
  refine ⟨ev_ws_of [2195, 2197, 2199, 2201, 2203, 2205, 2207, 2209, 2211, 2213, 2215, 2217, 2219, 2221, 2223, 2225, 2227, 2229, 2231, 2233, 2235, 2237] (by decide +kernel) (by decide +kernel), by decide +kernel, by decide +kernel, by decide +kernel, fun fs hf => ?_⟩
  have hf : some [.inl .null, .inl .null, .inl .null, .inl .null, .inl (.int 0), .inl (.int 0), .inl (.int 0), .inl (.int 0), .inl .null, .inl .null, .inl .null, .inl .null, .inl .null, .inl .null, .inl (.int 0), .inl .null, .inl (.int 0), .inl (.int 0), .inl (.int 0), .inl (.int 0), .inl (.int 0), .inl (.int 0)] = some fs := hf
  cases hf
  exact ⟨rfl, _, (by decide +kernel : ∀ j, j < 22 → defaultValue (ev_Y 5 j) = vp_V ((ev_fds.getD 5 []).map ev_val) j), fun al ex => ev_st_pure (ev_fds.getD 5 []) (by decide +kernel)⟩
set_option maxRecDepth 20000 in
theorem ev_cok6 : ev_cok 6 := by
  intro C T N h
  have h : some (ev_R6, ev_T6, 19) = some (C, T, N) := h
  cases h
  refine ⟨ev_ws_of [1149, 1151, 1153, 1155, 1157, 1159, 1161, 1163, 1165, 1167, 1169, 1171, 1173, 1175, 1177, 1179, 1181, 1183, 1185] (by decide +kernel) (by decide +kernel), by decide +kernel, by decide +kernel, by decide +kernel, fun fs hf => ?_⟩
  have hf : some [.inl .null, .inl .null, .inl .null, .inl .null, .inl .null, .inl .null, .inl .null, .inl .null, .inl .null, .inl .null, .inl .null, .inl .null, .inl .null, .inl .null, .inl .null, .inl .null, .inl .null, .inl .null, .inl .null] = some fs := hf
  cases hf
  exact ⟨rfl, _, (by decide +kernel : ∀ j, j < 19 → defaultValue (ev_Y 6 j) = vp_V ((ev_fds.getD 6 []).map ev_val) j), fun al ex => ev_st_pure (ev_fds.getD 6 []) (by decide +kernel)⟩
set_option maxRecDepth 20000 in
theorem ev_cok7 : ev_cok 7 := by
  intro C T N h
  have h : some (ev_R7, ev_T7, 12) = some (C, T, N) := h
  cases h
  refine ⟨ev_ws_of [2063, 2065, 2067, 2069, 2071, 2073, 2075, 2077, 2079, 2081, 2083, 2085] (by decide +kernel) (by decide +kernel), by decide +kernel, by decide +kernel, by decide +kernel, fun fs hf => ?_⟩
  have hf : some [.inl .null, .inl .null, .inl .null, .inl (.int 0), .inl (.int 0), .inl (.int 0), .inl (.int 0), .inl (.int 0), .inl (.int 0), .inl (.int 0), .inl (.int 0), .inl (.int 0)] = some fs := hf
  cases hf
  exact ⟨rfl, _, (by decide +kernel : ∀ j, j < 12 → defaultValue (ev_Y 7 j) = vp_V ((ev_fds.getD 7 []).map ev_val) j), fun al ex => ev_st_pure (ev_fds.getD 7 []) (by decide +kernel)⟩
set_option maxRecDepth 20000 in
theorem ev_cok8 : ev_cok 8 := by
  intro C T N h
  have h : some (ev_R8, ev_T8, 23) = some (C, T, N) := h
  cases h
  refine ⟨ev_ws_of [4104, 4106, 4108, 4110, 4112, 4114, 4116, 4118, 4120, 4122, 4124, 4126, 4128, 4130, 4132, 4134, 4136, 4138, 4140, 4142, 4144, 4146, 4148] (by decide +kernel) (by decide +kernel), by decide +kernel, by decide +kernel, by decide +kernel, fun fs hf => ?_⟩
  have hf : some [.inl .null, .inl .null, .inl .null, .inl .null, .inl (.int 0), .inl .null, .inl .null, .inl .null, .inl .null, .inl .null, .inl (.int 0), .inl (.int 0), .inl (.int 0), .inl (.int 0), .inl (.int 0), .inl (.int 0), .inl (.int 0), .inl (.int 0), .inl (.int 0), .inl (.int 0), .inl (.int 0), .inl (.int 0), .inl .null] = some fs := hf
  cases hf
  exact ⟨rfl, _, (by decide +kernel : ∀ j, j < 23 → defaultValue (ev_Y 8 j) = vp_V ((ev_fds.getD 8 []).map ev_val) j), fun al ex => ev_st_pure (ev_fds.getD 8 []) (by decide +kernel)⟩
set_option maxRecDepth 20000 in
theorem ev_cok9 : ev_cok 9 := by
  intro C T N h
  have h : some (ev_R9, ev_T9, 24) = some (C, T, N) := h
  cases h
  refine ⟨ev_ws_of [3178, 3180, 3182, 3184, 3192, 3194, 3196, 3198, 3200, 3202, 3204, 3206, 3208, 3210, 3212, 3214, 3216, 3218, 3220, 3222, 3224, 3188, 3190, 3186] (by decide +kernel) (by decide +kernel), by decide +kernel, by decide +kernel, by decide +kernel, fun fs hf => ?_⟩
  have hf : some [.inl .null, .inl .null, .inl .null, .inl .null, .inl .null, .inl (.int 0), .inl .null, .inl .null, .inl .null, .inl .null, .inl .null, .inl (.int 0), .inl .null, .inl .null, .inl .null, .inl .null, .inl .null, .inl .null, .inl .null, .inl (.int 0), .inl (.int 0), .inl (.int 0), .inl (.int 0), .inl .null] = some fs := hf
  cases hf
  exact ⟨rfl, _, (by decide +kernel : ∀ j, j < 24 → defaultValue (ev_Y 9 j) = vp_V ((ev_fds.getD 9 []).map ev_val) j), fun al ex => ev_st_pure (ev_fds.getD 9 []) (by decide +kernel)⟩
set_option maxRecDepth 20000 in
theorem ev_cok10 : ev_cok 10 := by
  intro C T N h
  have h : some (ev_R10, ev_T10, 3) = some (C, T, N) := h
  cases h
  refine ⟨ev_ws_of [1074, 1076, 1078] (by decide +kernel) (by decide +kernel), by decide +kernel, by decide +kernel, by decide +kernel, fun fs hf => ?_⟩
  have hf : some [.inl (.int 0), .inl .null, .inl (.int 0)] = some fs := hf
  cases hf
  exact ⟨rfl, _, (by decide +kernel : ∀ j, j < 3 → defaultValue (ev_Y 10 j) = vp_V ((ev_fds.getD 10 []).map ev_val) j), fun al ex => ev_st_pure (ev_fds.getD 10 []) (by decide +kernel)⟩
set_option maxRecDepth 20000 in
theorem ev_cok11 : ev_cok 11 := by
  intro C T N h
  have h : some (ev_R11, ev_T11, 9) = some (C, T, N) := h
  cases h
  refine ⟨ev_ws_of [3022, 3024, 3026, 3032, 3034, 3036, 3038, 3028, 3030] (by decide +kernel) (by decide +kernel), by decide +kernel, by decide +kernel, by decide +kernel, fun fs hf => ?_⟩
  have hf : some [.inl .null, .inl (.int 0), .inl (.int 0), .inl .null, .inl .null, .inl (.int 0), .inl .null, .inl (.int 0), .inl (.int 0)] = some fs := hf
  cases hf
  exact ⟨rfl, _, (by decide +kernel : ∀ j, j < 9 → defaultValue (ev_Y 11 j) = vp_V ((ev_fds.getD 11 []).map ev_val) j), fun al ex => ev_st_pure (ev_fds.getD 11 []) (by decide +kernel)⟩
set_option maxRecDepth 20000 in
theorem ev_cok12 : ev_cok 12 := by
  intro C T N h
  have h : some (ev_R12, ev_T12, 4) = some (C, T, N) := h
  cases h
  refine ⟨ev_ws_of [2107, 2109, 2111, 2113] (by decide +kernel) (by decide +kernel), by decide +kernel, by decide +kernel, by decide +kernel, fun fs hf => ?_⟩
  have hf : some [.inl .null, .inl .null, .inl .null, .inl (.int 0)] = some fs := hf
  cases hf
  exact ⟨rfl, _, (by decide +kernel : ∀ j, j < 4 → defaultValue (ev_Y 12 j) = vp_V ((ev_fds.getD 12 []).map ev_val) j), fun al ex => ev_st_pure (ev_fds.getD 12 []) (by decide +kernel)⟩
set_option maxRecDepth 20000 in
theorem ev_cok13 : ev_cok 13 := by
  intro C T N h
  have h : some (ev_R13, ev_T13, 20) = some (C, T, N) := h
  cases h
  refine ⟨ev_ws_of [3098, 3100, 3102, 3104, 3106, 3108, 3110, 3112, 3114, 3116, 3118, 3120, 3122, 3124, 3126, 3128, 3130, 3132, 3134, 3136] (by decide +kernel) (by decide +kernel), by decide +kernel, by decide +kernel, by decide +kernel, fun fs hf => ?_⟩
  have hf : some [.inl .null, .inl .null, .inl .null, .inl .null, .inl (.int 0), .inl .null, .inl .null, .inl .null, .inl .null, .inl (.int 0), .inl (.int 0), .inl (.int 0), .inl (.int 0), .inl (.int 0), .inl .null, .inl .null, .inl .null, .inl .null, .inl .null, .inl (.int 0)] = some fs := hf
  cases hf
  exact ⟨rfl, _, (by decide +kernel : ∀ j, j < 20 → defaultValue (ev_Y 13 j) = vp_V ((ev_fds.getD 13 []).map ev_val) j), fun al ex => ev_st_pure (ev_fds.getD 13 []) (by decide +kernel)⟩
set_option maxRecDepth 20000 in
theorem ev_cok14 : ev_cok 14 := by
  intro C T N h
  have h : some (ev_R14, ev_T14, 1) = some (C, T, N) := h
  cases h
  refine ⟨ev_ws_of [13019] (by decide +kernel) (by decide +kernel), by decide +kernel, by decide +kernel, by decide +kernel, fun fs hf => ?_⟩
  have hf : some [.inl .null] = some fs := hf
  cases hf
  exact ⟨rfl, _, (by decide +kernel : ∀ j, j < 1 → defaultValue (ev_Y 14 j) = vp_V ((ev_fds.getD 14 []).map ev_val) j), fun al ex => ev_st_pure (ev_fds.getD 14 []) (by decide +kernel)⟩
set_option maxRecDepth 20000 in
theorem ev_cok15 : ev_cok 15 := by
  intro C T N h
  have h : some (ev_R15, ev_T15, 6) = some (C, T, N) := h
  cases h
  refine ⟨ev_ws_of [15150, 15152, 15154, 15156, 15158, 15160] (by decide +kernel) (by decide +kernel), by decide +kernel, by decide +kernel, by decide +kernel, fun fs hf => ?_⟩
  have hf : some [.inl .null, .inl .null, .inl (.int 0), .inl .null, .inl .null, .inl .null] = some fs := hf
  cases hf
  exact ⟨rfl, _, (by decide +kernel : ∀ j, j < 6 → defaultValue (ev_Y 15 j) = vp_V ((ev_fds.getD 15 []).map ev_val) j), fun al ex => ev_st_pure (ev_fds.getD 15 []) (by decide +kernel)⟩
set_option maxRecDepth 20000 in
theorem ev_cok16 : ev_cok 16 := by
  intro C T N h
  have h : some (ev_R16, ev_T16, 18) = some (C, T, N) := h
  cases h
  refine ⟨ev_ws_of [15049, 15051, 15053, 15055, 15057, 15059, 15061, 15063, 15065, 15067, 15069, 15071, 15073, 15075, 15077, 15079, 15081, 15083] (by decide +kernel) (by decide +kernel), by decide +kernel, by decide +kernel, by decide +kernel, fun fs hf => ?_⟩
  have hf : some [.inl .null, .inl (.int 0), .inl (.int 0), .inl .null, .inl .null, .inl (.int 0), .inl (.int 0), .inl .null, .inl .null, .inl (.int 0), .inl .null, .inl .null, .inl (.int 0), .inl .null, .inl .null, .inl (.int 0), .inl .null, .inl (.int 0)] = some fs := hf
  cases hf
  exact ⟨rfl, _, (by decide +kernel : ∀ j, j < 18 → defaultValue (ev_Y 16 j) = vp_V ((ev_fds.getD 16 []).map ev_val) j), fun al ex => ev_st_pure (ev_fds.getD 16 []) (by decide +kernel)⟩
set_option maxRecDepth 20000 in
theorem ev_cok17 : ev_cok 17 := by
  intro C T N h
  have h : some (ev_R17, ev_T17, 3) = some (C, T, N) := h
  cases h
  refine ⟨ev_ws_of [14135, 14137, 14139] (by decide +kernel) (by decide +kernel), by decide +kernel, by decide +kernel, by decide +kernel, fun fs hf => ?_⟩
  have hf : some [.inl .null, .inl .null, .inl .null] = some fs := hf
  cases hf
  exact ⟨rfl, _, (by decide +kernel : ∀ j, j < 3 → defaultValue (ev_Y 17 j) = vp_V ((ev_fds.getD 17 []).map ev_val) j), fun al ex => ev_st_pure (ev_fds.getD 17 []) (by decide +kernel)⟩
set_option maxRecDepth 20000 in
theorem ev_cok18 : ev_cok 18 := by
  intro C T N h
  have h : some (ev_R18, ev_T18, 8) = some (C, T, N) := h
  cases h
  refine ⟨ev_ws_of [14109, 14111, 14113, 14115, 14117, 14119, 14121, 14123] (by decide +kernel) (by decide +kernel), by decide +kernel, by decide +kernel, by decide +kernel, fun fs hf => ?_⟩
  have hf : some [.inl .null, .inl .null, .inl (.int 0), .inl (.int 0), .inl .null, .inl (.int 0), .inl (.int 0), .inl (.int 0)] = some fs := hf
  cases hf
  exact ⟨rfl, _, (by decide +kernel : ∀ j, j < 8 → defaultValue (ev_Y 18 j) = vp_V ((ev_fds.getD 18 []).map ev_val) j), fun al ex => ev_st_pure (ev_fds.getD 18 []) (by decide +kernel)⟩
set_option maxRecDepth 20000 in
theorem ev_cok19 : ev_cok 19 := by
  intro C T N h
  have h : some (ev_R19, ev_T19, 4) = some (C, T, N) := h
  cases h
  refine ⟨ev_ws_of [8155, 8157, 8159, 8161] (by decide +kernel) (by decide +kernel), by decide +kernel, by decide +kernel, by decide +kernel, fun fs hf => ?_⟩
  have hf : some [.inl .null, .inl (.int 0), .inl (.int 0), .inl (.int 0)] = some fs := hf
  cases hf
  exact ⟨rfl, _, (by decide +kernel : ∀ j, j < 4 → defaultValue (ev_Y 19 j) = vp_V ((ev_fds.getD 19 []).map ev_val) j), fun al ex => ev_st_pure (ev_fds.getD 19 []) (by decide +kernel)⟩
set_option maxRecDepth 20000 in
theorem ev_cok20 : ev_cok 20 := by
  intro C T N h
  have h : some (ev_R20, ev_T20, 4) = some (C, T, N) := h
  cases h
  refine ⟨ev_ws_of [7222, 7224, 7226, 7228] (by decide +kernel) (by decide +kernel), by decide +kernel, by decide +kernel, by decide +kernel, fun fs hf => ?_⟩
  have hf : some [.inl .null, .inl (.int 0), .inl (.int 0), .inl (.int 0)] = some fs := hf
  cases hf
  exact ⟨rfl, _, (by decide +kernel : ∀ j, j < 4 → defaultValue (ev_Y 20 j) = vp_V ((ev_fds.getD 20 []).map ev_val) j), fun al ex => ev_st_pure (ev_fds.getD 20 []) (by decide +kernel)⟩
theorem ev_cok_all (ci : Nat) : ev_cok ci := by
  match ci with
  | 0 => exact ev_cok0
  | 1 => exact ev_cok1
  | 2 => exact ev_cok2
  | 3 => exact ev_cok3
  | 4 => exact ev_cok4
  | 5 => exact ev_cok5
  | 6 => exact ev_cok6
  | 7 => exact ev_cok7
  | 8 => exact ev_cok8
  | 9 => exact ev_cok9
  | 10 => exact ev_cok10
  | 11 => exact ev_cok11
  | 12 => exact ev_cok12
  | 13 => exact ev_cok13
  | 14 => exact ev_cok14
  | 15 => exact ev_cok15
  | 16 => exact ev_cok16
  | 17 => exact ev_cok17
  | 18 => exact ev_cok18
  | 19 => exact ev_cok19
  | 20 => exact ev_cok20
  | n + 21 => intro C T N h; simp [ev_cl] at h
