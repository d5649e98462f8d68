/-! the words of new objects -/
theorem uw_X0 : ∀ w ∈ u_ws RX0 TX0 9, w ∈ lw_good := by
  intro w hw
  obtain ⟨k, hk, rfl⟩ := List.mem_map.mp hw
  have hk := List.mem_range.mp hk
  have h9 : k = 0 ∨ k = 1 ∨ k = 2 ∨ k = 3 ∨ k = 4 ∨ k = 5 ∨ k = 6 ∨ k = 7 ∨ k = 8 := by omega
  rcases h9 with rfl | rfl | rfl | rfl | rfl | rfl | rfl | rfl | rfl
  · exact w_mem 249 (by decide +kernel) (by decide +kernel)
  · exact w_mem 251 (by decide +kernel) (by decide +kernel)
  · exact w_mem 253 (by decide +kernel) (by decide +kernel)
  · exact w_mem 255 (by decide +kernel) (by decide +kernel)
  · exact w_mem 257 (by decide +kernel) (by decide +kernel)
  · exact w_mem 259 (by decide +kernel) (by decide +kernel)
  · exact w_mem 261 (by decide +kernel) (by decide +kernel)
  · exact w_mem 263 (by decide +kernel) (by decide +kernel)
  · exact w_mem 265 (by decide +kernel) (by decide +kernel)
theorem uw_X1 : ∀ w ∈ u_ws RX1 TX1 7, w ∈ lw_good := by
  intro w hw
  obtain ⟨k, hk, rfl⟩ := List.mem_map.mp hw
  have hk := List.mem_range.mp hk
  have h9 : k = 0 ∨ k = 1 ∨ k = 2 ∨ k = 3 ∨ k = 4 ∨ k = 5 ∨ k = 6 := by omega
  rcases h9 with rfl | rfl | rfl | rfl | rfl | rfl | rfl
  · exact w_mem 52 (by decide +kernel) (by decide +kernel)
  · exact w_mem 54 (by decide +kernel) (by decide +kernel)
  · exact w_mem 56 (by decide +kernel) (by decide +kernel)
  · exact w_mem 58 (by decide +kernel) (by decide +kernel)
  · exact w_mem 60 (by decide +kernel) (by decide +kernel)
  · exact w_mem 62 (by decide +kernel) (by decide +kernel)
  · exact w_mem 64 (by decide +kernel) (by decide +kernel)
theorem uw_X2 : ∀ w ∈ u_ws RX2 TX2 6, w ∈ lw_good := by
  intro w hw
  obtain ⟨k, hk, rfl⟩ := List.mem_map.mp hw
  have hk := List.mem_range.mp hk
  have h9 : k = 0 ∨ k = 1 ∨ k = 2 ∨ k = 3 ∨ k = 4 ∨ k = 5 := by omega
  rcases h9 with rfl | rfl | rfl | rfl | rfl | rfl
  · exact w_mem 135 (by decide +kernel) (by decide +kernel)
  · exact w_mem 137 (by decide +kernel) (by decide +kernel)
  · exact w_mem 139 (by decide +kernel) (by decide +kernel)
  · exact w_mem 141 (by decide +kernel) (by decide +kernel)
  · exact w_mem 143 (by decide +kernel) (by decide +kernel)
  · exact w_mem 145 (by decide +kernel) (by decide +kernel)
theorem uw_X4 : ∀ w ∈ u_ws RX4 TX4 8, w ∈ lw_good := by
  intro w hw
  obtain ⟨k, hk, rfl⟩ := List.mem_map.mp hw
  have hk := List.mem_range.mp hk
  have h9 : k = 0 ∨ k = 1 ∨ k = 2 ∨ k = 3 ∨ k = 4 ∨ k = 5 ∨ k = 6 ∨ k = 7 := by omega
  rcases h9 with rfl | rfl | rfl | rfl | rfl | rfl | rfl | rfl
  · exact w_mem 191 (by decide +kernel) (by decide +kernel)
  · exact w_mem 193 (by decide +kernel) (by decide +kernel)
  · exact w_mem 195 (by decide +kernel) (by decide +kernel)
  · exact w_mem 197 (by decide +kernel) (by decide +kernel)
  · exact w_mem 199 (by decide +kernel) (by decide +kernel)
  · exact w_mem 201 (by decide +kernel) (by decide +kernel)
  · exact w_mem 203 (by decide +kernel) (by decide +kernel)
  · exact w_mem 205 (by decide +kernel) (by decide +kernel)
theorem uw_X5 : ∀ w ∈ u_ws RX5 TX5 15, w ∈ lw_good := by
  intro w hw
  obtain ⟨k, hk, rfl⟩ := List.mem_map.mp hw
  have hk := List.mem_range.mp hk
  have h9 : k = 0 ∨ k = 1 ∨ k = 2 ∨ k = 3 ∨ k = 4 ∨ k = 5 ∨ k = 6 ∨ k = 7 ∨ k = 8 ∨ k = 9 ∨ k = 10 ∨ k = 11 ∨ k = 12 ∨ k = 13 ∨ k = 14 := by omega
  rcases h9 with rfl | rfl | rfl | rfl | rfl | rfl | rfl | rfl | rfl | rfl | rfl | rfl | rfl | rfl | rfl
  · exact w_mem 97 (by decide +kernel) (by decide +kernel)
  · exact w_mem 99 (by decide +kernel) (by decide +kernel)
  · exact w_mem 101 (by decide +kernel) (by decide +kernel)
  · exact w_mem 103 (by decide +kernel) (by decide +kernel)
  · exact w_mem 105 (by decide +kernel) (by decide +kernel)
  · exact w_mem 107 (by decide +kernel) (by decide +kernel)
  · exact w_mem 109 (by decide +kernel) (by decide +kernel)
  · exact w_mem 111 (by decide +kernel) (by decide +kernel)
  · exact w_mem 113 (by decide +kernel) (by decide +kernel)
  · exact w_mem 115 (by decide +kernel) (by decide +kernel)
  · exact w_mem 117 (by decide +kernel) (by decide +kernel)
  · exact w_mem 119 (by decide +kernel) (by decide +kernel)
  · exact w_mem 121 (by decide +kernel) (by decide +kernel)
  · exact w_mem 123 (by decide +kernel) (by decide +kernel)
  · exact w_mem 125 (by decide +kernel) (by decide +kernel)
theorem uw_X6 : ∀ w ∈ u_ws RX6 TX6 13, w ∈ lw_good := by
  intro w hw
  obtain ⟨k, hk, rfl⟩ := List.mem_map.mp hw
  have hk := List.mem_range.mp hk
  have h9 : k = 0 ∨ k = 1 ∨ k = 2 ∨ k = 3 ∨ k = 4 ∨ k = 5 ∨ k = 6 ∨ k = 7 ∨ k = 8 ∨ k = 9 ∨ k = 10 ∨ k = 11 ∨ k = 12 := by omega
  rcases h9 with rfl | rfl | rfl | rfl | rfl | rfl | rfl | rfl | rfl | rfl | rfl | rfl | rfl
  · exact w_mem 309 (by decide +kernel) (by decide +kernel)
  · exact w_mem 311 (by decide +kernel) (by decide +kernel)
  · exact w_mem 313 (by decide +kernel) (by decide +kernel)
  · exact w_mem 315 (by decide +kernel) (by decide +kernel)
  · exact w_mem 317 (by decide +kernel) (by decide +kernel)
  · exact w_mem 319 (by decide +kernel) (by decide +kernel)
  · exact w_mem 321 (by decide +kernel) (by decide +kernel)
  · exact w_mem 323 (by decide +kernel) (by decide +kernel)
  · exact w_mem 325 (by decide +kernel) (by decide +kernel)
  · exact w_mem 327 (by decide +kernel) (by decide +kernel)
  · exact w_mem 329 (by decide +kernel) (by decide +kernel)
  · exact w_mem 331 (by decide +kernel) (by decide +kernel)
  · exact w_mem 333 (by decide +kernel) (by decide +kernel)
theorem uw_X7 : ∀ w ∈ u_ws RX7 TX7 6, w ∈ lw_good := by
  intro w hw
  obtain ⟨k, hk, rfl⟩ := List.mem_map.mp hw
  have hk := List.mem_range.mp hk
  have h9 : k = 0 ∨ k = 1 ∨ k = 2 ∨ k = 3 ∨ k = 4 ∨ k = 5 := by omega
  rcases h9 with rfl | rfl | rfl | rfl | rfl | rfl
  · exact w_mem 355 (by decide +kernel) (by decide +kernel)
  · exact w_mem 357 (by decide +kernel) (by decide +kernel)
  · exact w_mem 359 (by decide +kernel) (by decide +kernel)
  · exact w_mem 361 (by decide +kernel) (by decide +kernel)
  · exact w_mem 363 (by decide +kernel) (by decide +kernel)
  · exact w_mem 365 (by decide +kernel) (by decide +kernel)
theorem uw_X8 : ∀ w ∈ u_ws RX8 TX8 26, w ∈ lw_good := by
  intro w hw
  obtain ⟨k, hk, rfl⟩ := List.mem_map.mp hw
  have hk := List.mem_range.mp hk
  have h9 : k = 0 ∨ k = 1 ∨ k = 2 ∨ k = 3 ∨ k = 4 ∨ k = 5 ∨ k = 6 ∨ k = 7 ∨ k = 8 ∨ k = 9 ∨ k = 10 ∨ k = 11 ∨ k = 12 ∨ k = 13 ∨ k = 14 ∨ k = 15 ∨ k = 16 ∨ k = 17 ∨ k = 18 ∨ k = 19 ∨ k = 20 ∨ k = 21 ∨ k = 22 ∨ k = 23 ∨ k = 24 ∨ k = 25 := by omega
  rcases h9 with rfl | rfl | rfl | rfl | rfl | rfl | rfl | rfl | rfl | rfl | rfl | rfl | rfl | rfl | rfl | rfl | rfl | rfl | rfl | rfl | rfl | rfl | rfl | rfl | rfl | rfl
  · exact w_mem 1234 (by decide +kernel) (by decide +kernel)
  · exact w_mem 1236 (by decide +kernel) (by decide +kernel)
  · exact w_mem 1238 (by decide +kernel) (by decide +kernel)
  · exact w_mem 1240 (by decide +kernel) (by decide +kernel)
  · exact w_mem 1242 (by decide +kernel) (by decide +kernel)
  · exact w_mem 1244 (by decide +kernel) (by decide +kernel)
  · exact w_mem 1246 (by decide +kernel) (by decide +kernel)
  · exact w_mem 1248 (by decide +kernel) (by decide +kernel)
  · exact w_mem 1250 (by decide +kernel) (by decide +kernel)
  · exact w_mem 1252 (by decide +kernel) (by decide +kernel)
  · exact w_mem 1254 (by decide +kernel) (by decide +kernel)
  · exact w_mem 1256 (by decide +kernel) (by decide +kernel)
  · exact w_mem 1258 (by decide +kernel) (by decide +kernel)
  · exact w_mem 1260 (by decide +kernel) (by decide +kernel)
  · exact w_mem 1262 (by decide +kernel) (by decide +kernel)
  · exact w_mem 1264 (by decide +kernel) (by decide +kernel)
  · exact w_mem 1266 (by decide +kernel) (by decide +kernel)
  · exact w_mem 1268 (by decide +kernel) (by decide +kernel)
  · exact w_mem 1270 (by decide +kernel) (by decide +kernel)
  · exact w_mem 1272 (by decide +kernel) (by decide +kernel)
  · exact w_mem 1274 (by decide +kernel) (by decide +kernel)
  · exact w_mem 1276 (by decide +kernel) (by decide +kernel)
  · exact w_mem 1278 (by decide +kernel) (by decide +kernel)
  · exact w_mem 1280 (by decide +kernel) (by decide +kernel)
  · exact w_mem 1282 (by decide +kernel) (by decide +kernel)
  · exact w_mem 1284 (by decide +kernel) (by decide +kernel)
theorem nw_RX7_7 : NW RX7 RX1 7 1 7 TX1 := ⟨w_mem 30 (by decide +kernel) (by decide +kernel), w_mem 31 (by decide +kernel) (by decide +kernel), w_mem 2 (by decide +kernel) (by decide +kernel), uw_X1, rfl, by decide, tyX1_ok⟩
theorem nw_RX7_16 : NW RX7 RX2 16 2 6 TX2 := ⟨w_mem 68 (by decide +kernel) (by decide +kernel), w_mem 69 (by decide +kernel) (by decide +kernel), w_mem 3 (by decide +kernel) (by decide +kernel), uw_X2, rfl, by decide, tyX2_ok⟩
theorem nw_RX7_23 : NW RX7 RX6 23 5 13 TX6 := ⟨w_mem 148 (by decide +kernel) (by decide +kernel), w_mem 149 (by decide +kernel) (by decide +kernel), w_mem 5 (by decide +kernel) (by decide +kernel), uw_X6, rfl, by decide, tyX6_ok⟩
theorem nw_RX2_9 : NW RX2 RX5 9 4 15 TX5 := ⟨w_mem 74 (by decide +kernel) (by decide +kernel), w_mem 75 (by decide +kernel) (by decide +kernel), w_mem 4 (by decide +kernel) (by decide +kernel), uw_X5, rfl, by decide, tyX5_ok⟩
theorem nw_RX6_9 : NW RX6 RX4 9 3 8 TX4 := ⟨w_mem 154 (by decide +kernel) (by decide +kernel), w_mem 155 (by decide +kernel) (by decide +kernel), w_mem 6 (by decide +kernel) (by decide +kernel), uw_X4, rfl, by decide, tyX4_ok⟩
theorem nw_RX6_18 : NW RX6 RX0 18 0 9 TX0 := ⟨w_mem 208 (by decide +kernel) (by decide +kernel), w_mem 209 (by decide +kernel) (by decide +kernel), w_mem 7 (by decide +kernel) (by decide +kernel), uw_X0, rfl, by decide, tyX0_ok⟩
theorem nw_RL_8 : NW RL RX7 8 6 6 TX7 := ⟨w_mem 22 (by decide +kernel) (by decide +kernel), w_mem 23 (by decide +kernel) (by decide +kernel), w_mem 1 (by decide +kernel) (by decide +kernel), uw_X7, rfl, by decide, tyX7_ok⟩
theorem nw_RL_145 : NW RL RX8 145 7 26 TX8 := ⟨w_mem 1199 (by decide +kernel) (by decide +kernel), w_mem 1200 (by decide +kernel) (by decide +kernel), w_mem 8 (by decide +kernel) (by decide +kernel), uw_X8, rfl, by decide, tyX8_ok⟩
/-- what is given of private constructors -/
def nws : List Cond := [(Jvm.Cond.methodLinkNest "RunwaySequencer" (9 : Nat) ({ cls := "RunwaySequencer$Input", name := "<init>", desc := "()V" } : Jvm.MethodName) "RunwaySequencer"), (Jvm.Cond.methodLinkNest "RunwaySequencer" (18 : Nat) ({ cls := "RunwaySequencer$Planner", name := "<init>", desc := "()V" } : Jvm.MethodName) "RunwaySequencer"), (Jvm.Cond.methodLinkNest "RunwaySequencer$Planner" (11 : Nat) ({ cls := "RunwaySequencer$Search", name := "<init>", desc := "()V" } : Jvm.MethodName) "RunwaySequencer"), (Jvm.Cond.methodLinkNest "RunwaySequencer" (25 : Nat) ({ cls := "RunwaySequencer$State", name := "<init>", desc := "()V" } : Jvm.MethodName) "RunwaySequencer"), (Jvm.Cond.methodLinkNest "RunwaySequencer$State" (11 : Nat) ({ cls := "RunwaySequencer$Rules", name := "<init>", desc := "()V" } : Jvm.MethodName) "RunwaySequencer"), (Jvm.Cond.methodLinkNest "RunwaySequencer$State" (20 : Nat) ({ cls := "RunwaySequencer$Flights", name := "<init>", desc := "()V" } : Jvm.MethodName) "RunwaySequencer")]
def gN (G : GT) : Prop := ∀ w ∈ nws, ∀ (z : Nat) (s : State) (args : Array Value), G z s → w.before args s = true
theorem nn_RX7_9 {G : GT} (h : gN G) : ∀ (z : Nat) (s : State) (args : Array Value), G z s → (Jvm.Cond.methodLinkNest "RunwaySequencer" (9 : Nat) ({ cls := "RunwaySequencer$Input", name := "<init>", desc := "()V" } : Jvm.MethodName) "RunwaySequencer").before args s = true := h _ (List.Mem.head _)
theorem nn_RX7_18 {G : GT} (h : gN G) : ∀ (z : Nat) (s : State) (args : Array Value), G z s → (Jvm.Cond.methodLinkNest "RunwaySequencer" (18 : Nat) ({ cls := "RunwaySequencer$Planner", name := "<init>", desc := "()V" } : Jvm.MethodName) "RunwaySequencer").before args s = true := h _ (List.Mem.tail _ (List.Mem.head _))
theorem nn_RX2_11 {G : GT} (h : gN G) : ∀ (z : Nat) (s : State) (args : Array Value), G z s → (Jvm.Cond.methodLinkNest "RunwaySequencer$Planner" (11 : Nat) ({ cls := "RunwaySequencer$Search", name := "<init>", desc := "()V" } : Jvm.MethodName) "RunwaySequencer").before args s = true := h _ (List.Mem.tail _ (List.Mem.tail _ (List.Mem.head _)))
theorem nn_RX7_25 {G : GT} (h : gN G) : ∀ (z : Nat) (s : State) (args : Array Value), G z s → (Jvm.Cond.methodLinkNest "RunwaySequencer" (25 : Nat) ({ cls := "RunwaySequencer$State", name := "<init>", desc := "()V" } : Jvm.MethodName) "RunwaySequencer").before args s = true := h _ (List.Mem.tail _ (List.Mem.tail _ (List.Mem.tail _ (List.Mem.head _))))
theorem nn_RX6_11 {G : GT} (h : gN G) : ∀ (z : Nat) (s : State) (args : Array Value), G z s → (Jvm.Cond.methodLinkNest "RunwaySequencer$State" (11 : Nat) ({ cls := "RunwaySequencer$Rules", name := "<init>", desc := "()V" } : Jvm.MethodName) "RunwaySequencer").before args s = true := h _ (List.Mem.tail _ (List.Mem.tail _ (List.Mem.tail _ (List.Mem.tail _ (List.Mem.head _)))))
theorem nn_RX6_20 {G : GT} (h : gN G) : ∀ (z : Nat) (s : State) (args : Array Value), G z s → (Jvm.Cond.methodLinkNest "RunwaySequencer$State" (20 : Nat) ({ cls := "RunwaySequencer$Flights", name := "<init>", desc := "()V" } : Jvm.MethodName) "RunwaySequencer").before args s = true := h _ (List.Mem.tail _ (List.Mem.tail _ (List.Mem.tail _ (List.Mem.tail _ (List.Mem.tail _ (List.Mem.head _))))))
