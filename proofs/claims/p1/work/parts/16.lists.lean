/-! THE CLAIM OUT OF ONE WALK OF THE LAW'S BODY. Your part is whole_start (and what it stands on); all else here is the same for every law, but numbers. -/
def R_law : String := "KeyStewardLaw"
def lw_P (b : Addr) (xs : List Int32) (args : Array Value) (s : State) : Prop := args = #[.ref b] ∧ s.IntsAt b xs ∧ xs.length ≤ 6 ∧ (Jvm.Cond.and given_1 narrow_1).before args s = true
def lw_Q (_ : Array Value) (s : State) (o : Outcome) (t : State) : Prop := o = .returned (some (.int 1)) ∧ Framed s o t [] 385092 7946960
def lw_Z (below : List Frame) (a : Array Value) (s : State) : State → Prop := fun t => ∃ o, t.status = .running ∧ Ended t below o ∧ lw_Q a s o t
/-- the law's own end, with 1 on the stack, nothing written that was there before, its room as the claim has it -/
theorem lw_ret {p : Program} {l : Launch} {e : Env} {s : State} {m : MethodId} {below : List Frame} {meth : Method} {c : Code} {b : Nat} (hx : p.tables.exec = Jvm.exec) (hb : c.code = code) (hr : meth.sig.returnType = ret) (hlocks : meth.locks = false) {pc : Nat} {H : Heap} {ls : Array Slot} (hdg : decode code pc = .ok (.ireturn, 1)) : W p l e room_1 s m #[Value.ref b] below meth c H [] 385092 7946960 (lw_Z below #[Value.ref b] s) (F0 m pc ls [.int 1]) := by
  intro T hT X
  obtain ⟨fs, hret, hrun, hended, hW, hframe⟩ := X.leave (v := some (.int 1)) (hlocks := hlocks) (fun h => by rw [hr] at h; cases h)
  have hmeth' : T.vm.method? m = some meth := X.method'
  refine ⟨T.setFrames fs, ?_, .returned (some (.int 1)), hrun, hended, rfl, ⟨_, rfl⟩, hW, hframe⟩
  jvm_step X.here [X.here.top, hx, hb, hdg, hmeth', hr, ret, narrow_b1]
  (try refine ⟨rfl, ?_⟩); (try refine ⟨rfl, ?_⟩)
  first | (intro acts; rw [hret _ acts rfl rfl rfl]) | rw [hret _ _ rfl rfl rfl]
  exact Steps.refl _
/-- what holds at the law's entry: the machine, the code, the tables' words (any of lw_tbl by 'hts w (by decide +kernel)'), the script of L ints xs at the cell b, what the Statement gives of the start (any of its parts by flat_of_before) -/
def lw_At (p : Program) (s : State) (m : MethodId) (meth : Method) (c : Code) (b L : Nat) (xs : Nat → Int32) : Prop :=
  p.tables.exec = Jvm.exec ∧ c.code = code ∧ meth.sig.returnType = ret ∧ c.maxLocals = 7 ∧ s.vm.findClass R_law = some m.cls ∧ (∀ w ∈ lw_tbl, w.before #[Value.ref b] s = true) ∧ va_X b L xs s s.heap ∧ b < s.heap.size ∧ meth.locks = false ∧ (Jvm.Cond.and given_1 narrow_1).before #[Value.ref b] s = true

def kwL : List Cond := [.code yX12_outAt cX12_outAt 4 (some .int),
  .initialized RX12,
  .methodLink RL 7 yX12_outAt,
  .instanceMethod yX12_outAt,
  .selects RX12 yX12_outAt yX12_outAt,
  .classLink RL 13 "java/util/NoSuchElementException",
  .code yX12_logAt cX12_logAt 2 (some .int),
  .methodLink RL 15 yX12_logAt,
  .instanceMethod yX12_logAt,
  .selects RX12 yX12_logAt yX12_logAt,
  .code yX12_feed cX12_feed 6 (some .boolean),
  .methodLink RL 23 yX12_feed,
  .instanceMethod yX12_feed,
  .selects RX12 yX12_feed yX12_feed,
  .code yX13_feed cX13_feed 8 (some .boolean),
  .initialized RX13,
  .methodLink RL 27 yX13_feed,
  .instanceMethod yX13_feed,
  .selects RX13 yX13_feed yX13_feed,
  .code yX12_end cX12_end 2 (some .boolean),
  .methodLink RL 28 yX12_end,
  .instanceMethod yX12_end,
  .selects RX12 yX12_end yX12_end,
  .code yX13_end cX13_end 2 (some .boolean),
  .methodLink RL 32 yX13_end,
  .instanceMethod yX13_end,
  .selects RX13 yX13_end yX13_end,
  .code yX12_send cX12_send 10 (some .int),
  .methodLink RL 33 yX12_send,
  .instanceMethod yX12_send,
  .selects RX12 yX12_send yX12_send,
  .code yX13_send cX13_send 9 (some .int),
  .methodLink RL 36 yX13_send,
  .instanceMethod yX13_send,
  .selects RX13 yX13_send yX13_send,
  .code yX12_open cX12_open 3 (some .boolean),
  .methodLink RL 37 yX12_open,
  .instanceMethod yX12_open,
  .selects RX12 yX12_open yX12_open,
  .code yX13_open cX13_open 2 (some .boolean),
  .methodLink RL 40 yX13_open,
  .instanceMethod yX13_open,
  .selects RX13 yX13_open yX13_open,
  .code yX12_isOpen cX12_isOpen 3 (some .boolean),
  .methodLink RL 41 yX12_isOpen,
  .instanceMethod yX12_isOpen,
  .selects RX12 yX12_isOpen yX12_isOpen,
  .code yX13_isOpen cX13_isOpen 2 (some .boolean),
  .methodLink RL 44 yX13_isOpen,
  .instanceMethod yX13_isOpen,
  .selects RX13 yX13_isOpen yX13_isOpen,
  .code yX12_out cX12_out 3 (some .int),
  .methodLink RL 45 yX12_out,
  .instanceMethod yX12_out,
  .selects RX12 yX12_out yX12_out,
  .code yX13_out cX13_out 2 (some .int),
  .methodLink RL 48 yX13_out,
  .instanceMethod yX13_out,
  .selects RX13 yX13_out yX13_out,
  .initialized RL,
  .methodLink RL 49 yL_outAt,
  .static yL_outAt,
  .codeWith yL_outAt cL_outAt 5 (some .int) [(0, 10, 13, 13)],
  .code yX13_outAt cX13_outAt 3 (some .int),
  .methodLink RL 54 yX13_outAt,
  .instanceMethod yX13_outAt,
  .selects RX13 yX13_outAt yX13_outAt,
  .code yX13_thrown cX13_thrown 1 (some .int),
  .methodLink RL 55 yX13_thrown,
  .instanceMethod yX13_thrown,
  .selects RX13 yX13_thrown yX13_thrown,
  .code yX12_take cX12_take 4 (some .boolean),
  .methodLink RL 59 yX12_take,
  .instanceMethod yX12_take,
  .selects RX12 yX12_take yX12_take,
  .code yX13_take cX13_take 5 (some .boolean),
  .methodLink RL 63 yX13_take,
  .instanceMethod yX13_take,
  .selects RX13 yX13_take yX13_take,
  .constantLong RL 64 (4294967295),
  .code yX12_pass cX12_pass 5 (some .int),
  .methodLink RL 66 yX12_pass,
  .instanceMethod yX12_pass,
  .selects RX12 yX12_pass yX12_pass,
  .code yX13_pass cX13_pass 3 (some .int),
  .methodLink RL 70 yX13_pass,
  .instanceMethod yX13_pass,
  .selects RX13 yX13_pass yX13_pass,
  .code yX12_now cX12_now 1 (some .long),
  .methodLink RL 71 yX12_now,
  .instanceMethod yX12_now,
  .selects RX12 yX12_now yX12_now,
  .code yX13_now cX13_now 1 (some .long),
  .methodLink RL 75 yX13_now,
  .instanceMethod yX13_now,
  .selects RX13 yX13_now yX13_now,
  .code yX12_fuse cX12_fuse 2 none,
  .methodLink RL 76 yX12_fuse,
  .instanceMethod yX12_fuse,
  .selects RX12 yX12_fuse yX12_fuse,
  .code yX13_fuse cX13_fuse 2 none,
  .methodLink RL 80 yX13_fuse,
  .instanceMethod yX13_fuse,
  .selects RX13 yX13_fuse yX13_fuse,
  .code yX12_crash cX12_crash 1 (some .boolean),
  .methodLink RL 81 yX12_crash,
  .instanceMethod yX12_crash,
  .selects RX12 yX12_crash yX12_crash,
  .code yX13_crash cX13_crash 1 (some .boolean),
  .methodLink RL 85 yX13_crash,
  .instanceMethod yX13_crash,
  .selects RX13 yX13_crash yX13_crash,
  .code yX12_restart cX12_restart 6 (some .int),
  .methodLink RL 86 yX12_restart,
  .instanceMethod yX12_restart,
  .selects RX12 yX12_restart yX12_restart,
  .code yX13_restart cX13_restart 5 (some .int),
  .methodLink RL 89 yX13_restart,
  .instanceMethod yX13_restart,
  .selects RX13 yX13_restart yX13_restart,
  .code yX12_rewrite cX12_rewrite 2 (some .int),
  .methodLink RL 90 yX12_rewrite,
  .instanceMethod yX12_rewrite,
  .selects RX12 yX12_rewrite yX12_rewrite,
  .code yX13_rewrite cX13_rewrite 10 (some .int),
  .methodLink RL 93 yX13_rewrite,
  .instanceMethod yX13_rewrite,
  .selects RX13 yX13_rewrite yX13_rewrite,
  .code yX12_log cX12_log 1 (some .int),
  .methodLink RL 94 yX12_log,
  .instanceMethod yX12_log,
  .selects RX12 yX12_log yX12_log,
  .code yX13_log cX13_log 1 (some .int),
  .methodLink RL 97 yX13_log,
  .instanceMethod yX13_log,
  .selects RX13 yX13_log yX13_log,
  .code yX12_tear cX12_tear 2 (some .boolean),
  .methodLink RL 102 yX12_tear,
  .instanceMethod yX12_tear,
  .selects RX12 yX12_tear yX12_tear,
  .code yX13_tear cX13_tear 2 (some .boolean),
  .methodLink RL 105 yX13_tear,
  .instanceMethod yX13_tear,
  .selects RX13 yX13_tear yX13_tear,
  .code yX12_isUp cX12_isUp 1 (some .boolean),
  .methodLink RL 106 yX12_isUp,
  .instanceMethod yX12_isUp,
  .selects RX12 yX12_isUp yX12_isUp,
  .code yX13_isUp cX13_isUp 1 (some .boolean),
  .methodLink RL 109 yX13_isUp,
  .instanceMethod yX13_isUp,
  .selects RX13 yX13_isUp yX13_isUp,
  .methodLink RL 98 yL_logAt,
  .static yL_logAt,
  .codeWith yL_logAt cL_logAt 4 (some .int) [(0, 9, 12, 13)],
  .code yX13_logAt cX13_logAt 2 (some .int),
  .methodLink RL 101 yX13_logAt,
  .instanceMethod yX13_logAt,
  .selects RX13 yX13_logAt yX13_logAt,
  .code yX12_total cX12_total 2 (some .int),
  .methodLink RL 110 yX12_total,
  .instanceMethod yX12_total,
  .selects RX12 yX12_total yX12_total,
  .code yX13_total cX13_total 4 (some .int),
  .methodLink RL 113 yX13_total,
  .instanceMethod yX13_total,
  .selects RX13 yX13_total yX13_total,
  .instantiable RX1 4,
  .instantiable RX3 12,
  .instantiable RX11 5,
  .instantiable RX8 17,
  .instantiable RX4 19,
  .instantiable RX9 7,
  .instantiable RX5 3,
  .instantiable RX6 6,
  .instantiable RX7 9,
  .instantiable RX12 18,
  .instantiable RX13 116,
  .classLink RL 8 RX12,
  .code yX12_init cX12_init 5 none,
  .methodLink RL 19 yX12_init,
  .instanceMethod yX12_init,
  .classLink RL 20 RX13,
  .code yX13_init cX13_init 2 none,
  .methodLink RL 22 yX13_init,
  .instanceMethod yX13_init,
  .arrayClass .long]
def lk : List Cond := kwL ++ kx
theorem kwL_good : kwL.all goodWord = true := by decide +kernel
theorem lk_good (w : Cond) (h : w ∈ lk) : goodWord w = true := (List.mem_append.mp h).elim (List.all_eq_true.mp kwL_good w) (kx_good w)
theorem in_pl {big ws : List Cond} (ps : List Nat) (h : ws.map some = ps.map (fun i => big[i]?)) : ∀ w ∈ ws, w ∈ big := fun w hw => by
  have h1 : some w ∈ ws.map some := List.mem_map.mpr ⟨w, hw, rfl⟩
  rw [h] at h1
  obtain ⟨i, -, hi⟩ := List.mem_map.mp h1
  exact List.mem_of_getElem? hi
theorem in_mix {big ws : List Cond} (pc pn : List Nat) (hc : ws.filter k2_isCode = pc.filterMap (fun i => big[i]?)) (hn : (ws.filter (fun w => !k2_isCode w)).map some = pn.map (fun i => big[i]?)) : ∀ w ∈ ws, w ∈ big := fun w hw => by
  by_cases h : k2_isCode w = true
  · have h1 : w ∈ ws.filter k2_isCode := List.mem_filter.mpr ⟨hw, h⟩
    rw [hc] at h1
    obtain ⟨i, -, hi⟩ := List.mem_filterMap.mp h1
    exact List.mem_of_getElem? hi
  · exact in_pl pn hn w (List.mem_filter.mpr ⟨hw, by simpa using h⟩)
theorem by_take {l : List Cond} {P : Cond → Prop} (n : Nat) (h1 : ∀ w ∈ l.take n, P w) (h2 : ∀ w ∈ l.drop n, P w) : ∀ w ∈ l, P w := fun w hw => by
  rw [← List.take_append_drop n l] at hw
  exact (List.mem_append.mp hw).elim (h1 w) (h2 w)
set_option maxRecDepth 100000 in
set_option maxHeartbeats 4000000 in
theorem kwL_c0 : ∀ w ∈ (kwL).take 40, w ∈ lw_tbl := in_mix [2272, 2340, 795, 2837, 828, 2841, 836, 2845, 2168, 3595] [310, 2269, 2270, 2271, 2268, 2337, 2338, 2339, 792, 793, 794, 320, 2834, 2835, 2836, 825, 826, 827, 2838, 2839, 2840, 833, 834, 835, 2842, 2843, 2844, 2165, 2166, 2167] rfl (by decide +kernel)
set_option maxRecDepth 100000 in
set_option maxHeartbeats 4000000 in
theorem kwL_c1 : ∀ w ∈ ((kwL).drop 40).take 40, w ∈ lw_tbl := in_mix [2172, 3602, 2176, 3606, 3610, 2833, 2180, 3614] [3592, 3593, 3594, 2169, 2170, 2171, 3599, 3600, 3601, 2173, 2174, 2175, 3603, 3604, 3605, 309, 2265, 2266, 2267, 3607, 3608, 3609, 2830, 2831, 2832, 2177, 2178, 2179, 3611, 3612, 3613, 3684] rfl (by decide +kernel)
set_option maxRecDepth 100000 in
set_option maxHeartbeats 4000000 in
theorem kwL_c2 : ∀ w ∈ (((kwL).drop 40).drop 40).take 40, w ∈ lw_tbl := in_mix [2184, 3618, 2201, 3628, 2205, 3632, 2209, 3636, 2213, 3640] [2181, 2182, 2183, 3615, 3616, 3617, 2198, 2199, 2200, 3625, 3626, 3627, 2202, 2203, 2204, 3629, 3630, 3631, 2206, 2207, 2208, 3633, 3634, 3635, 2210, 2211, 2212, 3637, 3638, 3639] rfl (by decide +kernel)
set_option maxRecDepth 100000 in
set_option maxHeartbeats 4000000 in
theorem kwL_c3 : ∀ w ∈ ((((kwL).drop 40).drop 40).drop 40).take 40, w ∈ lw_tbl := in_mix [2231, 3659, 2252, 3667, 2256, 3675, 2260, 3679, 3671, 2264] [2228, 2229, 2230, 3656, 3657, 3658, 2249, 2250, 2251, 3664, 3665, 3666, 2253, 2254, 2255, 3672, 3673, 3674, 2257, 2258, 2259, 3676, 3677, 3678, 2334, 2335, 2336, 3668, 3669, 3670] rfl (by decide +kernel)
set_option maxRecDepth 100000 in
set_option maxHeartbeats 4000000 in
theorem kwL_c4 : ∀ w ∈ ((((kwL).drop 40).drop 40).drop 40).drop 40, w ∈ lw_tbl := in_mix [3683, 341, 2345] [2261, 2262, 2263, 3680, 3681, 3682, 346, 376, 435, 457, 555, 631, 661, 677, 704, 338, 2342, 337, 339, 340, 2341, 2343, 2344, 629] rfl (by decide +kernel)
theorem kwL_in : ∀ w ∈ kwL, w ∈ lw_tbl := by_take 40 kwL_c0 (by_take 40 kwL_c1 (by_take 40 kwL_c2 (by_take 40 kwL_c3 (kwL_c4))))
set_option maxRecDepth 100000 in
set_option maxHeartbeats 4000000 in
theorem kwW_c0 : ∀ w ∈ (kwW).take 40, w ∈ lw_tbl := in_mix [344, 804, 350, 844] [351, 343, 372, 353, 352, 357, 361, 311, 801, 802, 803, 849, 824, 823, 323, 380, 386, 381, 346, 382, 383, 349, 388, 384, 390, 385, 392, 433, 402, 404, 403, 398, 394, 396, 400, 950] rfl (by decide +kernel)
set_option maxRecDepth 100000 in
set_option maxHeartbeats 4000000 in
theorem kwW_c1 : ∀ w ∈ ((kwW).drop 40).take 40, w ∈ lw_tbl := in_mix [958, 954] [842, 843, 312, 955, 956, 957, 951, 952, 953, 406, 439, 440, 441, 442, 443, 461, 465, 466, 467, 464, 462, 463, 481, 559, 565, 566, 560, 567, 569, 572, 629, 574, 576, 562, 563, 564, 635, 636] rfl (by decide +kernel)
set_option maxRecDepth 100000 in
set_option maxHeartbeats 4000000 in
theorem kwW_c2 : ∀ w ∈ (((kwW).drop 40).drop 40).take 40, w ∈ lw_tbl := in_mix [800, 832, 2163] [637, 640, 638, 639, 665, 666, 667, 668, 681, 682, 683, 687, 688, 684, 685, 686, 708, 709, 710, 711, 471, 479, 739, 737, 358, 796, 797, 798, 799, 829, 830, 831, 387, 389, 2160, 2161, 2162] rfl (by decide +kernel)
set_option maxRecDepth 100000 in
set_option maxHeartbeats 4000000 in
theorem kwW_c3 : ∀ w ∈ ((((kwW).drop 40).drop 40).drop 40).take 40, w ∈ lw_tbl := in_mix [840, 949, 848, 854, 2159, 2189, 2140] [2164, 310, 837, 839, 0, 391, 754, 2054, 947, 948, 841, 354, 845, 846, 847, 850, 741, 314, 851, 852, 853, 2156, 2158, 129, 742, 583, 747, 753, 2185, 584, 2186, 2188, 130] rfl (by decide +kernel)
set_option maxRecDepth 100000 in
set_option maxHeartbeats 4000000 in
theorem kwW_c4 : ∀ w ∈ (((((kwW).drop 40).drop 40).drop 40).drop 40).take 40, w ∈ lw_tbl := in_mix [2155, 2148, 2152, 2144, 379] [2137, 2139, 127, 748, 579, 581, 578, 573, 577, 444, 322, 2153, 2154, 750, 315, 2145, 2146, 2147, 740, 313, 2149, 2150, 2151, 2141, 2143, 128, 342, 345, 347, 348, 738, 373, 749, 374, 376] rfl (by decide +kernel)
set_option maxRecDepth 100000 in
set_option maxHeartbeats 4000000 in
theorem kwW_c5 : ∀ w ∈ ((((((kwW).drop 40).drop 40).drop 40).drop 40).drop 40).take 40, w ∈ lw_tbl := in_mix [438, 460, 558, 634, 664, 680, 707] [378, 434, 435, 437, 456, 457, 458, 459, 554, 555, 556, 557, 630, 631, 316, 632, 633, 743, 660, 661, 317, 662, 663, 744, 676, 677, 318, 678, 679, 745, 703, 704, 319] rfl (by decide +kernel)
set_option maxRecDepth 100000 in
set_option maxHeartbeats 4000000 in
theorem kwW_c6 : ∀ w ∈ (((((((kwW).drop 40).drop 40).drop 40).drop 40).drop 40).drop 40).take 40, w ∈ lw_tbl := in_mix [2366] [705, 706, 746, 2486, 2481, 2482, 2483, 2484, 2485, 2362, 320, 2363, 2365, 137, 2367, 2368, 2369, 2370, 2371, 2372, 2373, 2374, 2375, 2376, 2377, 2378, 2379, 2380, 2381, 2382, 2383, 2384, 2385, 2386, 2387, 2388, 2389, 2390, 2391] rfl (by decide +kernel)
set_option maxRecDepth 100000 in
set_option maxHeartbeats 4000000 in
theorem kwW_c7 : ∀ w ∈ ((((((((kwW).drop 40).drop 40).drop 40).drop 40).drop 40).drop 40).drop 40).take 40, w ∈ lw_tbl := in_mix [] [2392, 2393, 2394, 2395, 2396, 2397, 2398, 2399, 2400, 2401, 2402, 2403, 2404, 2405, 2406, 2407, 2408, 2409, 2410, 2411, 2412, 2413, 2414, 2415, 2416, 2417, 2418, 2419, 2420, 2421, 2422, 2423, 2424, 2425, 2426, 2427, 2428, 2429, 2430, 2431] rfl (by decide +kernel)
set_option maxRecDepth 100000 in
set_option maxHeartbeats 4000000 in
theorem kwW_c8 : ∀ w ∈ (((((((((kwW).drop 40).drop 40).drop 40).drop 40).drop 40).drop 40).drop 40).drop 40).take 40, w ∈ lw_tbl := in_mix [] [2432, 2433, 2434, 2435, 2436, 2437, 2438, 2439, 2440, 2441, 2442, 2443, 2444, 2445, 2446, 2447, 2448, 2449, 2450, 2451, 2452, 2453, 2454, 2455, 2456, 2457, 2458, 2459, 2460, 2461, 2462, 2463, 2464, 2465, 2466, 2467, 2468, 2469, 2470, 2471] rfl (by decide +kernel)
set_option maxRecDepth 100000 in
set_option maxHeartbeats 4000000 in
theorem kwW_c9 : ∀ w ∈ ((((((((((kwW).drop 40).drop 40).drop 40).drop 40).drop 40).drop 40).drop 40).drop 40).drop 40).take 40, w ∈ lw_tbl := in_mix [] [2472, 2473, 2474, 2475, 2476, 2477, 2478, 2479, 2346, 2480, 2829, 2347, 2487, 2348, 2488, 2489, 2490, 2491, 2492, 2493, 2494, 2495, 2496, 2497, 2498, 2499, 2500, 2501, 2502, 2503, 2504, 2505, 2506, 2507, 2508, 2509, 2510, 2511, 2349, 2512] rfl (by decide +kernel)
set_option maxRecDepth 100000 in
set_option maxHeartbeats 4000000 in
theorem kwW_c10 : ∀ w ∈ (((((((((((kwW).drop 40).drop 40).drop 40).drop 40).drop 40).drop 40).drop 40).drop 40).drop 40).drop 40).take 40, w ∈ lw_tbl := in_mix [] [2513, 2514, 2515, 2516, 2517, 2350, 2518, 2519, 2351, 2520, 2521, 2522, 2523, 2352, 2524, 2525, 2526, 2527, 2528, 2353, 2529, 2530, 2531, 2532, 2533, 2534, 2535, 2536, 2537, 2538, 2354, 2539, 2540, 2541, 2542, 2543, 2355, 2544, 2545, 2356] rfl (by decide +kernel)
set_option maxRecDepth 100000 in
set_option maxHeartbeats 4000000 in
theorem kwW_c11 : ∀ w ∈ ((((((((((((kwW).drop 40).drop 40).drop 40).drop 40).drop 40).drop 40).drop 40).drop 40).drop 40).drop 40).drop 40).take 40, w ∈ lw_tbl := in_mix [] [2546, 2547, 2548, 2549, 2550, 2551, 2552, 2553, 2554, 2555, 2556, 2557, 2558, 2559, 2560, 2561, 2562, 2563, 2564, 2565, 2566, 2567, 2568, 2569, 2570, 2571, 2572, 2573, 2574, 2575, 2576, 2577, 2578, 2579, 2580, 2581, 2582, 2583, 2584, 2585] rfl (by decide +kernel)
set_option maxRecDepth 100000 in
set_option maxHeartbeats 4000000 in
theorem kwW_c12 : ∀ w ∈ ((((((((((((kwW).drop 40).drop 40).drop 40).drop 40).drop 40).drop 40).drop 40).drop 40).drop 40).drop 40).drop 40).drop 40, w ∈ lw_tbl := in_mix [2361, 2903, 3598, 2899, 3623, 3591, 3082] [2586, 2587, 2588, 2589, 2590, 2591, 2357, 2592, 2593, 2594, 2595, 2358, 2360, 136, 2900, 2902, 149, 2880, 3596, 3597, 2896, 2898, 148, 3619, 3620, 3622, 304, 3588, 3590, 303, 3079, 3081, 184] rfl (by decide +kernel)
theorem kwW_in : ∀ w ∈ kwW, w ∈ lw_tbl := by_take 40 kwW_c0 (by_take 40 kwW_c1 (by_take 40 kwW_c2 (by_take 40 kwW_c3 (by_take 40 kwW_c4 (by_take 40 kwW_c5 (by_take 40 kwW_c6 (by_take 40 kwW_c7 (by_take 40 kwW_c8 (by_take 40 kwW_c9 (by_take 40 kwW_c10 (by_take 40 kwW_c11 (kwW_c12))))))))))))
set_option maxRecDepth 100000 in
theorem tin_X1 : ∀ w ∈ u_ws RX1 TX1 4, w ∈ lw_tbl := in_pl [363, 365, 367, 369] (by decide +kernel)
set_option maxRecDepth 100000 in
theorem tin_X3 : ∀ w ∈ u_ws RX3 TX3 12, w ∈ lw_tbl := in_pl [408, 410, 412, 414, 416, 418, 420, 422, 424, 426, 428, 430] (by decide +kernel)
set_option maxRecDepth 100000 in
theorem tin_X11 : ∀ w ∈ u_ws RX11 TX11 5, w ∈ lw_tbl := in_pl [445, 447, 449, 451, 453] (by decide +kernel)
set_option maxRecDepth 100000 in
theorem tin_X8 : ∀ w ∈ u_ws RX8 TX8 17, w ∈ lw_tbl := in_pl [519, 521, 523, 525, 527, 529, 531, 533, 535, 537, 539, 541, 543, 545, 547, 549, 551] (by decide +kernel)
set_option maxRecDepth 100000 in
theorem tin_X4 : ∀ w ∈ u_ws RX4 TX4 19, w ∈ lw_tbl := in_pl [590, 592, 594, 596, 598, 600, 602, 604, 606, 608, 610, 612, 614, 616, 618, 620, 622, 624, 626] (by decide +kernel)
set_option maxRecDepth 100000 in
theorem tin_X9 : ∀ w ∈ u_ws RX9 TX9 7, w ∈ lw_tbl := in_pl [645, 647, 649, 651, 653, 655, 657] (by decide +kernel)
set_option maxRecDepth 100000 in
theorem tin_X5 : ∀ w ∈ u_ws RX5 TX5 3, w ∈ lw_tbl := in_pl [669, 671, 673] (by decide +kernel)
set_option maxRecDepth 100000 in
theorem tin_X6 : ∀ w ∈ u_ws RX6 TX6 6, w ∈ lw_tbl := in_pl [690, 692, 694, 696, 698, 700] (by decide +kernel)
set_option maxRecDepth 100000 in
theorem tin_X7 : ∀ w ∈ u_ws RX7 TX7 9, w ∈ lw_tbl := in_pl [718, 720, 722, 724, 726, 728, 730, 732, 734] (by decide +kernel)
set_option maxRecDepth 100000 in
theorem tin_X12 : ∀ w ∈ u_ws RX12 TX12 18, w ∈ lw_tbl := in_pl [755, 757, 759, 761, 763, 765, 767, 769, 771, 773, 775, 777, 779, 781, 783, 785, 787, 789] (by decide +kernel)
set_option maxRecDepth 100000 in
theorem tin_X13 : ∀ w ∈ u_ws RX13 TX13 116, w ∈ lw_tbl := in_pl [2596, 2598, 2600, 2602, 2604, 2606, 2608, 2610, 2612, 2614, 2616, 2618, 2620, 2622, 2624, 2626, 2628, 2630, 2632, 2634, 2636, 2638, 2640, 2642, 2644, 2646, 2648, 2650, 2652, 2654, 2656, 2658, 2660, 2662, 2664, 2666, 2668, 2670, 2672, 2674, 2676, 2678, 2680, 2682, 2684, 2686, 2688, 2690, 2692, 2694, 2696, 2698, 2700, 2702, 2704, 2706, 2708, 2710, 2712, 2714, 2716, 2718, 2720, 2722, 2724, 2726, 2728, 2730, 2732, 2734, 2736, 2738, 2740, 2742, 2744, 2746, 2748, 2750, 2752, 2754, 2756, 2758, 2760, 2762, 2764, 2766, 2768, 2770, 2772, 2774, 2776, 2778, 2780, 2782, 2784, 2786, 2788, 2790, 2792, 2794, 2796, 2798, 2800, 2802, 2804, 2806, 2808, 2810, 2812, 2814, 2816, 2818, 2820, 2822, 2824, 2826] (by decide +kernel)
theorem kwF_in : ∀ w ∈ kwF, w ∈ lw_tbl := fun w h => (List.mem_append.mp h).elim (tin_X1 w) (fun h => (List.mem_append.mp h).elim (tin_X3 w) (fun h => (List.mem_append.mp h).elim (tin_X11 w) (fun h => (List.mem_append.mp h).elim (tin_X8 w) (fun h => (List.mem_append.mp h).elim (tin_X4 w) (fun h => (List.mem_append.mp h).elim (tin_X9 w) (fun h => (List.mem_append.mp h).elim (tin_X5 w) (fun h => (List.mem_append.mp h).elim (tin_X6 w) (fun h => (List.mem_append.mp h).elim (tin_X7 w) (fun h => (List.mem_append.mp h).elim (tin_X12 w) (fun h => tin_X13 w h))))))))))
set_option maxRecDepth 100000 in
theorem exK_in : ∀ w ∈ exK, w ∈ lw_tbl := in_pl [2273, 336] (by decide +kernel)
set_option maxRecDepth 100000 in
theorem exW_in : ∀ w ∈ exW, w ∈ lw_tbl := by decide +kernel
theorem lk_in : ∀ w ∈ lk, w ∈ lw_tbl := fun w h => (List.mem_append.mp h).elim (kwL_in w) (fun h => (List.mem_append.mp h).elim (exK_in w) (fun h => (List.mem_append.mp h).elim (exW_in w) (fun h => (List.mem_append.mp h).elim (kwW_in w) (kwF_in w))))
theorem kw_lk {w : Cond} (h : w ∈ kw) : w ∈ lk := List.mem_append_right _ (List.mem_append_right _ (List.mem_append_right _ h))
theorem lkG {ws : List Cond} (h : ∀ w ∈ ws, w ∈ lk) : GoodIn lk ws := fun w hw => ⟨h w hw, good_of_word (lk_good w (h w hw))⟩
theorem lkI {y : MethodName} {b : ByteArray} {n : Nat} {r : Option FieldType} (h : Cond.code y b n r ∈ lk) : GoodIn lk (Cond.code y b n r :: kw) := lkG (fun w hw => (List.mem_cons.mp hw).elim (fun e => by rw [e]; exact h) (fun h => kw_lk h))
theorem lkX {y : MethodName} {b : ByteArray} {n : Nat} {r : Option FieldType} (h : Cond.code y b n r ∈ lk) : GoodIn lk (Cond.code y b n r :: kx) := lkG (fun w hw => (List.mem_cons.mp hw).elim (fun e => by rw [e]; exact h) (fun h => List.mem_append_right _ h))
theorem lkS {own : String} {idx : Nat} {y : MethodName} {b : ByteArray} {n : Nat} {r : Option FieldType} {hh : List (Nat × Nat × Nat × Nat)} (h1 : Cond.methodLink own idx y ∈ lk) (h2 : Cond.static y ∈ lk) (h3 : Cond.initialized y.cls ∈ lk) (h : Cond.codeWith y b n r hh ∈ lk) : GoodIn lk (va_wsS own idx y (Cond.codeWith y b n r hh :: lk)) := lkG (fun w hw => by
  rcases List.mem_append.mp hw with q | q
  · simp only [List.mem_cons, List.not_mem_nil, or_false] at q
    rcases q with rfl | rfl | rfl
    · exact h1
    · exact h2
    · exact h3
  · exact (List.mem_cons.mp q).elim (fun e => by rw [e]; exact h) id)
theorem lin_X1 : ∀ w ∈ u_ws RX1 TX1 4, w ∈ lk := fun w h => kw_lk (kin_X1 w h)
theorem lin_X3 : ∀ w ∈ u_ws RX3 TX3 12, w ∈ lk := fun w h => kw_lk (kin_X3 w h)
theorem lin_X11 : ∀ w ∈ u_ws RX11 TX11 5, w ∈ lk := fun w h => kw_lk (kin_X11 w h)
theorem lin_X8 : ∀ w ∈ u_ws RX8 TX8 17, w ∈ lk := fun w h => kw_lk (kin_X8 w h)
theorem lin_X4 : ∀ w ∈ u_ws RX4 TX4 19, w ∈ lk := fun w h => kw_lk (kin_X4 w h)
theorem lin_X9 : ∀ w ∈ u_ws RX9 TX9 7, w ∈ lk := fun w h => kw_lk (kin_X9 w h)
theorem lin_X5 : ∀ w ∈ u_ws RX5 TX5 3, w ∈ lk := fun w h => kw_lk (kin_X5 w h)
theorem lin_X6 : ∀ w ∈ u_ws RX6 TX6 6, w ∈ lk := fun w h => kw_lk (kin_X6 w h)
theorem lin_X7 : ∀ w ∈ u_ws RX7 TX7 9, w ∈ lk := fun w h => kw_lk (kin_X7 w h)
theorem lin_X12 : ∀ w ∈ u_ws RX12 TX12 18, w ∈ lk := fun w h => kw_lk (kin_X12 w h)
theorem lin_X13 : ∀ w ∈ u_ws RX13 TX13 116, w ∈ lk := fun w h => kw_lk (kin_X13 w h)
set_option maxRecDepth 100000 in
theorem n_0 : Cond.code yX12_outAt cX12_outAt 4 (some .int) ∈ lk := List.mem_append_left _ (List.mem_of_getElem? (i := 0) rfl)
theorem n_1 : Cond.initialized RX12 ∈ lk := List.mem_append_left _ (List.mem_of_getElem? (i := 1) (by decide +kernel))
theorem n_2 : Cond.methodLink RL 7 yX12_outAt ∈ lk := List.mem_append_left _ (List.mem_of_getElem? (i := 2) (by decide +kernel))
theorem n_3 : Cond.instanceMethod yX12_outAt ∈ lk := List.mem_append_left _ (List.mem_of_getElem? (i := 3) (by decide +kernel))
theorem n_4 : Cond.selects RX12 yX12_outAt yX12_outAt ∈ lk := List.mem_append_left _ (List.mem_of_getElem? (i := 4) (by decide +kernel))
theorem n_5 : Cond.classLink RL 13 "java/util/NoSuchElementException" ∈ lk := List.mem_append_left _ (List.mem_of_getElem? (i := 5) (by decide +kernel))
set_option maxRecDepth 100000 in
theorem n_6 : Cond.code yX12_logAt cX12_logAt 2 (some .int) ∈ lk := List.mem_append_left _ (List.mem_of_getElem? (i := 6) rfl)
theorem n_7 : Cond.methodLink RL 15 yX12_logAt ∈ lk := List.mem_append_left _ (List.mem_of_getElem? (i := 7) (by decide +kernel))
theorem n_8 : Cond.instanceMethod yX12_logAt ∈ lk := List.mem_append_left _ (List.mem_of_getElem? (i := 8) (by decide +kernel))
theorem n_9 : Cond.selects RX12 yX12_logAt yX12_logAt ∈ lk := List.mem_append_left _ (List.mem_of_getElem? (i := 9) (by decide +kernel))
set_option maxRecDepth 100000 in
theorem n_10 : Cond.code yX12_feed cX12_feed 6 (some .boolean) ∈ lk := List.mem_append_left _ (List.mem_of_getElem? (i := 10) rfl)
theorem n_11 : Cond.methodLink RL 23 yX12_feed ∈ lk := List.mem_append_left _ (List.mem_of_getElem? (i := 11) (by decide +kernel))
theorem n_12 : Cond.instanceMethod yX12_feed ∈ lk := List.mem_append_left _ (List.mem_of_getElem? (i := 12) (by decide +kernel))
theorem n_13 : Cond.selects RX12 yX12_feed yX12_feed ∈ lk := List.mem_append_left _ (List.mem_of_getElem? (i := 13) (by decide +kernel))
set_option maxRecDepth 100000 in
theorem n_14 : Cond.code yX13_feed cX13_feed 8 (some .boolean) ∈ lk := List.mem_append_left _ (List.mem_of_getElem? (i := 14) rfl)
theorem n_15 : Cond.initialized RX13 ∈ lk := List.mem_append_left _ (List.mem_of_getElem? (i := 15) (by decide +kernel))
theorem n_16 : Cond.methodLink RL 27 yX13_feed ∈ lk := List.mem_append_left _ (List.mem_of_getElem? (i := 16) (by decide +kernel))
theorem n_17 : Cond.instanceMethod yX13_feed ∈ lk := List.mem_append_left _ (List.mem_of_getElem? (i := 17) (by decide +kernel))
theorem n_18 : Cond.selects RX13 yX13_feed yX13_feed ∈ lk := List.mem_append_left _ (List.mem_of_getElem? (i := 18) (by decide +kernel))
set_option maxRecDepth 100000 in
theorem n_19 : Cond.code yX12_end cX12_end 2 (some .boolean) ∈ lk := List.mem_append_left _ (List.mem_of_getElem? (i := 19) rfl)
theorem n_20 : Cond.methodLink RL 28 yX12_end ∈ lk := List.mem_append_left _ (List.mem_of_getElem? (i := 20) (by decide +kernel))
theorem n_21 : Cond.instanceMethod yX12_end ∈ lk := List.mem_append_left _ (List.mem_of_getElem? (i := 21) (by decide +kernel))
theorem n_22 : Cond.selects RX12 yX12_end yX12_end ∈ lk := List.mem_append_left _ (List.mem_of_getElem? (i := 22) (by decide +kernel))
set_option maxRecDepth 100000 in
theorem n_23 : Cond.code yX13_end cX13_end 2 (some .boolean) ∈ lk := List.mem_append_left _ (List.mem_of_getElem? (i := 23) rfl)
theorem n_24 : Cond.methodLink RL 32 yX13_end ∈ lk := List.mem_append_left _ (List.mem_of_getElem? (i := 24) (by decide +kernel))
theorem n_25 : Cond.instanceMethod yX13_end ∈ lk := List.mem_append_left _ (List.mem_of_getElem? (i := 25) (by decide +kernel))
theorem n_26 : Cond.selects RX13 yX13_end yX13_end ∈ lk := List.mem_append_left _ (List.mem_of_getElem? (i := 26) (by decide +kernel))
set_option maxRecDepth 100000 in
theorem n_27 : Cond.code yX12_send cX12_send 10 (some .int) ∈ lk := List.mem_append_left _ (List.mem_of_getElem? (i := 27) rfl)
theorem n_28 : Cond.methodLink RL 33 yX12_send ∈ lk := List.mem_append_left _ (List.mem_of_getElem? (i := 28) (by decide +kernel))
theorem n_29 : Cond.instanceMethod yX12_send ∈ lk := List.mem_append_left _ (List.mem_of_getElem? (i := 29) (by decide +kernel))
theorem n_30 : Cond.selects RX12 yX12_send yX12_send ∈ lk := List.mem_append_left _ (List.mem_of_getElem? (i := 30) (by decide +kernel))
set_option maxRecDepth 100000 in
theorem n_31 : Cond.code yX13_send cX13_send 9 (some .int) ∈ lk := List.mem_append_left _ (List.mem_of_getElem? (i := 31) rfl)
theorem n_32 : Cond.methodLink RL 36 yX13_send ∈ lk := List.mem_append_left _ (List.mem_of_getElem? (i := 32) (by decide +kernel))
theorem n_33 : Cond.instanceMethod yX13_send ∈ lk := List.mem_append_left _ (List.mem_of_getElem? (i := 33) (by decide +kernel))
theorem n_34 : Cond.selects RX13 yX13_send yX13_send ∈ lk := List.mem_append_left _ (List.mem_of_getElem? (i := 34) (by decide +kernel))
set_option maxRecDepth 100000 in
theorem n_35 : Cond.code yX12_open cX12_open 3 (some .boolean) ∈ lk := List.mem_append_left _ (List.mem_of_getElem? (i := 35) rfl)
theorem n_36 : Cond.methodLink RL 37 yX12_open ∈ lk := List.mem_append_left _ (List.mem_of_getElem? (i := 36) (by decide +kernel))
theorem n_37 : Cond.instanceMethod yX12_open ∈ lk := List.mem_append_left _ (List.mem_of_getElem? (i := 37) (by decide +kernel))
theorem n_38 : Cond.selects RX12 yX12_open yX12_open ∈ lk := List.mem_append_left _ (List.mem_of_getElem? (i := 38) (by decide +kernel))
set_option maxRecDepth 100000 in
theorem n_39 : Cond.code yX13_open cX13_open 2 (some .boolean) ∈ lk := List.mem_append_left _ (List.mem_of_getElem? (i := 39) rfl)
theorem n_40 : Cond.methodLink RL 40 yX13_open ∈ lk := List.mem_append_left _ (List.mem_of_getElem? (i := 40) (by decide +kernel))
theorem n_41 : Cond.instanceMethod yX13_open ∈ lk := List.mem_append_left _ (List.mem_of_getElem? (i := 41) (by decide +kernel))
theorem n_42 : Cond.selects RX13 yX13_open yX13_open ∈ lk := List.mem_append_left _ (List.mem_of_getElem? (i := 42) (by decide +kernel))
set_option maxRecDepth 100000 in
theorem n_43 : Cond.code yX12_isOpen cX12_isOpen 3 (some .boolean) ∈ lk := List.mem_append_left _ (List.mem_of_getElem? (i := 43) rfl)
theorem n_44 : Cond.methodLink RL 41 yX12_isOpen ∈ lk := List.mem_append_left _ (List.mem_of_getElem? (i := 44) (by decide +kernel))
theorem n_45 : Cond.instanceMethod yX12_isOpen ∈ lk := List.mem_append_left _ (List.mem_of_getElem? (i := 45) (by decide +kernel))
theorem n_46 : Cond.selects RX12 yX12_isOpen yX12_isOpen ∈ lk := List.mem_append_left _ (List.mem_of_getElem? (i := 46) (by decide +kernel))
set_option maxRecDepth 100000 in
theorem n_47 : Cond.code yX13_isOpen cX13_isOpen 2 (some .boolean) ∈ lk := List.mem_append_left _ (List.mem_of_getElem? (i := 47) rfl)
theorem n_48 : Cond.methodLink RL 44 yX13_isOpen ∈ lk := List.mem_append_left _ (List.mem_of_getElem? (i := 48) (by decide +kernel))
theorem n_49 : Cond.instanceMethod yX13_isOpen ∈ lk := List.mem_append_left _ (List.mem_of_getElem? (i := 49) (by decide +kernel))
theorem n_50 : Cond.selects RX13 yX13_isOpen yX13_isOpen ∈ lk := List.mem_append_left _ (List.mem_of_getElem? (i := 50) (by decide +kernel))
set_option maxRecDepth 100000 in
theorem n_51 : Cond.code yX12_out cX12_out 3 (some .int) ∈ lk := List.mem_append_left _ (List.mem_of_getElem? (i := 51) rfl)
theorem n_52 : Cond.methodLink RL 45 yX12_out ∈ lk := List.mem_append_left _ (List.mem_of_getElem? (i := 52) (by decide +kernel))
theorem n_53 : Cond.instanceMethod yX12_out ∈ lk := List.mem_append_left _ (List.mem_of_getElem? (i := 53) (by decide +kernel))
theorem n_54 : Cond.selects RX12 yX12_out yX12_out ∈ lk := List.mem_append_left _ (List.mem_of_getElem? (i := 54) (by decide +kernel))
set_option maxRecDepth 100000 in
theorem n_55 : Cond.code yX13_out cX13_out 2 (some .int) ∈ lk := List.mem_append_left _ (List.mem_of_getElem? (i := 55) rfl)
theorem n_56 : Cond.methodLink RL 48 yX13_out ∈ lk := List.mem_append_left _ (List.mem_of_getElem? (i := 56) (by decide +kernel))
theorem n_57 : Cond.instanceMethod yX13_out ∈ lk := List.mem_append_left _ (List.mem_of_getElem? (i := 57) (by decide +kernel))
theorem n_58 : Cond.selects RX13 yX13_out yX13_out ∈ lk := List.mem_append_left _ (List.mem_of_getElem? (i := 58) (by decide +kernel))
theorem n_59 : Cond.initialized RL ∈ lk := List.mem_append_left _ (List.mem_of_getElem? (i := 59) (by decide +kernel))
theorem n_60 : Cond.methodLink RL 49 yL_outAt ∈ lk := List.mem_append_left _ (List.mem_of_getElem? (i := 60) (by decide +kernel))
theorem n_61 : Cond.static yL_outAt ∈ lk := List.mem_append_left _ (List.mem_of_getElem? (i := 61) (by decide +kernel))
set_option maxRecDepth 100000 in
theorem n_62 : Cond.codeWith yL_outAt cL_outAt 5 (some .int) [(0, 10, 13, 13)] ∈ lk := List.mem_append_left _ (List.mem_of_getElem? (i := 62) rfl)
set_option maxRecDepth 100000 in
theorem n_63 : Cond.code yX13_outAt cX13_outAt 3 (some .int) ∈ lk := List.mem_append_left _ (List.mem_of_getElem? (i := 63) rfl)
theorem n_64 : Cond.methodLink RL 54 yX13_outAt ∈ lk := List.mem_append_left _ (List.mem_of_getElem? (i := 64) (by decide +kernel))
theorem n_65 : Cond.instanceMethod yX13_outAt ∈ lk := List.mem_append_left _ (List.mem_of_getElem? (i := 65) (by decide +kernel))
theorem n_66 : Cond.selects RX13 yX13_outAt yX13_outAt ∈ lk := List.mem_append_left _ (List.mem_of_getElem? (i := 66) (by decide +kernel))
set_option maxRecDepth 100000 in
theorem n_67 : Cond.code yX13_thrown cX13_thrown 1 (some .int) ∈ lk := List.mem_append_left _ (List.mem_of_getElem? (i := 67) rfl)
theorem n_68 : Cond.methodLink RL 55 yX13_thrown ∈ lk := List.mem_append_left _ (List.mem_of_getElem? (i := 68) (by decide +kernel))
theorem n_69 : Cond.instanceMethod yX13_thrown ∈ lk := List.mem_append_left _ (List.mem_of_getElem? (i := 69) (by decide +kernel))
theorem n_70 : Cond.selects RX13 yX13_thrown yX13_thrown ∈ lk := List.mem_append_left _ (List.mem_of_getElem? (i := 70) (by decide +kernel))
set_option maxRecDepth 100000 in
theorem n_71 : Cond.code yX12_take cX12_take 4 (some .boolean) ∈ lk := List.mem_append_left _ (List.mem_of_getElem? (i := 71) rfl)
theorem n_72 : Cond.methodLink RL 59 yX12_take ∈ lk := List.mem_append_left _ (List.mem_of_getElem? (i := 72) (by decide +kernel))
theorem n_73 : Cond.instanceMethod yX12_take ∈ lk := List.mem_append_left _ (List.mem_of_getElem? (i := 73) (by decide +kernel))
theorem n_74 : Cond.selects RX12 yX12_take yX12_take ∈ lk := List.mem_append_left _ (List.mem_of_getElem? (i := 74) (by decide +kernel))
set_option maxRecDepth 100000 in
theorem n_75 : Cond.code yX13_take cX13_take 5 (some .boolean) ∈ lk := List.mem_append_left _ (List.mem_of_getElem? (i := 75) rfl)
theorem n_76 : Cond.methodLink RL 63 yX13_take ∈ lk := List.mem_append_left _ (List.mem_of_getElem? (i := 76) (by decide +kernel))
theorem n_77 : Cond.instanceMethod yX13_take ∈ lk := List.mem_append_left _ (List.mem_of_getElem? (i := 77) (by decide +kernel))
theorem n_78 : Cond.selects RX13 yX13_take yX13_take ∈ lk := List.mem_append_left _ (List.mem_of_getElem? (i := 78) (by decide +kernel))
theorem n_79 : Cond.constantLong RL 64 (4294967295) ∈ lk := List.mem_append_left _ (List.mem_of_getElem? (i := 79) (by decide +kernel))
set_option maxRecDepth 100000 in
theorem n_80 : Cond.code yX12_pass cX12_pass 5 (some .int) ∈ lk := List.mem_append_left _ (List.mem_of_getElem? (i := 80) rfl)
theorem n_81 : Cond.methodLink RL 66 yX12_pass ∈ lk := List.mem_append_left _ (List.mem_of_getElem? (i := 81) (by decide +kernel))
theorem n_82 : Cond.instanceMethod yX12_pass ∈ lk := List.mem_append_left _ (List.mem_of_getElem? (i := 82) (by decide +kernel))
theorem n_83 : Cond.selects RX12 yX12_pass yX12_pass ∈ lk := List.mem_append_left _ (List.mem_of_getElem? (i := 83) (by decide +kernel))
set_option maxRecDepth 100000 in
theorem n_84 : Cond.code yX13_pass cX13_pass 3 (some .int) ∈ lk := List.mem_append_left _ (List.mem_of_getElem? (i := 84) rfl)
theorem n_85 : Cond.methodLink RL 70 yX13_pass ∈ lk := List.mem_append_left _ (List.mem_of_getElem? (i := 85) (by decide +kernel))
theorem n_86 : Cond.instanceMethod yX13_pass ∈ lk := List.mem_append_left _ (List.mem_of_getElem? (i := 86) (by decide +kernel))
theorem n_87 : Cond.selects RX13 yX13_pass yX13_pass ∈ lk := List.mem_append_left _ (List.mem_of_getElem? (i := 87) (by decide +kernel))
set_option maxRecDepth 100000 in
theorem n_88 : Cond.code yX12_now cX12_now 1 (some .long) ∈ lk := List.mem_append_left _ (List.mem_of_getElem? (i := 88) rfl)
theorem n_89 : Cond.methodLink RL 71 yX12_now ∈ lk := List.mem_append_left _ (List.mem_of_getElem? (i := 89) (by decide +kernel))
theorem n_90 : Cond.instanceMethod yX12_now ∈ lk := List.mem_append_left _ (List.mem_of_getElem? (i := 90) (by decide +kernel))
theorem n_91 : Cond.selects RX12 yX12_now yX12_now ∈ lk := List.mem_append_left _ (List.mem_of_getElem? (i := 91) (by decide +kernel))
set_option maxRecDepth 100000 in
theorem n_92 : Cond.code yX13_now cX13_now 1 (some .long) ∈ lk := List.mem_append_left _ (List.mem_of_getElem? (i := 92) rfl)
theorem n_93 : Cond.methodLink RL 75 yX13_now ∈ lk := List.mem_append_left _ (List.mem_of_getElem? (i := 93) (by decide +kernel))
theorem n_94 : Cond.instanceMethod yX13_now ∈ lk := List.mem_append_left _ (List.mem_of_getElem? (i := 94) (by decide +kernel))
theorem n_95 : Cond.selects RX13 yX13_now yX13_now ∈ lk := List.mem_append_left _ (List.mem_of_getElem? (i := 95) (by decide +kernel))
set_option maxRecDepth 100000 in
theorem n_96 : Cond.code yX12_fuse cX12_fuse 2 none ∈ lk := List.mem_append_left _ (List.mem_of_getElem? (i := 96) rfl)
theorem n_97 : Cond.methodLink RL 76 yX12_fuse ∈ lk := List.mem_append_left _ (List.mem_of_getElem? (i := 97) (by decide +kernel))
theorem n_98 : Cond.instanceMethod yX12_fuse ∈ lk := List.mem_append_left _ (List.mem_of_getElem? (i := 98) (by decide +kernel))
theorem n_99 : Cond.selects RX12 yX12_fuse yX12_fuse ∈ lk := List.mem_append_left _ (List.mem_of_getElem? (i := 99) (by decide +kernel))
set_option maxRecDepth 100000 in
theorem n_100 : Cond.code yX13_fuse cX13_fuse 2 none ∈ lk := List.mem_append_left _ (List.mem_of_getElem? (i := 100) rfl)
theorem n_101 : Cond.methodLink RL 80 yX13_fuse ∈ lk := List.mem_append_left _ (List.mem_of_getElem? (i := 101) (by decide +kernel))
theorem n_102 : Cond.instanceMethod yX13_fuse ∈ lk := List.mem_append_left _ (List.mem_of_getElem? (i := 102) (by decide +kernel))
theorem n_103 : Cond.selects RX13 yX13_fuse yX13_fuse ∈ lk := List.mem_append_left _ (List.mem_of_getElem? (i := 103) (by decide +kernel))
set_option maxRecDepth 100000 in
theorem n_104 : Cond.code yX12_crash cX12_crash 1 (some .boolean) ∈ lk := List.mem_append_left _ (List.mem_of_getElem? (i := 104) rfl)
theorem n_105 : Cond.methodLink RL 81 yX12_crash ∈ lk := List.mem_append_left _ (List.mem_of_getElem? (i := 105) (by decide +kernel))
theorem n_106 : Cond.instanceMethod yX12_crash ∈ lk := List.mem_append_left _ (List.mem_of_getElem? (i := 106) (by decide +kernel))
theorem n_107 : Cond.selects RX12 yX12_crash yX12_crash ∈ lk := List.mem_append_left _ (List.mem_of_getElem? (i := 107) (by decide +kernel))
set_option maxRecDepth 100000 in
theorem n_108 : Cond.code yX13_crash cX13_crash 1 (some .boolean) ∈ lk := List.mem_append_left _ (List.mem_of_getElem? (i := 108) rfl)
theorem n_109 : Cond.methodLink RL 85 yX13_crash ∈ lk := List.mem_append_left _ (List.mem_of_getElem? (i := 109) (by decide +kernel))
theorem n_110 : Cond.instanceMethod yX13_crash ∈ lk := List.mem_append_left _ (List.mem_of_getElem? (i := 110) (by decide +kernel))
theorem n_111 : Cond.selects RX13 yX13_crash yX13_crash ∈ lk := List.mem_append_left _ (List.mem_of_getElem? (i := 111) (by decide +kernel))
set_option maxRecDepth 100000 in
theorem n_112 : Cond.code yX12_restart cX12_restart 6 (some .int) ∈ lk := List.mem_append_left _ (List.mem_of_getElem? (i := 112) rfl)
theorem n_113 : Cond.methodLink RL 86 yX12_restart ∈ lk := List.mem_append_left _ (List.mem_of_getElem? (i := 113) (by decide +kernel))
theorem n_114 : Cond.instanceMethod yX12_restart ∈ lk := List.mem_append_left _ (List.mem_of_getElem? (i := 114) (by decide +kernel))
theorem n_115 : Cond.selects RX12 yX12_restart yX12_restart ∈ lk := List.mem_append_left _ (List.mem_of_getElem? (i := 115) (by decide +kernel))
set_option maxRecDepth 100000 in
theorem n_116 : Cond.code yX13_restart cX13_restart 5 (some .int) ∈ lk := List.mem_append_left _ (List.mem_of_getElem? (i := 116) rfl)
theorem n_117 : Cond.methodLink RL 89 yX13_restart ∈ lk := List.mem_append_left _ (List.mem_of_getElem? (i := 117) (by decide +kernel))
theorem n_118 : Cond.instanceMethod yX13_restart ∈ lk := List.mem_append_left _ (List.mem_of_getElem? (i := 118) (by decide +kernel))
theorem n_119 : Cond.selects RX13 yX13_restart yX13_restart ∈ lk := List.mem_append_left _ (List.mem_of_getElem? (i := 119) (by decide +kernel))
set_option maxRecDepth 100000 in
theorem n_120 : Cond.code yX12_rewrite cX12_rewrite 2 (some .int) ∈ lk := List.mem_append_left _ (List.mem_of_getElem? (i := 120) rfl)
theorem n_121 : Cond.methodLink RL 90 yX12_rewrite ∈ lk := List.mem_append_left _ (List.mem_of_getElem? (i := 121) (by decide +kernel))
theorem n_122 : Cond.instanceMethod yX12_rewrite ∈ lk := List.mem_append_left _ (List.mem_of_getElem? (i := 122) (by decide +kernel))
theorem n_123 : Cond.selects RX12 yX12_rewrite yX12_rewrite ∈ lk := List.mem_append_left _ (List.mem_of_getElem? (i := 123) (by decide +kernel))
set_option maxRecDepth 100000 in
theorem n_124 : Cond.code yX13_rewrite cX13_rewrite 10 (some .int) ∈ lk := List.mem_append_left _ (List.mem_of_getElem? (i := 124) rfl)
theorem n_125 : Cond.methodLink RL 93 yX13_rewrite ∈ lk := List.mem_append_left _ (List.mem_of_getElem? (i := 125) (by decide +kernel))
theorem n_126 : Cond.instanceMethod yX13_rewrite ∈ lk := List.mem_append_left _ (List.mem_of_getElem? (i := 126) (by decide +kernel))
theorem n_127 : Cond.selects RX13 yX13_rewrite yX13_rewrite ∈ lk := List.mem_append_left _ (List.mem_of_getElem? (i := 127) (by decide +kernel))
set_option maxRecDepth 100000 in
theorem n_128 : Cond.code yX12_log cX12_log 1 (some .int) ∈ lk := List.mem_append_left _ (List.mem_of_getElem? (i := 128) rfl)
theorem n_129 : Cond.methodLink RL 94 yX12_log ∈ lk := List.mem_append_left _ (List.mem_of_getElem? (i := 129) (by decide +kernel))
theorem n_130 : Cond.instanceMethod yX12_log ∈ lk := List.mem_append_left _ (List.mem_of_getElem? (i := 130) (by decide +kernel))
theorem n_131 : Cond.selects RX12 yX12_log yX12_log ∈ lk := List.mem_append_left _ (List.mem_of_getElem? (i := 131) (by decide +kernel))
set_option maxRecDepth 100000 in
theorem n_132 : Cond.code yX13_log cX13_log 1 (some .int) ∈ lk := List.mem_append_left _ (List.mem_of_getElem? (i := 132) rfl)
theorem n_133 : Cond.methodLink RL 97 yX13_log ∈ lk := List.mem_append_left _ (List.mem_of_getElem? (i := 133) (by decide +kernel))
theorem n_134 : Cond.instanceMethod yX13_log ∈ lk := List.mem_append_left _ (List.mem_of_getElem? (i := 134) (by decide +kernel))
theorem n_135 : Cond.selects RX13 yX13_log yX13_log ∈ lk := List.mem_append_left _ (List.mem_of_getElem? (i := 135) (by decide +kernel))
set_option maxRecDepth 100000 in
theorem n_136 : Cond.code yX12_tear cX12_tear 2 (some .boolean) ∈ lk := List.mem_append_left _ (List.mem_of_getElem? (i := 136) rfl)
theorem n_137 : Cond.methodLink RL 102 yX12_tear ∈ lk := List.mem_append_left _ (List.mem_of_getElem? (i := 137) (by decide +kernel))
theorem n_138 : Cond.instanceMethod yX12_tear ∈ lk := List.mem_append_left _ (List.mem_of_getElem? (i := 138) (by decide +kernel))
theorem n_139 : Cond.selects RX12 yX12_tear yX12_tear ∈ lk := List.mem_append_left _ (List.mem_of_getElem? (i := 139) (by decide +kernel))
set_option maxRecDepth 100000 in
theorem n_140 : Cond.code yX13_tear cX13_tear 2 (some .boolean) ∈ lk := List.mem_append_left _ (List.mem_of_getElem? (i := 140) rfl)
theorem n_141 : Cond.methodLink RL 105 yX13_tear ∈ lk := List.mem_append_left _ (List.mem_of_getElem? (i := 141) (by decide +kernel))
theorem n_142 : Cond.instanceMethod yX13_tear ∈ lk := List.mem_append_left _ (List.mem_of_getElem? (i := 142) (by decide +kernel))
theorem n_143 : Cond.selects RX13 yX13_tear yX13_tear ∈ lk := List.mem_append_left _ (List.mem_of_getElem? (i := 143) (by decide +kernel))
set_option maxRecDepth 100000 in
theorem n_144 : Cond.code yX12_isUp cX12_isUp 1 (some .boolean) ∈ lk := List.mem_append_left _ (List.mem_of_getElem? (i := 144) rfl)
theorem n_145 : Cond.methodLink RL 106 yX12_isUp ∈ lk := List.mem_append_left _ (List.mem_of_getElem? (i := 145) (by decide +kernel))
theorem n_146 : Cond.instanceMethod yX12_isUp ∈ lk := List.mem_append_left _ (List.mem_of_getElem? (i := 146) (by decide +kernel))
theorem n_147 : Cond.selects RX12 yX12_isUp yX12_isUp ∈ lk := List.mem_append_left _ (List.mem_of_getElem? (i := 147) (by decide +kernel))
set_option maxRecDepth 100000 in
theorem n_148 : Cond.code yX13_isUp cX13_isUp 1 (some .boolean) ∈ lk := List.mem_append_left _ (List.mem_of_getElem? (i := 148) rfl)
theorem n_149 : Cond.methodLink RL 109 yX13_isUp ∈ lk := List.mem_append_left _ (List.mem_of_getElem? (i := 149) (by decide +kernel))
theorem n_150 : Cond.instanceMethod yX13_isUp ∈ lk := List.mem_append_left _ (List.mem_of_getElem? (i := 150) (by decide +kernel))
theorem n_151 : Cond.selects RX13 yX13_isUp yX13_isUp ∈ lk := List.mem_append_left _ (List.mem_of_getElem? (i := 151) (by decide +kernel))
theorem n_152 : Cond.methodLink RL 98 yL_logAt ∈ lk := List.mem_append_left _ (List.mem_of_getElem? (i := 152) (by decide +kernel))
theorem n_153 : Cond.static yL_logAt ∈ lk := List.mem_append_left _ (List.mem_of_getElem? (i := 153) (by decide +kernel))
set_option maxRecDepth 100000 in
theorem n_154 : Cond.codeWith yL_logAt cL_logAt 4 (some .int) [(0, 9, 12, 13)] ∈ lk := List.mem_append_left _ (List.mem_of_getElem? (i := 154) rfl)
set_option maxRecDepth 100000 in
theorem n_155 : Cond.code yX13_logAt cX13_logAt 2 (some .int) ∈ lk := List.mem_append_left _ (List.mem_of_getElem? (i := 155) rfl)
theorem n_156 : Cond.methodLink RL 101 yX13_logAt ∈ lk := List.mem_append_left _ (List.mem_of_getElem? (i := 156) (by decide +kernel))
theorem n_157 : Cond.instanceMethod yX13_logAt ∈ lk := List.mem_append_left _ (List.mem_of_getElem? (i := 157) (by decide +kernel))
theorem n_158 : Cond.selects RX13 yX13_logAt yX13_logAt ∈ lk := List.mem_append_left _ (List.mem_of_getElem? (i := 158) (by decide +kernel))
set_option maxRecDepth 100000 in
theorem n_159 : Cond.code yX12_total cX12_total 2 (some .int) ∈ lk := List.mem_append_left _ (List.mem_of_getElem? (i := 159) rfl)
theorem n_160 : Cond.methodLink RL 110 yX12_total ∈ lk := List.mem_append_left _ (List.mem_of_getElem? (i := 160) (by decide +kernel))
theorem n_161 : Cond.instanceMethod yX12_total ∈ lk := List.mem_append_left _ (List.mem_of_getElem? (i := 161) (by decide +kernel))
theorem n_162 : Cond.selects RX12 yX12_total yX12_total ∈ lk := List.mem_append_left _ (List.mem_of_getElem? (i := 162) (by decide +kernel))
set_option maxRecDepth 100000 in
theorem n_163 : Cond.code yX13_total cX13_total 4 (some .int) ∈ lk := List.mem_append_left _ (List.mem_of_getElem? (i := 163) rfl)
theorem n_164 : Cond.methodLink RL 113 yX13_total ∈ lk := List.mem_append_left _ (List.mem_of_getElem? (i := 164) (by decide +kernel))
theorem n_165 : Cond.instanceMethod yX13_total ∈ lk := List.mem_append_left _ (List.mem_of_getElem? (i := 165) (by decide +kernel))
theorem n_166 : Cond.selects RX13 yX13_total yX13_total ∈ lk := List.mem_append_left _ (List.mem_of_getElem? (i := 166) (by decide +kernel))
theorem n_167 : Cond.instantiable RX1 4 ∈ lk := List.mem_append_left _ (List.mem_of_getElem? (i := 167) (by decide +kernel))
theorem n_168 : Cond.instantiable RX3 12 ∈ lk := List.mem_append_left _ (List.mem_of_getElem? (i := 168) (by decide +kernel))
theorem n_169 : Cond.instantiable RX11 5 ∈ lk := List.mem_append_left _ (List.mem_of_getElem? (i := 169) (by decide +kernel))
theorem n_170 : Cond.instantiable RX8 17 ∈ lk := List.mem_append_left _ (List.mem_of_getElem? (i := 170) (by decide +kernel))
theorem n_171 : Cond.instantiable RX4 19 ∈ lk := List.mem_append_left _ (List.mem_of_getElem? (i := 171) (by decide +kernel))
theorem n_172 : Cond.instantiable RX9 7 ∈ lk := List.mem_append_left _ (List.mem_of_getElem? (i := 172) (by decide +kernel))
theorem n_173 : Cond.instantiable RX5 3 ∈ lk := List.mem_append_left _ (List.mem_of_getElem? (i := 173) (by decide +kernel))
theorem n_174 : Cond.instantiable RX6 6 ∈ lk := List.mem_append_left _ (List.mem_of_getElem? (i := 174) (by decide +kernel))
theorem n_175 : Cond.instantiable RX7 9 ∈ lk := List.mem_append_left _ (List.mem_of_getElem? (i := 175) (by decide +kernel))
theorem n_176 : Cond.instantiable RX12 18 ∈ lk := List.mem_append_left _ (List.mem_of_getElem? (i := 176) (by decide +kernel))
theorem n_177 : Cond.instantiable RX13 116 ∈ lk := List.mem_append_left _ (List.mem_of_getElem? (i := 177) (by decide +kernel))
theorem n_178 : Cond.classLink RL 8 RX12 ∈ lk := List.mem_append_left _ (List.mem_of_getElem? (i := 178) (by decide +kernel))
set_option maxRecDepth 100000 in
theorem n_179 : Cond.code yX12_init cX12_init 5 none ∈ lk := List.mem_append_left _ (List.mem_of_getElem? (i := 179) rfl)
theorem n_180 : Cond.methodLink RL 19 yX12_init ∈ lk := List.mem_append_left _ (List.mem_of_getElem? (i := 180) (by decide +kernel))
theorem n_181 : Cond.instanceMethod yX12_init ∈ lk := List.mem_append_left _ (List.mem_of_getElem? (i := 181) (by decide +kernel))
theorem n_182 : Cond.classLink RL 20 RX13 ∈ lk := List.mem_append_left _ (List.mem_of_getElem? (i := 182) (by decide +kernel))
set_option maxRecDepth 100000 in
theorem n_183 : Cond.code yX13_init cX13_init 2 none ∈ lk := List.mem_append_left _ (List.mem_of_getElem? (i := 183) rfl)
theorem n_184 : Cond.methodLink RL 22 yX13_init ∈ lk := List.mem_append_left _ (List.mem_of_getElem? (i := 184) (by decide +kernel))
theorem n_185 : Cond.instanceMethod yX13_init ∈ lk := List.mem_append_left _ (List.mem_of_getElem? (i := 185) (by decide +kernel))
theorem n_186 : Cond.arrayClass .long ∈ lk := List.mem_append_left _ (List.mem_of_getElem? (i := 186) (by decide +kernel))
set_option maxRecDepth 100000 in
theorem law_fx {s : State} {b : Nat} (hts : ∀ w ∈ lw_tbl, w.before #[Value.ref b] s = true) : fx s := ⟨va_AO.of (hts (.arrayOver (.object "KeySteward$Connection")) (List.mem_of_getElem? (i := 375) (by decide +kernel))), va_AO.of (hts (.arrayOver (.object "KeySteward$Value")) (List.mem_of_getElem? (i := 561) (by decide +kernel))), va_Nw.of rfl (hts (.methodLinkNest "KeySteward" 44 yX3_init "KeySteward") (List.mem_of_getElem? (i := 377) (by decide +kernel))), va_Nw.of rfl (hts (.methodLinkNest "KeySteward" 47 yX11_init "KeySteward") (List.mem_of_getElem? (i := 436) (by decide +kernel)))⟩
def xF (s : State) : Prop := vx_Zq "java/lang/Throwable" "UNASSIGNED_STACK" "[Ljava/lang/StackTraceElement;" (fun q : Nat => s.heap.size ≤ q) s s.heap ∧ vx_Zq "java/lang/Throwable" "SUPPRESSED_SENTINEL" "Ljava/util/List;" (fun q : Nat => s.heap.size ≤ q) s s.heap ∧ exF s
set_option maxRecDepth 100000 in
theorem law_xF {s : State} {b : Nat} (hts : ∀ w ∈ lw_tbl, w.before #[Value.ref b] s = true) (hgv : (Jvm.Cond.and given_1 narrow_1).before #[Value.ref b] s = true) : xF s := ⟨vx_Zqof (hts (.laysStatic "java/lang/Throwable" "UNASSIGNED_STACK" "[Ljava/lang/StackTraceElement;") (List.mem_of_getElem? (i := 2300) (by decide +kernel))) (hts (.initialized "java/lang/Throwable") (List.mem_of_getElem? (i := 333) (by decide +kernel))) ((flat_of_before _ hgv) (.isRef (.static "java/lang/Throwable" "UNASSIGNED_STACK" "[Ljava/lang/StackTraceElement;")) (by decide +kernel)) (fun a h => Nat.not_le.mpr h), vx_Zqof (hts (.laysStatic "java/lang/Throwable" "SUPPRESSED_SENTINEL" "Ljava/util/List;") (List.mem_of_getElem? (i := 2302) (by decide +kernel))) (hts (.initialized "java/lang/Throwable") (List.mem_of_getElem? (i := 333) (by decide +kernel))) ((flat_of_before _ hgv) (.isRef (.static "java/lang/Throwable" "SUPPRESSED_SENTINEL" "Ljava/util/List;")) (by decide +kernel)) (fun a h => Nat.not_le.mpr h), va_Nw.of rfl (hts (.declares ⟨"java/lang/RuntimeException", "<init>", "()V"⟩) (List.mem_of_getElem? (i := 2276) (by decide +kernel))), va_Nw.of rfl (hts (.declares ⟨"java/lang/Exception", "<init>", "()V"⟩) (List.mem_of_getElem? (i := 2278) (by decide +kernel))), va_Nw.of rfl (hts (.declares ⟨"java/lang/Throwable", "<init>", "()V"⟩) (List.mem_of_getElem? (i := 2280) (by decide +kernel))), va_Nw.of rfl (hts (.castable "java/util/NoSuchElementException" "java/util/NoSuchElementException") (List.mem_of_getElem? (i := 2275) (by decide +kernel)))⟩
theorem lt6 : ∀ L : Nat, L < 6 → (Int32.ofNat L - 6 : Int32) < 0 := by decide
theorem sgn3 (x : Int32) : x < 0 ∨ x = 0 ∨ 0 < x := by
  rcases Int.lt_trichotomy x.toInt 0 with h | h | h
  · exact Or.inl (Int32.lt_iff_toInt_lt.mpr h)
  · exact Or.inr (Or.inl (Int32.toInt_inj.mp h))
  · exact Or.inr (Or.inr (Int32.lt_iff_toInt_lt.mpr h))
theorem lt_of3 {x : Int32} (h : nI 3 ≤ x) : 2 < x := Int32.lt_iff_toInt_lt.mpr (by
  have h3 := Int32.le_iff_toInt_le.mp h
  rw [nI_toInt (by decide)] at h3
  have e2 : (2 : Int32).toInt = 2 := by decide
  omega)
