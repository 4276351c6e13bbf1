/-! THE CLAIM OUT OF ONE WALK OF THE LAW'S BODY. Your part is whole_start (and what it stands on); all else here is the same for every law, but numbers. -/
def R_law : String := "KeyStewardLaw"
def lw_P (b : Addr) (xs : List Int32) (args : Array Value) (s : State) : Prop := args = #[.ref b] ∧ s.IntsAt b xs ∧ xs.length ≤ 6 ∧ (Jvm.Cond.and given_1 narrow_1).before args s = true
def lw_Q (_ : Array Value) (s : State) (o : Outcome) (t : State) : Prop := o = .returned (some (.int 1)) ∧ Framed s o t [] 385092 7946960
def lw_Z (below : List Frame) (a : Array Value) (s : State) : State → Prop := fun t => ∃ o, t.status = .running ∧ Ended t below o ∧ lw_Q a s o t
/-- the law's own end, with 1 on the stack, nothing written that was there before, its room as the claim has it -/
theorem lw_ret {p : Program} {l : Launch} {e : Env} {s : State} {m : MethodId} {below : List Frame} {meth : Method} {c : Code} {b : Nat} (hx : p.tables.exec = Jvm.exec) (hb : c.code = code) (hr : meth.sig.returnType = ret) (hlocks : meth.locks = false) {pc : Nat} {H : Heap} {ls : Array Slot} (hdg : decode code pc = .ok (.ireturn, 1)) : W p l e room_1 s m #[Value.ref b] below meth c H [] 385092 7946960 (lw_Z below #[Value.ref b] s) (F0 m pc ls [.int 1]) := by
  intro T hT X
  obtain ⟨fs, hret, hrun, hended, hW, hframe⟩ := X.leave (v := some (.int 1)) (hlocks := hlocks) (fun h => by rw [hr] at h; cases h)
  have hmeth' : T.vm.method? m = some meth := X.method'
  refine ⟨T.setFrames fs, ?_, .returned (some (.int 1)), hrun, hended, rfl, ⟨_, rfl⟩, hW, hframe⟩
  jvm_step X.here [X.here.top, hx, hb, hdg, hmeth', hr, ret, narrow_b1]
  (try refine ⟨rfl, ?_⟩); (try refine ⟨rfl, ?_⟩)
  first | (intro acts; rw [hret _ acts rfl rfl rfl]) | rw [hret _ _ rfl rfl rfl]
  exact Steps.refl _
/-- what holds at the law's entry: the machine, the code, the tables' words (any of lw_tbl by 'hts w (by decide +kernel)'), the script of L ints xs at the cell b, what the Statement gives of the start (any of its parts by flat_of_before) -/
def lw_At (p : Program) (s : State) (m : MethodId) (meth : Method) (c : Code) (b L : Nat) (xs : Nat → Int32) : Prop :=
  p.tables.exec = Jvm.exec ∧ c.code = code ∧ meth.sig.returnType = ret ∧ c.maxLocals = 7 ∧ s.vm.findClass R_law = some m.cls ∧ (∀ w ∈ lw_tbl, w.before #[Value.ref b] s = true) ∧ va_X b L xs s s.heap ∧ b < s.heap.size ∧ meth.locks = false ∧ (Jvm.Cond.and given_1 narrow_1).before #[Value.ref b] s = true

def kwL : List Cond := [.code yX12_outAt cX12_outAt 4 (some .int),
  .initialized RX12,
  .methodLink RL 7 yX12_outAt,
  .instanceMethod yX12_outAt,
  .selects RX12 yX12_outAt yX12_outAt,
  .classLink RL 13 "java/util/NoSuchElementException",
  .code yX12_logAt cX12_logAt 2 (some .int),
  .methodLink RL 15 yX12_logAt,
  .instanceMethod yX12_logAt,
  .selects RX12 yX12_logAt yX12_logAt,
  .code yX12_feed cX12_feed 6 (some .boolean),
  .methodLink RL 23 yX12_feed,
  .instanceMethod yX12_feed,
  .selects RX12 yX12_feed yX12_feed,
  .code yX13_feed cX13_feed 8 (some .boolean),
  .initialized RX13,
  .methodLink RL 27 yX13_feed,
  .instanceMethod yX13_feed,
  .selects RX13 yX13_feed yX13_feed,
  .code yX12_end cX12_end 2 (some .boolean),
  .methodLink RL 28 yX12_end,
  .instanceMethod yX12_end,
  .selects RX12 yX12_end yX12_end,
  .code yX13_end cX13_end 2 (some .boolean),
  .methodLink RL 32 yX13_end,
  .instanceMethod yX13_end,
  .selects RX13 yX13_end yX13_end,
  .code yX12_send cX12_send 10 (some .int),
  .methodLink RL 33 yX12_send,
  .instanceMethod yX12_send,
  .selects RX12 yX12_send yX12_send,
  .code yX13_send cX13_send 9 (some .int),
  .methodLink RL 36 yX13_send,
  .instanceMethod yX13_send,
  .selects RX13 yX13_send yX13_send,
  .code yX12_open cX12_open 3 (some .boolean),
  .methodLink RL 37 yX12_open,
  .instanceMethod yX12_open,
  .selects RX12 yX12_open yX12_open,
  .code yX13_open cX13_open 2 (some .boolean),
  .methodLink RL 40 yX13_open,
  .instanceMethod yX13_open,
  .selects RX13 yX13_open yX13_open,
  .code yX12_isOpen cX12_isOpen 3 (some .boolean),
  .methodLink RL 41 yX12_isOpen,
  .instanceMethod yX12_isOpen,
  .selects RX12 yX12_isOpen yX12_isOpen,
  .code yX13_isOpen cX13_isOpen 2 (some .boolean),
  .methodLink RL 44 yX13_isOpen,
  .instanceMethod yX13_isOpen,
  .selects RX13 yX13_isOpen yX13_isOpen,
  .code yX12_out cX12_out 3 (some .int),
  .methodLink RL 45 yX12_out,
  .instanceMethod yX12_out,
  .selects RX12 yX12_out yX12_out,
  .code yX13_out cX13_out 2 (some .int),
  .methodLink RL 48 yX13_out,
  .instanceMethod yX13_out,
  .selects RX13 yX13_out yX13_out,
  .initialized RL,
  .methodLink RL 49 yL_outAt,
  .static yL_outAt,
  .codeWith yL_outAt cL_outAt 5 (some .int) [(0, 10, 13, 13)],
  .code yX13_outAt cX13_outAt 3 (some .int),
  .methodLink RL 54 yX13_outAt,
  .instanceMethod yX13_outAt,
  .selects RX13 yX13_outAt yX13_outAt,
  .code yX13_thrown cX13_thrown 1 (some .int),
  .methodLink RL 55 yX13_thrown,
  .instanceMethod yX13_thrown,
  .selects RX13 yX13_thrown yX13_thrown,
  .code yX12_take cX12_take 4 (some .boolean),
  .methodLink RL 59 yX12_take,
  .instanceMethod yX12_take,
  .selects RX12 yX12_take yX12_take,
  .code yX13_take cX13_take 5 (some .boolean),
  .methodLink RL 63 yX13_take,
  .instanceMethod yX13_take,
  .selects RX13 yX13_take yX13_take,
  .constantLong RL 64 (4294967295),
  .code yX12_pass cX12_pass 5 (some .int),
  .methodLink RL 66 yX12_pass,
  .instanceMethod yX12_pass,
  .selects RX12 yX12_pass yX12_pass,
  .code yX13_pass cX13_pass 3 (some .int),
  .methodLink RL 70 yX13_pass,
  .instanceMethod yX13_pass,
  .selects RX13 yX13_pass yX13_pass,
  .code yX12_now cX12_now 1 (some .long),
  .methodLink RL 71 yX12_now,
  .instanceMethod yX12_now,
  .selects RX12 yX12_now yX12_now,
  .code yX13_now cX13_now 1 (some .long),
  .methodLink RL 75 yX13_now,
  .instanceMethod yX13_now,
  .selects RX13 yX13_now yX13_now,
  .code yX12_fuse cX12_fuse 2 none,
  .methodLink RL 76 yX12_fuse,
  .instanceMethod yX12_fuse,
  .selects RX12 yX12_fuse yX12_fuse,
  .code yX13_fuse cX13_fuse 2 none,
  .methodLink RL 80 yX13_fuse,
  .instanceMethod yX13_fuse,
  .selects RX13 yX13_fuse yX13_fuse,
  .code yX12_crash cX12_crash 1 (some .boolean),
  .methodLink RL 81 yX12_crash,
  .instanceMethod yX12_crash,
  .selects RX12 yX12_crash yX12_crash,
  .code yX13_crash cX13_crash 1 (some .boolean),
  .methodLink RL 85 yX13_crash,
  .instanceMethod yX13_crash,
  .selects RX13 yX13_crash yX13_crash,
  .code yX12_restart cX12_restart 6 (some .int),
  .methodLink RL 86 yX12_restart,
  .instanceMethod yX12_restart,
  .selects RX12 yX12_restart yX12_restart,
  .code yX13_restart cX13_restart 5 (some .int),
  .methodLink RL 89 yX13_restart,
  .instanceMethod yX13_restart,
  .selects RX13 yX13_restart yX13_restart,
  .code yX12_rewrite cX12_rewrite 2 (some .int),
  .methodLink RL 90 yX12_rewrite,
  .instanceMethod yX12_rewrite,
  .selects RX12 yX12_rewrite yX12_rewrite,
  .code yX13_rewrite cX13_rewrite 10 (some .int),
  .methodLink RL 93 yX13_rewrite,
  .instanceMethod yX13_rewrite,
  .selects RX13 yX13_rewrite yX13_rewrite,
  .code yX12_log cX12_log 1 (some .int),
  .methodLink RL 94 yX12_log,
  .instanceMethod yX12_log,
  .selects RX12 yX12_log yX12_log,
  .code yX13_log cX13_log 1 (some .int),
  .methodLink RL 97 yX13_log,
  .instanceMethod yX13_log,
  .selects RX13 yX13_log yX13_log,
  .code yX12_tear cX12_tear 2 (some .boolean),
  .methodLink RL 102 yX12_tear,
  .instanceMethod yX12_tear,
  .selects RX12 yX12_tear yX12_tear,
  .code yX13_tear cX13_tear 2 (some .boolean),
  .methodLink RL 105 yX13_tear,
  .instanceMethod yX13_tear,
  .selects RX13 yX13_tear yX13_tear,
  .code yX12_isUp cX12_isUp 1 (some .boolean),
  .methodLink RL 106 yX12_isUp,
  .instanceMethod yX12_isUp,
  .selects RX12 yX12_isUp yX12_isUp,
  .code yX13_isUp cX13_isUp 1 (some .boolean),
  .methodLink RL 109 yX13_isUp,
  .instanceMethod yX13_isUp,
  .selects RX13 yX13_isUp yX13_isUp,
  .methodLink RL 98 yL_logAt,
  .static yL_logAt,
  .codeWith yL_logAt cL_logAt 4 (some .int) [(0, 9, 12, 13)],
  .code yX13_logAt cX13_logAt 2 (some .int),
  .methodLink RL 101 yX13_logAt,
  .instanceMethod yX13_logAt,
  .selects RX13 yX13_logAt yX13_logAt,
  .code yX12_total cX12_total 2 (some .int),
  .methodLink RL 110 yX12_total,
  .instanceMethod yX12_total,
  .selects RX12 yX12_total yX12_total,
  .code yX13_total cX13_total 4 (some .int),
  .methodLink RL 113 yX13_total,
  .instanceMethod yX13_total,
  .selects RX13 yX13_total yX13_total,
  .instantiable RX1 4,
  .instantiable RX3 12,
  .instantiable RX11 5,
  .instantiable RX8 17,
  .instantiable RX4 19,
  .instantiable RX9 7,
  .instantiable RX5 3,
  .instantiable RX6 6,
  .instantiable RX7 9,
  .instantiable RX12 18,
  .instantiable RX13 116,
  .classLink RL 8 RX12,
  .code yX12_init cX12_init 5 none,
  .methodLink RL 19 yX12_init,
  .instanceMethod yX12_init,
  .classLink RL 20 RX13,
  .code yX13_init cX13_init 2 none,
  .methodLink RL 22 yX13_init,
  .instanceMethod yX13_init,
  .arrayClass .long]
def lk : List Cond := kwL ++ kx
theorem kwL_good : kwL.all goodWord = true := by decide +kernel
theorem lk_good (w : Cond) (h : w ∈ lk) : goodWord w = true := (List.mem_append.mp h).elim (List.all_eq_true.mp kwL_good w) (kx_good w)
theorem in_pl {big ws : List Cond} (ps : List Nat) (h : ws.map some = ps.map (fun i => big[i]?)) : ∀ w ∈ ws, w ∈ big := fun w hw => by
  have h1 : some w ∈ ws.map some := List.mem_map.mpr ⟨w, hw, rfl⟩
  rw [h] at h1
  obtain ⟨i, -, hi⟩ := List.mem_map.mp h1
  exact List.mem_of_getElem? hi
theorem in_mix {big ws : List Cond} (pc pn : List Nat) (hc : ws.filter k2_isCode = pc.filterMap (fun i => big[i]?)) (hn : (ws.filter (fun w => !k2_isCode w)).map some = pn.map (fun i => big[i]?)) : ∀ w ∈ ws, w ∈ big := fun w hw => by
  by_cases h : k2_isCode w = true
  · have h1 : w ∈ ws.filter k2_isCode := List.mem_filter.mpr ⟨hw, h⟩
    rw [hc] at h1
    obtain ⟨i, -, hi⟩ := List.mem_filterMap.mp h1
    exact List.mem_of_getElem? hi
  · exact in_pl pn hn w (List.mem_filter.mpr ⟨hw, by simpa using h⟩)
theorem by_take {l : List Cond} {P : Cond → Prop} (n : Nat) (h1 : ∀ w ∈ l.take n, P w) (h2 : ∀ w ∈ l.drop n, P w) : ∀ w ∈ l, P w := fun w hw => by
  rw [← List.take_append_drop n l] at hw
  exact (List.mem_append.mp hw).elim (h1 w) (h2 w)
set_option maxRecDepth 100000 in
set_option maxHeartbeats 4000000 in
theorem kwL_c0 : ∀ w ∈ (kwL).take 40, w ∈ lw_tbl := in_mix [1975, 2043, 498, 2540, 531, 2544, 539, 2548, 1871, 3298] [13, 1972, 1973, 1974, 1971, 2040, 2041, 2042, 495, 496, 497, 23, 2537, 2538, 2539, 528, 529, 530, 2541, 2542, 2543, 536, 537, 538, 2545, 2546, 2547, 1868, 1869, 1870] rfl (by decide +kernel)
set_option maxRecDepth 100000 in
set_option maxHeartbeats 4000000 in
theorem kwL_c1 : ∀ w ∈ ((kwL).drop 40).take 40, w ∈ lw_tbl := in_mix [1875, 3305, 1879, 3309, 3313, 2536, 1883, 3317] [3295, 3296, 3297, 1872, 1873, 1874, 3302, 3303, 3304, 1876, 1877, 1878, 3306, 3307, 3308, 12, 1968, 1969, 1970, 3310, 3311, 3312, 2533, 2534, 2535, 1880, 1881, 1882, 3314, 3315, 3316, 3387] rfl (by decide +kernel)
set_option maxRecDepth 100000 in
set_option maxHeartbeats 4000000 in
theorem kwL_c2 : ∀ w ∈ (((kwL).drop 40).drop 40).take 40, w ∈ lw_tbl := in_mix [1887, 3321, 1904, 3331, 1908, 3335, 1912, 3339, 1916, 3343] [1884, 1885, 1886, 3318, 3319, 3320, 1901, 1902, 1903, 3328, 3329, 3330, 1905, 1906, 1907, 3332, 3333, 3334, 1909, 1910, 1911, 3336, 3337, 3338, 1913, 1914, 1915, 3340, 3341, 3342] rfl (by decide +kernel)
set_option maxRecDepth 100000 in
set_option maxHeartbeats 4000000 in
theorem kwL_c3 : ∀ w ∈ ((((kwL).drop 40).drop 40).drop 40).take 40, w ∈ lw_tbl := in_mix [1934, 3362, 1955, 3370, 1959, 3378, 1963, 3382, 3374, 1967] [1931, 1932, 1933, 3359, 3360, 3361, 1952, 1953, 1954, 3367, 3368, 3369, 1956, 1957, 1958, 3375, 3376, 3377, 1960, 1961, 1962, 3379, 3380, 3381, 2037, 2038, 2039, 3371, 3372, 3373] rfl (by decide +kernel)
set_option maxRecDepth 100000 in
set_option maxHeartbeats 4000000 in
theorem kwL_c4 : ∀ w ∈ ((((kwL).drop 40).drop 40).drop 40).drop 40, w ∈ lw_tbl := in_mix [3386, 44, 2048] [1964, 1965, 1966, 3383, 3384, 3385, 49, 79, 138, 160, 258, 334, 364, 380, 407, 41, 2045, 40, 42, 43, 2044, 2046, 2047, 332] rfl (by decide +kernel)
theorem kwL_in : ∀ w ∈ kwL, w ∈ lw_tbl := by_take 40 kwL_c0 (by_take 40 kwL_c1 (by_take 40 kwL_c2 (by_take 40 kwL_c3 (kwL_c4))))
set_option maxRecDepth 100000 in
set_option maxHeartbeats 4000000 in
theorem kwW_c0 : ∀ w ∈ (kwW).take 40, w ∈ lw_tbl := in_mix [47, 507, 53, 547] [54, 46, 75, 56, 55, 60, 64, 14, 504, 505, 506, 552, 527, 526, 26, 83, 89, 84, 49, 85, 86, 52, 91, 87, 93, 88, 95, 136, 105, 107, 106, 101, 97, 99, 103, 653] rfl (by decide +kernel)
set_option maxRecDepth 100000 in
set_option maxHeartbeats 4000000 in
theorem kwW_c1 : ∀ w ∈ ((kwW).drop 40).take 40, w ∈ lw_tbl := in_mix [661, 657] [545, 546, 15, 658, 659, 660, 654, 655, 656, 109, 142, 143, 144, 145, 146, 164, 168, 169, 170, 167, 165, 166, 184, 262, 268, 269, 263, 270, 272, 275, 332, 277, 279, 265, 266, 267, 338, 339] rfl (by decide +kernel)
set_option maxRecDepth 100000 in
set_option maxHeartbeats 4000000 in
theorem kwW_c2 : ∀ w ∈ (((kwW).drop 40).drop 40).take 40, w ∈ lw_tbl := in_mix [503, 535, 1866] [340, 343, 341, 342, 368, 369, 370, 371, 384, 385, 386, 390, 391, 387, 388, 389, 411, 412, 413, 414, 174, 182, 442, 440, 61, 499, 500, 501, 502, 532, 533, 534, 90, 92, 1863, 1864, 1865] rfl (by decide +kernel)
set_option maxRecDepth 100000 in
set_option maxHeartbeats 4000000 in
theorem kwW_c3 : ∀ w ∈ ((((kwW).drop 40).drop 40).drop 40).take 40, w ∈ lw_tbl := in_mix [543, 652, 551, 557, 1862, 1892, 1843] [1867, 13, 540, 542, 0, 94, 457, 1757, 650, 651, 544, 57, 548, 549, 550, 553, 444, 17, 554, 555, 556, 1859, 1861, 1, 445, 286, 450, 456, 1888, 287, 1889, 1891, 2] rfl (by decide +kernel)
set_option maxRecDepth 100000 in
set_option maxHeartbeats 4000000 in
theorem kwW_c4 : ∀ w ∈ (((((kwW).drop 40).drop 40).drop 40).drop 40).take 40, w ∈ lw_tbl := in_mix [1858, 1851, 1855, 1847, 82] [1840, 1842, 3, 451, 282, 284, 281, 276, 280, 147, 25, 1856, 1857, 453, 18, 1848, 1849, 1850, 443, 16, 1852, 1853, 1854, 1844, 1846, 4, 45, 48, 50, 51, 441, 76, 452, 77, 79] rfl (by decide +kernel)
set_option maxRecDepth 100000 in
set_option maxHeartbeats 4000000 in
theorem kwW_c5 : ∀ w ∈ ((((((kwW).drop 40).drop 40).drop 40).drop 40).drop 40).take 40, w ∈ lw_tbl := in_mix [141, 163, 261, 337, 367, 383, 410] [81, 137, 138, 140, 159, 160, 161, 162, 257, 258, 259, 260, 333, 334, 19, 335, 336, 446, 363, 364, 20, 365, 366, 447, 379, 380, 21, 381, 382, 448, 406, 407, 22] rfl (by decide +kernel)
set_option maxRecDepth 100000 in
set_option maxHeartbeats 4000000 in
theorem kwW_c6 : ∀ w ∈ (((((((kwW).drop 40).drop 40).drop 40).drop 40).drop 40).drop 40).take 40, w ∈ lw_tbl := in_mix [2069] [408, 409, 449, 2189, 2184, 2185, 2186, 2187, 2188, 2065, 23, 2066, 2068, 5, 2070, 2071, 2072, 2073, 2074, 2075, 2076, 2077, 2078, 2079, 2080, 2081, 2082, 2083, 2084, 2085, 2086, 2087, 2088, 2089, 2090, 2091, 2092, 2093, 2094] rfl (by decide +kernel)
set_option maxRecDepth 100000 in
set_option maxHeartbeats 4000000 in
theorem kwW_c7 : ∀ w ∈ ((((((((kwW).drop 40).drop 40).drop 40).drop 40).drop 40).drop 40).drop 40).take 40, w ∈ lw_tbl := in_mix [] [2095, 2096, 2097, 2098, 2099, 2100, 2101, 2102, 2103, 2104, 2105, 2106, 2107, 2108, 2109, 2110, 2111, 2112, 2113, 2114, 2115, 2116, 2117, 2118, 2119, 2120, 2121, 2122, 2123, 2124, 2125, 2126, 2127, 2128, 2129, 2130, 2131, 2132, 2133, 2134] rfl (by decide +kernel)
set_option maxRecDepth 100000 in
set_option maxHeartbeats 4000000 in
theorem kwW_c8 : ∀ w ∈ (((((((((kwW).drop 40).drop 40).drop 40).drop 40).drop 40).drop 40).drop 40).drop 40).take 40, w ∈ lw_tbl := in_mix [] [2135, 2136, 2137, 2138, 2139, 2140, 2141, 2142, 2143, 2144, 2145, 2146, 2147, 2148, 2149, 2150, 2151, 2152, 2153, 2154, 2155, 2156, 2157, 2158, 2159, 2160, 2161, 2162, 2163, 2164, 2165, 2166, 2167, 2168, 2169, 2170, 2171, 2172, 2173, 2174] rfl (by decide +kernel)
set_option maxRecDepth 100000 in
set_option maxHeartbeats 4000000 in
theorem kwW_c9 : ∀ w ∈ ((((((((((kwW).drop 40).drop 40).drop 40).drop 40).drop 40).drop 40).drop 40).drop 40).drop 40).take 40, w ∈ lw_tbl := in_mix [] [2175, 2176, 2177, 2178, 2179, 2180, 2181, 2182, 2049, 2183, 2532, 2050, 2190, 2051, 2191, 2192, 2193, 2194, 2195, 2196, 2197, 2198, 2199, 2200, 2201, 2202, 2203, 2204, 2205, 2206, 2207, 2208, 2209, 2210, 2211, 2212, 2213, 2214, 2052, 2215] rfl (by decide +kernel)
set_option maxRecDepth 100000 in
set_option maxHeartbeats 4000000 in
theorem kwW_c10 : ∀ w ∈ (((((((((((kwW).drop 40).drop 40).drop 40).drop 40).drop 40).drop 40).drop 40).drop 40).drop 40).drop 40).take 40, w ∈ lw_tbl := in_mix [] [2216, 2217, 2218, 2219, 2220, 2053, 2221, 2222, 2054, 2223, 2224, 2225, 2226, 2055, 2227, 2228, 2229, 2230, 2231, 2056, 2232, 2233, 2234, 2235, 2236, 2237, 2238, 2239, 2240, 2241, 2057, 2242, 2243, 2244, 2245, 2246, 2058, 2247, 2248, 2059] rfl (by decide +kernel)
set_option maxRecDepth 100000 in
set_option maxHeartbeats 4000000 in
theorem kwW_c11 : ∀ w ∈ ((((((((((((kwW).drop 40).drop 40).drop 40).drop 40).drop 40).drop 40).drop 40).drop 40).drop 40).drop 40).drop 40).take 40, w ∈ lw_tbl := in_mix [] [2249, 2250, 2251, 2252, 2253, 2254, 2255, 2256, 2257, 2258, 2259, 2260, 2261, 2262, 2263, 2264, 2265, 2266, 2267, 2268, 2269, 2270, 2271, 2272, 2273, 2274, 2275, 2276, 2277, 2278, 2279, 2280, 2281, 2282, 2283, 2284, 2285, 2286, 2287, 2288] rfl (by decide +kernel)
set_option maxRecDepth 100000 in
set_option maxHeartbeats 4000000 in
theorem kwW_c12 : ∀ w ∈ ((((((((((((kwW).drop 40).drop 40).drop 40).drop 40).drop 40).drop 40).drop 40).drop 40).drop 40).drop 40).drop 40).drop 40, w ∈ lw_tbl := in_mix [2064, 2606, 3301, 2602, 3326, 3294, 2785] [2289, 2290, 2291, 2292, 2293, 2294, 2060, 2295, 2296, 2297, 2298, 2061, 2063, 6, 2603, 2605, 7, 2583, 3299, 3300, 2599, 2601, 8, 3322, 3323, 3325, 9, 3291, 3293, 10, 2782, 2784, 11] rfl (by decide +kernel)
theorem kwW_in : ∀ w ∈ kwW, w ∈ lw_tbl := by_take 40 kwW_c0 (by_take 40 kwW_c1 (by_take 40 kwW_c2 (by_take 40 kwW_c3 (by_take 40 kwW_c4 (by_take 40 kwW_c5 (by_take 40 kwW_c6 (by_take 40 kwW_c7 (by_take 40 kwW_c8 (by_take 40 kwW_c9 (by_take 40 kwW_c10 (by_take 40 kwW_c11 (kwW_c12))))))))))))
set_option maxRecDepth 100000 in
theorem tin_X1 : ∀ w ∈ u_ws RX1 TX1 4, w ∈ lw_tbl := in_pl [66, 68, 70, 72] (by decide +kernel)
set_option maxRecDepth 100000 in
theorem tin_X3 : ∀ w ∈ u_ws RX3 TX3 12, w ∈ lw_tbl := in_pl [111, 113, 115, 117, 119, 121, 123, 125, 127, 129, 131, 133] (by decide +kernel)
set_option maxRecDepth 100000 in
theorem tin_X11 : ∀ w ∈ u_ws RX11 TX11 5, w ∈ lw_tbl := in_pl [148, 150, 152, 154, 156] (by decide +kernel)
set_option maxRecDepth 100000 in
theorem tin_X8 : ∀ w ∈ u_ws RX8 TX8 17, w ∈ lw_tbl := in_pl [222, 224, 226, 228, 230, 232, 234, 236, 238, 240, 242, 244, 246, 248, 250, 252, 254] (by decide +kernel)
set_option maxRecDepth 100000 in
theorem tin_X4 : ∀ w ∈ u_ws RX4 TX4 19, w ∈ lw_tbl := in_pl [293, 295, 297, 299, 301, 303, 305, 307, 309, 311, 313, 315, 317, 319, 321, 323, 325, 327, 329] (by decide +kernel)
set_option maxRecDepth 100000 in
theorem tin_X9 : ∀ w ∈ u_ws RX9 TX9 7, w ∈ lw_tbl := in_pl [348, 350, 352, 354, 356, 358, 360] (by decide +kernel)
set_option maxRecDepth 100000 in
theorem tin_X5 : ∀ w ∈ u_ws RX5 TX5 3, w ∈ lw_tbl := in_pl [372, 374, 376] (by decide +kernel)
set_option maxRecDepth 100000 in
theorem tin_X6 : ∀ w ∈ u_ws RX6 TX6 6, w ∈ lw_tbl := in_pl [393, 395, 397, 399, 401, 403] (by decide +kernel)
set_option maxRecDepth 100000 in
theorem tin_X7 : ∀ w ∈ u_ws RX7 TX7 9, w ∈ lw_tbl := in_pl [421, 423, 425, 427, 429, 431, 433, 435, 437] (by decide +kernel)
set_option maxRecDepth 100000 in
theorem tin_X12 : ∀ w ∈ u_ws RX12 TX12 18, w ∈ lw_tbl := in_pl [458, 460, 462, 464, 466, 468, 470, 472, 474, 476, 478, 480, 482, 484, 486, 488, 490, 492] (by decide +kernel)
set_option maxRecDepth 100000 in
theorem tin_X13 : ∀ w ∈ u_ws RX13 TX13 116, w ∈ lw_tbl := in_pl [2299, 2301, 2303, 2305, 2307, 2309, 2311, 2313, 2315, 2317, 2319, 2321, 2323, 2325, 2327, 2329, 2331, 2333, 2335, 2337, 2339, 2341, 2343, 2345, 2347, 2349, 2351, 2353, 2355, 2357, 2359, 2361, 2363, 2365, 2367, 2369, 2371, 2373, 2375, 2377, 2379, 2381, 2383, 2385, 2387, 2389, 2391, 2393, 2395, 2397, 2399, 2401, 2403, 2405, 2407, 2409, 2411, 2413, 2415, 2417, 2419, 2421, 2423, 2425, 2427, 2429, 2431, 2433, 2435, 2437, 2439, 2441, 2443, 2445, 2447, 2449, 2451, 2453, 2455, 2457, 2459, 2461, 2463, 2465, 2467, 2469, 2471, 2473, 2475, 2477, 2479, 2481, 2483, 2485, 2487, 2489, 2491, 2493, 2495, 2497, 2499, 2501, 2503, 2505, 2507, 2509, 2511, 2513, 2515, 2517, 2519, 2521, 2523, 2525, 2527, 2529] (by decide +kernel)
theorem kwF_in : ∀ w ∈ kwF, w ∈ lw_tbl := fun w h => (List.mem_append.mp h).elim (tin_X1 w) (fun h => (List.mem_append.mp h).elim (tin_X3 w) (fun h => (List.mem_append.mp h).elim (tin_X11 w) (fun h => (List.mem_append.mp h).elim (tin_X8 w) (fun h => (List.mem_append.mp h).elim (tin_X4 w) (fun h => (List.mem_append.mp h).elim (tin_X9 w) (fun h => (List.mem_append.mp h).elim (tin_X5 w) (fun h => (List.mem_append.mp h).elim (tin_X6 w) (fun h => (List.mem_append.mp h).elim (tin_X7 w) (fun h => (List.mem_append.mp h).elim (tin_X12 w) (fun h => tin_X13 w h))))))))))
set_option maxRecDepth 100000 in
theorem exK_in : ∀ w ∈ exK, w ∈ lw_tbl := in_pl [1976, 39] (by decide +kernel)
set_option maxRecDepth 100000 in
theorem exW_in : ∀ w ∈ exW, w ∈ lw_tbl := by decide +kernel
theorem lk_in : ∀ w ∈ lk, w ∈ lw_tbl := fun w h => (List.mem_append.mp h).elim (kwL_in w) (fun h => (List.mem_append.mp h).elim (exK_in w) (fun h => (List.mem_append.mp h).elim (exW_in w) (fun h => (List.mem_append.mp h).elim (kwW_in w) (kwF_in w))))
theorem kw_lk {w : Cond} (h : w ∈ kw) : w ∈ lk := List.mem_append_right _ (List.mem_append_right _ (List.mem_append_right _ h))
theorem lkG {ws : List Cond} (h : ∀ w ∈ ws, w ∈ lk) : GoodIn lk ws := fun w hw => ⟨h w hw, good_of_word (lk_good w (h w hw))⟩
theorem lkI {y : MethodName} {b : ByteArray} {n : Nat} {r : Option FieldType} (h : Cond.code y b n r ∈ lk) : GoodIn lk (Cond.code y b n r :: kw) := lkG (fun w hw => (List.mem_cons.mp hw).elim (fun e => by rw [e]; exact h) (fun h => kw_lk h))
theorem lkX {y : MethodName} {b : ByteArray} {n : Nat} {r : Option FieldType} (h : Cond.code y b n r ∈ lk) : GoodIn lk (Cond.code y b n r :: kx) := lkG (fun w hw => (List.mem_cons.mp hw).elim (fun e => by rw [e]; exact h) (fun h => List.mem_append_right _ h))
theorem lkS {own : String} {idx : Nat} {y : MethodName} {b : ByteArray} {n : Nat} {r : Option FieldType} {hh : List (Nat × Nat × Nat × Nat)} (h1 : Cond.methodLink own idx y ∈ lk) (h2 : Cond.static y ∈ lk) (h3 : Cond.initialized y.cls ∈ lk) (h : Cond.codeWith y b n r hh ∈ lk) : GoodIn lk (va_wsS own idx y (Cond.codeWith y b n r hh :: lk)) := lkG (fun w hw => by
  rcases List.mem_append.mp hw with q | q
  · simp only [List.mem_cons, List.not_mem_nil, or_false] at q
    rcases q with rfl | rfl | rfl
    · exact h1
    · exact h2
    · exact h3
  · exact (List.mem_cons.mp q).elim (fun e => by rw [e]; exact h) id)
theorem lin_X1 : ∀ w ∈ u_ws RX1 TX1 4, w ∈ lk := fun w h => kw_lk (kin_X1 w h)
theorem lin_X3 : ∀ w ∈ u_ws RX3 TX3 12, w ∈ lk := fun w h => kw_lk (kin_X3 w h)
theorem lin_X11 : ∀ w ∈ u_ws RX11 TX11 5, w ∈ lk := fun w h => kw_lk (kin_X11 w h)
theorem lin_X8 : ∀ w ∈ u_ws RX8 TX8 17, w ∈ lk := fun w h => kw_lk (kin_X8 w h)
theorem lin_X4 : ∀ w ∈ u_ws RX4 TX4 19, w ∈ lk := fun w h => kw_lk (kin_X4 w h)
theorem lin_X9 : ∀ w ∈ u_ws RX9 TX9 7, w ∈ lk := fun w h => kw_lk (kin_X9 w h)
theorem lin_X5 : ∀ w ∈ u_ws RX5 TX5 3, w ∈ lk := fun w h => kw_lk (kin_X5 w h)
theorem lin_X6 : ∀ w ∈ u_ws RX6 TX6 6, w ∈ lk := fun w h => kw_lk (kin_X6 w h)
theorem lin_X7 : ∀ w ∈ u_ws RX7 TX7 9, w ∈ lk := fun w h => kw_lk (kin_X7 w h)
theorem lin_X12 : ∀ w ∈ u_ws RX12 TX12 18, w ∈ lk := fun w h => kw_lk (kin_X12 w h)
theorem lin_X13 : ∀ w ∈ u_ws RX13 TX13 116, w ∈ lk := fun w h => kw_lk (kin_X13 w h)
set_option maxRecDepth 100000 in
theorem n_0 : Cond.code yX12_outAt cX12_outAt 4 (some .int) ∈ lk := List.mem_append_left _ (List.mem_of_getElem? (i := 0) rfl)
theorem n_1 : Cond.initialized RX12 ∈ lk := List.mem_append_left _ (List.mem_of_getElem? (i := 1) (by decide +kernel))
theorem n_2 : Cond.methodLink RL 7 yX12_outAt ∈ lk := List.mem_append_left _ (List.mem_of_getElem? (i := 2) (by decide +kernel))
theorem n_3 : Cond.instanceMethod yX12_outAt ∈ lk := List.mem_append_left _ (List.mem_of_getElem? (i := 3) (by decide +kernel))
theorem n_4 : Cond.selects RX12 yX12_outAt yX12_outAt ∈ lk := List.mem_append_left _ (List.mem_of_getElem? (i := 4) (by decide +kernel))
theorem n_5 : Cond.classLink RL 13 "java/util/NoSuchElementException" ∈ lk := List.mem_append_left _ (List.mem_of_getElem? (i := 5) (by decide +kernel))
set_option maxRecDepth 100000 in
theorem n_6 : Cond.code yX12_logAt cX12_logAt 2 (some .int) ∈ lk := List.mem_append_left _ (List.mem_of_getElem? (i := 6) rfl)
theorem n_7 : Cond.methodLink RL 15 yX12_logAt ∈ lk := List.mem_append_left _ (List.mem_of_getElem? (i := 7) (by decide +kernel))
theorem n_8 : Cond.instanceMethod yX12_logAt ∈ lk := List.mem_append_left _ (List.mem_of_getElem? (i := 8) (by decide +kernel))
theorem n_9 : Cond.selects RX12 yX12_logAt yX12_logAt ∈ lk := List.mem_append_left _ (List.mem_of_getElem? (i := 9) (by decide +kernel))
set_option maxRecDepth 100000 in
theorem n_10 : Cond.code yX12_feed cX12_feed 6 (some .boolean) ∈ lk := List.mem_append_left _ (List.mem_of_getElem? (i := 10) rfl)
theorem n_11 : Cond.methodLink RL 23 yX12_feed ∈ lk := List.mem_append_left _ (List.mem_of_getElem? (i := 11) (by decide +kernel))
theorem n_12 : Cond.instanceMethod yX12_feed ∈ lk := List.mem_append_left _ (List.mem_of_getElem? (i := 12) (by decide +kernel))
theorem n_13 : Cond.selects RX12 yX12_feed yX12_feed ∈ lk := List.mem_append_left _ (List.mem_of_getElem? (i := 13) (by decide +kernel))
set_option maxRecDepth 100000 in
theorem n_14 : Cond.code yX13_feed cX13_feed 8 (some .boolean) ∈ lk := List.mem_append_left _ (List.mem_of_getElem? (i := 14) rfl)
theorem n_15 : Cond.initialized RX13 ∈ lk := List.mem_append_left _ (List.mem_of_getElem? (i := 15) (by decide +kernel))
theorem n_16 : Cond.methodLink RL 27 yX13_feed ∈ lk := List.mem_append_left _ (List.mem_of_getElem? (i := 16) (by decide +kernel))
theorem n_17 : Cond.instanceMethod yX13_feed ∈ lk := List.mem_append_left _ (List.mem_of_getElem? (i := 17) (by decide +kernel))
theorem n_18 : Cond.selects RX13 yX13_feed yX13_feed ∈ lk := List.mem_append_left _ (List.mem_of_getElem? (i := 18) (by decide +kernel))
set_option maxRecDepth 100000 in
theorem n_19 : Cond.code yX12_end cX12_end 2 (some .boolean) ∈ lk := List.mem_append_left _ (List.mem_of_getElem? (i := 19) rfl)
theorem n_20 : Cond.methodLink RL 28 yX12_end ∈ lk := List.mem_append_left _ (List.mem_of_getElem? (i := 20) (by decide +kernel))
theorem n_21 : Cond.instanceMethod yX12_end ∈ lk := List.mem_append_left _ (List.mem_of_getElem? (i := 21) (by decide +kernel))
theorem n_22 : Cond.selects RX12 yX12_end yX12_end ∈ lk := List.mem_append_left _ (List.mem_of_getElem? (i := 22) (by decide +kernel))
set_option maxRecDepth 100000 in
theorem n_23 : Cond.code yX13_end cX13_end 2 (some .boolean) ∈ lk := List.mem_append_left _ (List.mem_of_getElem? (i := 23) rfl)
theorem n_24 : Cond.methodLink RL 32 yX13_end ∈ lk := List.mem_append_left _ (List.mem_of_getElem? (i := 24) (by decide +kernel))
theorem n_25 : Cond.instanceMethod yX13_end ∈ lk := List.mem_append_left _ (List.mem_of_getElem? (i := 25) (by decide +kernel))
theorem n_26 : Cond.selects RX13 yX13_end yX13_end ∈ lk := List.mem_append_left _ (List.mem_of_getElem? (i := 26) (by decide +kernel))
set_option maxRecDepth 100000 in
theorem n_27 : Cond.code yX12_send cX12_send 10 (some .int) ∈ lk := List.mem_append_left _ (List.mem_of_getElem? (i := 27) rfl)
theorem n_28 : Cond.methodLink RL 33 yX12_send ∈ lk := List.mem_append_left _ (List.mem_of_getElem? (i := 28) (by decide +kernel))
theorem n_29 : Cond.instanceMethod yX12_send ∈ lk := List.mem_append_left _ (List.mem_of_getElem? (i := 29) (by decide +kernel))
theorem n_30 : Cond.selects RX12 yX12_send yX12_send ∈ lk := List.mem_append_left _ (List.mem_of_getElem? (i := 30) (by decide +kernel))
set_option maxRecDepth 100000 in
theorem n_31 : Cond.code yX13_send cX13_send 9 (some .int) ∈ lk := List.mem_append_left _ (List.mem_of_getElem? (i := 31) rfl)
theorem n_32 : Cond.methodLink RL 36 yX13_send ∈ lk := List.mem_append_left _ (List.mem_of_getElem? (i := 32) (by decide +kernel))
theorem n_33 : Cond.instanceMethod yX13_send ∈ lk := List.mem_append_left _ (List.mem_of_getElem? (i := 33) (by decide +kernel))
theorem n_34 : Cond.selects RX13 yX13_send yX13_send ∈ lk := List.mem_append_left _ (List.mem_of_getElem? (i := 34) (by decide +kernel))
set_option maxRecDepth 100000 in
theorem n_35 : Cond.code yX12_open cX12_open 3 (some .boolean) ∈ lk := List.mem_append_left _ (List.mem_of_getElem? (i := 35) rfl)
theorem n_36 : Cond.methodLink RL 37 yX12_open ∈ lk := List.mem_append_left _ (List.mem_of_getElem? (i := 36) (by decide +kernel))
theorem n_37 : Cond.instanceMethod yX12_open ∈ lk := List.mem_append_left _ (List.mem_of_getElem? (i := 37) (by decide +kernel))
theorem n_38 : Cond.selects RX12 yX12_open yX12_open ∈ lk := List.mem_append_left _ (List.mem_of_getElem? (i := 38) (by decide +kernel))
set_option maxRecDepth 100000 in
theorem n_39 : Cond.code yX13_open cX13_open 2 (some .boolean) ∈ lk := List.mem_append_left _ (List.mem_of_getElem? (i := 39) rfl)
theorem n_40 : Cond.methodLink RL 40 yX13_open ∈ lk := List.mem_append_left _ (List.mem_of_getElem? (i := 40) (by decide +kernel))
theorem n_41 : Cond.instanceMethod yX13_open ∈ lk := List.mem_append_left _ (List.mem_of_getElem? (i := 41) (by decide +kernel))
theorem n_42 : Cond.selects RX13 yX13_open yX13_open ∈ lk := List.mem_append_left _ (List.mem_of_getElem? (i := 42) (by decide +kernel))
set_option maxRecDepth 100000 in
theorem n_43 : Cond.code yX12_isOpen cX12_isOpen 3 (some .boolean) ∈ lk := List.mem_append_left _ (List.mem_of_getElem? (i := 43) rfl)
theorem n_44 : Cond.methodLink RL 41 yX12_isOpen ∈ lk := List.mem_append_left _ (List.mem_of_getElem? (i := 44) (by decide +kernel))
theorem n_45 : Cond.instanceMethod yX12_isOpen ∈ lk := List.mem_append_left _ (List.mem_of_getElem? (i := 45) (by decide +kernel))
theorem n_46 : Cond.selects RX12 yX12_isOpen yX12_isOpen ∈ lk := List.mem_append_left _ (List.mem_of_getElem? (i := 46) (by decide +kernel))
set_option maxRecDepth 100000 in
theorem n_47 : Cond.code yX13_isOpen cX13_isOpen 2 (some .boolean) ∈ lk := List.mem_append_left _ (List.mem_of_getElem? (i := 47) rfl)
theorem n_48 : Cond.methodLink RL 44 yX13_isOpen ∈ lk := List.mem_append_left _ (List.mem_of_getElem? (i := 48) (by decide +kernel))
theorem n_49 : Cond.instanceMethod yX13_isOpen ∈ lk := List.mem_append_left _ (List.mem_of_getElem? (i := 49) (by decide +kernel))
theorem n_50 : Cond.selects RX13 yX13_isOpen yX13_isOpen ∈ lk := List.mem_append_left _ (List.mem_of_getElem? (i := 50) (by decide +kernel))
set_option maxRecDepth 100000 in
theorem n_51 : Cond.code yX12_out cX12_out 3 (some .int) ∈ lk := List.mem_append_left _ (List.mem_of_getElem? (i := 51) rfl)
theorem n_52 : Cond.methodLink RL 45 yX12_out ∈ lk := List.mem_append_left _ (List.mem_of_getElem? (i := 52) (by decide +kernel))
theorem n_53 : Cond.instanceMethod yX12_out ∈ lk := List.mem_append_left _ (List.mem_of_getElem? (i := 53) (by decide +kernel))
theorem n_54 : Cond.selects RX12 yX12_out yX12_out ∈ lk := List.mem_append_left _ (List.mem_of_getElem? (i := 54) (by decide +kernel))
set_option maxRecDepth 100000 in
theorem n_55 : Cond.code yX13_out cX13_out 2 (some .int) ∈ lk := List.mem_append_left _ (List.mem_of_getElem? (i := 55) rfl)
theorem n_56 : Cond.methodLink RL 48 yX13_out ∈ lk := List.mem_append_left _ (List.mem_of_getElem? (i := 56) (by decide +kernel))
theorem n_57 : Cond.instanceMethod yX13_out ∈ lk := List.mem_append_left _ (List.mem_of_getElem? (i := 57) (by decide +kernel))
theorem n_58 : Cond.selects RX13 yX13_out yX13_out ∈ lk := List.mem_append_left _ (List.mem_of_getElem? (i := 58) (by decide +kernel))
theorem n_59 : Cond.initialized RL ∈ lk := List.mem_append_left _ (List.mem_of_getElem? (i := 59) (by decide +kernel))
theorem n_60 : Cond.methodLink RL 49 yL_outAt ∈ lk := List.mem_append_left _ (List.mem_of_getElem? (i := 60) (by decide +kernel))
theorem n_61 : Cond.static yL_outAt ∈ lk := List.mem_append_left _ (List.mem_of_getElem? (i := 61) (by decide +kernel))
set_option maxRecDepth 100000 in
theorem n_62 : Cond.codeWith yL_outAt cL_outAt 5 (some .int) [(0, 10, 13, 13)] ∈ lk := List.mem_append_left _ (List.mem_of_getElem? (i := 62) rfl)
set_option maxRecDepth 100000 in
theorem n_63 : Cond.code yX13_outAt cX13_outAt 3 (some .int) ∈ lk := List.mem_append_left _ (List.mem_of_getElem? (i := 63) rfl)
theorem n_64 : Cond.methodLink RL 54 yX13_outAt ∈ lk := List.mem_append_left _ (List.mem_of_getElem? (i := 64) (by decide +kernel))
theorem n_65 : Cond.instanceMethod yX13_outAt ∈ lk := List.mem_append_left _ (List.mem_of_getElem? (i := 65) (by decide +kernel))
theorem n_66 : Cond.selects RX13 yX13_outAt yX13_outAt ∈ lk := List.mem_append_left _ (List.mem_of_getElem? (i := 66) (by decide +kernel))
set_option maxRecDepth 100000 in
theorem n_67 : Cond.code yX13_thrown cX13_thrown 1 (some .int) ∈ lk := List.mem_append_left _ (List.mem_of_getElem? (i := 67) rfl)
theorem n_68 : Cond.methodLink RL 55 yX13_thrown ∈ lk := List.mem_append_left _ (List.mem_of_getElem? (i := 68) (by decide +kernel))
theorem n_69 : Cond.instanceMethod yX13_thrown ∈ lk := List.mem_append_left _ (List.mem_of_getElem? (i := 69) (by decide +kernel))
theorem n_70 : Cond.selects RX13 yX13_thrown yX13_thrown ∈ lk := List.mem_append_left _ (List.mem_of_getElem? (i := 70) (by decide +kernel))
set_option maxRecDepth 100000 in
theorem n_71 : Cond.code yX12_take cX12_take 4 (some .boolean) ∈ lk := List.mem_append_left _ (List.mem_of_getElem? (i := 71) rfl)
theorem n_72 : Cond.methodLink RL 59 yX12_take ∈ lk := List.mem_append_left _ (List.mem_of_getElem? (i := 72) (by decide +kernel))
theorem n_73 : Cond.instanceMethod yX12_take ∈ lk := List.mem_append_left _ (List.mem_of_getElem? (i := 73) (by decide +kernel))
theorem n_74 : Cond.selects RX12 yX12_take yX12_take ∈ lk := List.mem_append_left _ (List.mem_of_getElem? (i := 74) (by decide +kernel))
set_option maxRecDepth 100000 in
theorem n_75 : Cond.code yX13_take cX13_take 5 (some .boolean) ∈ lk := List.mem_append_left _ (List.mem_of_getElem? (i := 75) rfl)
theorem n_76 : Cond.methodLink RL 63 yX13_take ∈ lk := List.mem_append_left _ (List.mem_of_getElem? (i := 76) (by decide +kernel))
theorem n_77 : Cond.instanceMethod yX13_take ∈ lk := List.mem_append_left _ (List.mem_of_getElem? (i := 77) (by decide +kernel))
theorem n_78 : Cond.selects RX13 yX13_take yX13_take ∈ lk := List.mem_append_left _ (List.mem_of_getElem? (i := 78) (by decide +kernel))
theorem n_79 : Cond.constantLong RL 64 (4294967295) ∈ lk := List.mem_append_left _ (List.mem_of_getElem? (i := 79) (by decide +kernel))
set_option maxRecDepth 100000 in
theorem n_80 : Cond.code yX12_pass cX12_pass 5 (some .int) ∈ lk := List.mem_append_left _ (List.mem_of_getElem? (i := 80) rfl)
theorem n_81 : Cond.methodLink RL 66 yX12_pass ∈ lk := List.mem_append_left _ (List.mem_of_getElem? (i := 81) (by decide +kernel))
theorem n_82 : Cond.instanceMethod yX12_pass ∈ lk := List.mem_append_left _ (List.mem_of_getElem? (i := 82) (by decide +kernel))
theorem n_83 : Cond.selects RX12 yX12_pass yX12_pass ∈ lk := List.mem_append_left _ (List.mem_of_getElem? (i := 83) (by decide +kernel))
set_option maxRecDepth 100000 in
theorem n_84 : Cond.code yX13_pass cX13_pass 3 (some .int) ∈ lk := List.mem_append_left _ (List.mem_of_getElem? (i := 84) rfl)
theorem n_85 : Cond.methodLink RL 70 yX13_pass ∈ lk := List.mem_append_left _ (List.mem_of_getElem? (i := 85) (by decide +kernel))
theorem n_86 : Cond.instanceMethod yX13_pass ∈ lk := List.mem_append_left _ (List.mem_of_getElem? (i := 86) (by decide +kernel))
theorem n_87 : Cond.selects RX13 yX13_pass yX13_pass ∈ lk := List.mem_append_left _ (List.mem_of_getElem? (i := 87) (by decide +kernel))
set_option maxRecDepth 100000 in
theorem n_88 : Cond.code yX12_now cX12_now 1 (some .long) ∈ lk := List.mem_append_left _ (List.mem_of_getElem? (i := 88) rfl)
theorem n_89 : Cond.methodLink RL 71 yX12_now ∈ lk := List.mem_append_left _ (List.mem_of_getElem? (i := 89) (by decide +kernel))
theorem n_90 : Cond.instanceMethod yX12_now ∈ lk := List.mem_append_left _ (List.mem_of_getElem? (i := 90) (by decide +kernel))
theorem n_91 : Cond.selects RX12 yX12_now yX12_now ∈ lk := List.mem_append_left _ (List.mem_of_getElem? (i := 91) (by decide +kernel))
set_option maxRecDepth 100000 in
theorem n_92 : Cond.code yX13_now cX13_now 1 (some .long) ∈ lk := List.mem_append_left _ (List.mem_of_getElem? (i := 92) rfl)
theorem n_93 : Cond.methodLink RL 75 yX13_now ∈ lk := List.mem_append_left _ (List.mem_of_getElem? (i := 93) (by decide +kernel))
theorem n_94 : Cond.instanceMethod yX13_now ∈ lk := List.mem_append_left _ (List.mem_of_getElem? (i := 94) (by decide +kernel))
theorem n_95 : Cond.selects RX13 yX13_now yX13_now ∈ lk := List.mem_append_left _ (List.mem_of_getElem? (i := 95) (by decide +kernel))
set_option maxRecDepth 100000 in
theorem n_96 : Cond.code yX12_fuse cX12_fuse 2 none ∈ lk := List.mem_append_left _ (List.mem_of_getElem? (i := 96) rfl)
theorem n_97 : Cond.methodLink RL 76 yX12_fuse ∈ lk := List.mem_append_left _ (List.mem_of_getElem? (i := 97) (by decide +kernel))
theorem n_98 : Cond.instanceMethod yX12_fuse ∈ lk := List.mem_append_left _ (List.mem_of_getElem? (i := 98) (by decide +kernel))
theorem n_99 : Cond.selects RX12 yX12_fuse yX12_fuse ∈ lk := List.mem_append_left _ (List.mem_of_getElem? (i := 99) (by decide +kernel))
set_option maxRecDepth 100000 in
theorem n_100 : Cond.code yX13_fuse cX13_fuse 2 none ∈ lk := List.mem_append_left _ (List.mem_of_getElem? (i := 100) rfl)
theorem n_101 : Cond.methodLink RL 80 yX13_fuse ∈ lk := List.mem_append_left _ (List.mem_of_getElem? (i := 101) (by decide +kernel))
theorem n_102 : Cond.instanceMethod yX13_fuse ∈ lk := List.mem_append_left _ (List.mem_of_getElem? (i := 102) (by decide +kernel))
theorem n_103 : Cond.selects RX13 yX13_fuse yX13_fuse ∈ lk := List.mem_append_left _ (List.mem_of_getElem? (i := 103) (by decide +kernel))
set_option maxRecDepth 100000 in
theorem n_104 : Cond.code yX12_crash cX12_crash 1 (some .boolean) ∈ lk := List.mem_append_left _ (List.mem_of_getElem? (i := 104) rfl)
theorem n_105 : Cond.methodLink RL 81 yX12_crash ∈ lk := List.mem_append_left _ (List.mem_of_getElem? (i := 105) (by decide +kernel))
theorem n_106 : Cond.instanceMethod yX12_crash ∈ lk := List.mem_append_left _ (List.mem_of_getElem? (i := 106) (by decide +kernel))
theorem n_107 : Cond.selects RX12 yX12_crash yX12_crash ∈ lk := List.mem_append_left _ (List.mem_of_getElem? (i := 107) (by decide +kernel))
set_option maxRecDepth 100000 in
theorem n_108 : Cond.code yX13_crash cX13_crash 1 (some .boolean) ∈ lk := List.mem_append_left _ (List.mem_of_getElem? (i := 108) rfl)
theorem n_109 : Cond.methodLink RL 85 yX13_crash ∈ lk := List.mem_append_left _ (List.mem_of_getElem? (i := 109) (by decide +kernel))
theorem n_110 : Cond.instanceMethod yX13_crash ∈ lk := List.mem_append_left _ (List.mem_of_getElem? (i := 110) (by decide +kernel))
theorem n_111 : Cond.selects RX13 yX13_crash yX13_crash ∈ lk := List.mem_append_left _ (List.mem_of_getElem? (i := 111) (by decide +kernel))
set_option maxRecDepth 100000 in
theorem n_112 : Cond.code yX12_restart cX12_restart 6 (some .int) ∈ lk := List.mem_append_left _ (List.mem_of_getElem? (i := 112) rfl)
theorem n_113 : Cond.methodLink RL 86 yX12_restart ∈ lk := List.mem_append_left _ (List.mem_of_getElem? (i := 113) (by decide +kernel))
theorem n_114 : Cond.instanceMethod yX12_restart ∈ lk := List.mem_append_left _ (List.mem_of_getElem? (i := 114) (by decide +kernel))
theorem n_115 : Cond.selects RX12 yX12_restart yX12_restart ∈ lk := List.mem_append_left _ (List.mem_of_getElem? (i := 115) (by decide +kernel))
set_option maxRecDepth 100000 in
theorem n_116 : Cond.code yX13_restart cX13_restart 5 (some .int) ∈ lk := List.mem_append_left _ (List.mem_of_getElem? (i := 116) rfl)
theorem n_117 : Cond.methodLink RL 89 yX13_restart ∈ lk := List.mem_append_left _ (List.mem_of_getElem? (i := 117) (by decide +kernel))
theorem n_118 : Cond.instanceMethod yX13_restart ∈ lk := List.mem_append_left _ (List.mem_of_getElem? (i := 118) (by decide +kernel))
theorem n_119 : Cond.selects RX13 yX13_restart yX13_restart ∈ lk := List.mem_append_left _ (List.mem_of_getElem? (i := 119) (by decide +kernel))
set_option maxRecDepth 100000 in
theorem n_120 : Cond.code yX12_rewrite cX12_rewrite 2 (some .int) ∈ lk := List.mem_append_left _ (List.mem_of_getElem? (i := 120) rfl)
theorem n_121 : Cond.methodLink RL 90 yX12_rewrite ∈ lk := List.mem_append_left _ (List.mem_of_getElem? (i := 121) (by decide +kernel))
theorem n_122 : Cond.instanceMethod yX12_rewrite ∈ lk := List.mem_append_left _ (List.mem_of_getElem? (i := 122) (by decide +kernel))
theorem n_123 : Cond.selects RX12 yX12_rewrite yX12_rewrite ∈ lk := List.mem_append_left _ (List.mem_of_getElem? (i := 123) (by decide +kernel))
set_option maxRecDepth 100000 in
theorem n_124 : Cond.code yX13_rewrite cX13_rewrite 10 (some .int) ∈ lk := List.mem_append_left _ (List.mem_of_getElem? (i := 124) rfl)
theorem n_125 : Cond.methodLink RL 93 yX13_rewrite ∈ lk := List.mem_append_left _ (List.mem_of_getElem? (i := 125) (by decide +kernel))
theorem n_126 : Cond.instanceMethod yX13_rewrite ∈ lk := List.mem_append_left _ (List.mem_of_getElem? (i := 126) (by decide +kernel))
theorem n_127 : Cond.selects RX13 yX13_rewrite yX13_rewrite ∈ lk := List.mem_append_left _ (List.mem_of_getElem? (i := 127) (by decide +kernel))
set_option maxRecDepth 100000 in
theorem n_128 : Cond.code yX12_log cX12_log 1 (some .int) ∈ lk := List.mem_append_left _ (List.mem_of_getElem? (i := 128) rfl)
theorem n_129 : Cond.methodLink RL 94 yX12_log ∈ lk := List.mem_append_left _ (List.mem_of_getElem? (i := 129) (by decide +kernel))
theorem n_130 : Cond.instanceMethod yX12_log ∈ lk := List.mem_append_left _ (List.mem_of_getElem? (i := 130) (by decide +kernel))
theorem n_131 : Cond.selects RX12 yX12_log yX12_log ∈ lk := List.mem_append_left _ (List.mem_of_getElem? (i := 131) (by decide +kernel))
set_option maxRecDepth 100000 in
theorem n_132 : Cond.code yX13_log cX13_log 1 (some .int) ∈ lk := List.mem_append_left _ (List.mem_of_getElem? (i := 132) rfl)
theorem n_133 : Cond.methodLink RL 97 yX13_log ∈ lk := List.mem_append_left _ (List.mem_of_getElem? (i := 133) (by decide +kernel))
theorem n_134 : Cond.instanceMethod yX13_log ∈ lk := List.mem_append_left _ (List.mem_of_getElem? (i := 134) (by decide +kernel))
theorem n_135 : Cond.selects RX13 yX13_log yX13_log ∈ lk := List.mem_append_left _ (List.mem_of_getElem? (i := 135) (by decide +kernel))
set_option maxRecDepth 100000 in
theorem n_136 : Cond.code yX12_tear cX12_tear 2 (some .boolean) ∈ lk := List.mem_append_left _ (List.mem_of_getElem? (i := 136) rfl)
theorem n_137 : Cond.methodLink RL 102 yX12_tear ∈ lk := List.mem_append_left _ (List.mem_of_getElem? (i := 137) (by decide +kernel))
theorem n_138 : Cond.instanceMethod yX12_tear ∈ lk := List.mem_append_left _ (List.mem_of_getElem? (i := 138) (by decide +kernel))
theorem n_139 : Cond.selects RX12 yX12_tear yX12_tear ∈ lk := List.mem_append_left _ (List.mem_of_getElem? (i := 139) (by decide +kernel))
set_option maxRecDepth 100000 in
theorem n_140 : Cond.code yX13_tear cX13_tear 2 (some .boolean) ∈ lk := List.mem_append_left _ (List.mem_of_getElem? (i := 140) rfl)
theorem n_141 : Cond.methodLink RL 105 yX13_tear ∈ lk := List.mem_append_left _ (List.mem_of_getElem? (i := 141) (by decide +kernel))
theorem n_142 : Cond.instanceMethod yX13_tear ∈ lk := List.mem_append_left _ (List.mem_of_getElem? (i := 142) (by decide +kernel))
theorem n_143 : Cond.selects RX13 yX13_tear yX13_tear ∈ lk := List.mem_append_left _ (List.mem_of_getElem? (i := 143) (by decide +kernel))
set_option maxRecDepth 100000 in
theorem n_144 : Cond.code yX12_isUp cX12_isUp 1 (some .boolean) ∈ lk := List.mem_append_left _ (List.mem_of_getElem? (i := 144) rfl)
theorem n_145 : Cond.methodLink RL 106 yX12_isUp ∈ lk := List.mem_append_left _ (List.mem_of_getElem? (i := 145) (by decide +kernel))
theorem n_146 : Cond.instanceMethod yX12_isUp ∈ lk := List.mem_append_left _ (List.mem_of_getElem? (i := 146) (by decide +kernel))
theorem n_147 : Cond.selects RX12 yX12_isUp yX12_isUp ∈ lk := List.mem_append_left _ (List.mem_of_getElem? (i := 147) (by decide +kernel))
set_option maxRecDepth 100000 in
theorem n_148 : Cond.code yX13_isUp cX13_isUp 1 (some .boolean) ∈ lk := List.mem_append_left _ (List.mem_of_getElem? (i := 148) rfl)
theorem n_149 : Cond.methodLink RL 109 yX13_isUp ∈ lk := List.mem_append_left _ (List.mem_of_getElem? (i := 149) (by decide +kernel))
theorem n_150 : Cond.instanceMethod yX13_isUp ∈ lk := List.mem_append_left _ (List.mem_of_getElem? (i := 150) (by decide +kernel))
theorem n_151 : Cond.selects RX13 yX13_isUp yX13_isUp ∈ lk := List.mem_append_left _ (List.mem_of_getElem? (i := 151) (by decide +kernel))
theorem n_152 : Cond.methodLink RL 98 yL_logAt ∈ lk := List.mem_append_left _ (List.mem_of_getElem? (i := 152) (by decide +kernel))
theorem n_153 : Cond.static yL_logAt ∈ lk := List.mem_append_left _ (List.mem_of_getElem? (i := 153) (by decide +kernel))
set_option maxRecDepth 100000 in
theorem n_154 : Cond.codeWith yL_logAt cL_logAt 4 (some .int) [(0, 9, 12, 13)] ∈ lk := List.mem_append_left _ (List.mem_of_getElem? (i := 154) rfl)
set_option maxRecDepth 100000 in
theorem n_155 : Cond.code yX13_logAt cX13_logAt 2 (some .int) ∈ lk := List.mem_append_left _ (List.mem_of_getElem? (i := 155) rfl)
theorem n_156 : Cond.methodLink RL 101 yX13_logAt ∈ lk := List.mem_append_left _ (List.mem_of_getElem? (i := 156) (by decide +kernel))
theorem n_157 : Cond.instanceMethod yX13_logAt ∈ lk := List.mem_append_left _ (List.mem_of_getElem? (i := 157) (by decide +kernel))
theorem n_158 : Cond.selects RX13 yX13_logAt yX13_logAt ∈ lk := List.mem_append_left _ (List.mem_of_getElem? (i := 158) (by decide +kernel))
set_option maxRecDepth 100000 in
theorem n_159 : Cond.code yX12_total cX12_total 2 (some .int) ∈ lk := List.mem_append_left _ (List.mem_of_getElem? (i := 159) rfl)
theorem n_160 : Cond.methodLink RL 110 yX12_total ∈ lk := List.mem_append_left _ (List.mem_of_getElem? (i := 160) (by decide +kernel))
theorem n_161 : Cond.instanceMethod yX12_total ∈ lk := List.mem_append_left _ (List.mem_of_getElem? (i := 161) (by decide +kernel))
theorem n_162 : Cond.selects RX12 yX12_total yX12_total ∈ lk := List.mem_append_left _ (List.mem_of_getElem? (i := 162) (by decide +kernel))
set_option maxRecDepth 100000 in
theorem n_163 : Cond.code yX13_total cX13_total 4 (some .int) ∈ lk := List.mem_append_left _ (List.mem_of_getElem? (i := 163) rfl)
theorem n_164 : Cond.methodLink RL 113 yX13_total ∈ lk := List.mem_append_left _ (List.mem_of_getElem? (i := 164) (by decide +kernel))
theorem n_165 : Cond.instanceMethod yX13_total ∈ lk := List.mem_append_left _ (List.mem_of_getElem? (i := 165) (by decide +kernel))
theorem n_166 : Cond.selects RX13 yX13_total yX13_total ∈ lk := List.mem_append_left _ (List.mem_of_getElem? (i := 166) (by decide +kernel))
theorem n_167 : Cond.instantiable RX1 4 ∈ lk := List.mem_append_left _ (List.mem_of_getElem? (i := 167) (by decide +kernel))
theorem n_168 : Cond.instantiable RX3 12 ∈ lk := List.mem_append_left _ (List.mem_of_getElem? (i := 168) (by decide +kernel))
theorem n_169 : Cond.instantiable RX11 5 ∈ lk := List.mem_append_left _ (List.mem_of_getElem? (i := 169) (by decide +kernel))
theorem n_170 : Cond.instantiable RX8 17 ∈ lk := List.mem_append_left _ (List.mem_of_getElem? (i := 170) (by decide +kernel))
theorem n_171 : Cond.instantiable RX4 19 ∈ lk := List.mem_append_left _ (List.mem_of_getElem? (i := 171) (by decide +kernel))
theorem n_172 : Cond.instantiable RX9 7 ∈ lk := List.mem_append_left _ (List.mem_of_getElem? (i := 172) (by decide +kernel))
theorem n_173 : Cond.instantiable RX5 3 ∈ lk := List.mem_append_left _ (List.mem_of_getElem? (i := 173) (by decide +kernel))
theorem n_174 : Cond.instantiable RX6 6 ∈ lk := List.mem_append_left _ (List.mem_of_getElem? (i := 174) (by decide +kernel))
theorem n_175 : Cond.instantiable RX7 9 ∈ lk := List.mem_append_left _ (List.mem_of_getElem? (i := 175) (by decide +kernel))
theorem n_176 : Cond.instantiable RX12 18 ∈ lk := List.mem_append_left _ (List.mem_of_getElem? (i := 176) (by decide +kernel))
theorem n_177 : Cond.instantiable RX13 116 ∈ lk := List.mem_append_left _ (List.mem_of_getElem? (i := 177) (by decide +kernel))
theorem n_178 : Cond.classLink RL 8 RX12 ∈ lk := List.mem_append_left _ (List.mem_of_getElem? (i := 178) (by decide +kernel))
set_option maxRecDepth 100000 in
theorem n_179 : Cond.code yX12_init cX12_init 5 none ∈ lk := List.mem_append_left _ (List.mem_of_getElem? (i := 179) rfl)
theorem n_180 : Cond.methodLink RL 19 yX12_init ∈ lk := List.mem_append_left _ (List.mem_of_getElem? (i := 180) (by decide +kernel))
theorem n_181 : Cond.instanceMethod yX12_init ∈ lk := List.mem_append_left _ (List.mem_of_getElem? (i := 181) (by decide +kernel))
theorem n_182 : Cond.classLink RL 20 RX13 ∈ lk := List.mem_append_left _ (List.mem_of_getElem? (i := 182) (by decide +kernel))
set_option maxRecDepth 100000 in
theorem n_183 : Cond.code yX13_init cX13_init 2 none ∈ lk := List.mem_append_left _ (List.mem_of_getElem? (i := 183) rfl)
theorem n_184 : Cond.methodLink RL 22 yX13_init ∈ lk := List.mem_append_left _ (List.mem_of_getElem? (i := 184) (by decide +kernel))
theorem n_185 : Cond.instanceMethod yX13_init ∈ lk := List.mem_append_left _ (List.mem_of_getElem? (i := 185) (by decide +kernel))
theorem n_186 : Cond.arrayClass .long ∈ lk := List.mem_append_left _ (List.mem_of_getElem? (i := 186) (by decide +kernel))
set_option maxRecDepth 100000 in
theorem law_fx {s : State} {b : Nat} (hts : ∀ w ∈ lw_tbl, w.before #[Value.ref b] s = true) : fx s := ⟨va_AO.of (hts (.arrayOver (.object "KeySteward$Connection")) (List.mem_of_getElem? (i := 78) (by decide +kernel))), va_AO.of (hts (.arrayOver (.object "KeySteward$Value")) (List.mem_of_getElem? (i := 264) (by decide +kernel))), va_Nw.of rfl (hts (.methodLinkNest "KeySteward" 44 yX3_init "KeySteward") (List.mem_of_getElem? (i := 80) (by decide +kernel))), va_Nw.of rfl (hts (.methodLinkNest "KeySteward" 47 yX11_init "KeySteward") (List.mem_of_getElem? (i := 139) (by decide +kernel)))⟩
def xF (s : State) : Prop := vx_Zq "java/lang/Throwable" "UNASSIGNED_STACK" "[Ljava/lang/StackTraceElement;" (fun q : Nat => s.heap.size ≤ q) s s.heap ∧ vx_Zq "java/lang/Throwable" "SUPPRESSED_SENTINEL" "Ljava/util/List;" (fun q : Nat => s.heap.size ≤ q) s s.heap ∧ exF s
set_option maxRecDepth 100000 in
theorem law_xF {s : State} {b : Nat} (hts : ∀ w ∈ lw_tbl, w.before #[Value.ref b] s = true) (hgv : (Jvm.Cond.and given_1 narrow_1).before #[Value.ref b] s = true) : xF s := ⟨vx_Zqof (hts (.laysStatic "java/lang/Throwable" "UNASSIGNED_STACK" "[Ljava/lang/StackTraceElement;") (List.mem_of_getElem? (i := 2003) (by decide +kernel))) (hts (.initialized "java/lang/Throwable") (List.mem_of_getElem? (i := 36) (by decide +kernel))) ((flat_of_before _ hgv) (.isRef (.static "java/lang/Throwable" "UNASSIGNED_STACK" "[Ljava/lang/StackTraceElement;")) (by decide +kernel)) (fun a h => Nat.not_le.mpr h), vx_Zqof (hts (.laysStatic "java/lang/Throwable" "SUPPRESSED_SENTINEL" "Ljava/util/List;") (List.mem_of_getElem? (i := 2005) (by decide +kernel))) (hts (.initialized "java/lang/Throwable") (List.mem_of_getElem? (i := 36) (by decide +kernel))) ((flat_of_before _ hgv) (.isRef (.static "java/lang/Throwable" "SUPPRESSED_SENTINEL" "Ljava/util/List;")) (by decide +kernel)) (fun a h => Nat.not_le.mpr h), va_Nw.of rfl (hts (.declares ⟨"java/lang/RuntimeException", "<init>", "()V"⟩) (List.mem_of_getElem? (i := 1979) (by decide +kernel))), va_Nw.of rfl (hts (.declares ⟨"java/lang/Exception", "<init>", "()V"⟩) (List.mem_of_getElem? (i := 1981) (by decide +kernel))), va_Nw.of rfl (hts (.declares ⟨"java/lang/Throwable", "<init>", "()V"⟩) (List.mem_of_getElem? (i := 1983) (by decide +kernel))), va_Nw.of rfl (hts (.castable "java/util/NoSuchElementException" "java/util/NoSuchElementException") (List.mem_of_getElem? (i := 1978) (by decide +kernel)))⟩
theorem lt6 : ∀ L : Nat, L < 6 → (Int32.ofNat L - 6 : Int32) < 0 := by decide
theorem sgn3 (x : Int32) : x < 0 ∨ x = 0 ∨ 0 < x := by
  rcases Int.lt_trichotomy x.toInt 0 with h | h | h
  · exact Or.inl (Int32.lt_iff_toInt_lt.mpr h)
  · exact Or.inr (Or.inl (Int32.toInt_inj.mp h))
  · exact Or.inr (Or.inr (Int32.lt_iff_toInt_lt.mpr h))
theorem lt_of3 {x : Int32} (h : nI 3 ≤ x) : 2 < x := Int32.lt_iff_toInt_lt.mpr (by
  have h3 := Int32.le_iff_toInt_le.mp h
  rw [nI_toInt (by decide)] at h3
  have e2 : (2 : Int32).toInt = 2 := by decide
  omega)
