/-! the classes: their fields' words are among the good ones -/
def gw : List Cond := lw_tbl.filter goodWord
theorem gw_of {w : Cond} (h : w ∈ lw_tbl) (hg : goodWord w = true) : w ∈ gw := List.mem_filter.mpr ⟨h, hg⟩
theorem gw_in {w : Cond} (h : w ∈ gw) : w ∈ lw_tbl := (List.mem_filter.mp h).1
theorem gw_sub {ws : List Cond} (h : GoodIn lw_tbl ws) (hg : ws.all goodWord = true) : ∀ w ∈ ws, w ∈ gw := fun w hw => gw_of (h w hw).1 (List.all_eq_true.mp hg w hw)
set_option maxRecDepth 100000 in
theorem gwX0 : ∀ w ∈ u_ws RX0 TX0 20, w ∈ gw := gw_sub (goodIn_r _ [1030, 1032, 1034, 1036, 1038, 1040, 1042, 1044, 1046, 1048, 1050, 1052, 1054, 1056, 1058, 1060, 1062, 1064, 1066, 1068] (by decide +kernel) (by decide +kernel)) (by decide +kernel)
set_option maxRecDepth 100000 in
theorem gwX1 : ∀ w ∈ u_ws RX1 TX1 8, w ∈ gw := gw_sub (goodIn_r _ [521, 523, 525, 527, 529, 531, 533, 535] (by decide +kernel) (by decide +kernel)) (by decide +kernel)
set_option maxRecDepth 100000 in
theorem gwX2 : ∀ w ∈ u_ws RX2 TX2 8, w ∈ gw := gw_sub (goodIn_r _ [554, 556, 558, 560, 562, 564, 566, 568] (by decide +kernel) (by decide +kernel)) (by decide +kernel)
set_option maxRecDepth 100000 in
theorem gwX3 : ∀ w ∈ u_ws RX3 TX3 20, w ∈ gw := gw_sub (goodIn_r _ [891, 893, 895, 897, 899, 901, 903, 905, 907, 909, 911, 913, 915, 917, 919, 921, 923, 925, 927, 929] (by decide +kernel) (by decide +kernel)) (by decide +kernel)
set_option maxRecDepth 100000 in
theorem gwX4 : ∀ w ∈ u_ws RX4 TX4 3, w ∈ gw := gw_sub (goodIn_r _ [281, 283, 285] (by decide +kernel) (by decide +kernel)) (by decide +kernel)
set_option maxRecDepth 100000 in
theorem gwX5 : ∀ w ∈ u_ws RX5 TX5 20, w ∈ gw := gw_sub (goodIn_r _ [955, 957, 959, 961, 963, 965, 967, 969, 971, 973, 975, 977, 979, 981, 983, 985, 987, 989, 991, 993] (by decide +kernel) (by decide +kernel)) (by decide +kernel)
set_option maxRecDepth 100000 in
theorem gwX6 : ∀ w ∈ u_ws RX6 TX6 20, w ∈ gw := gw_sub (goodIn_r _ [691, 693, 695, 697, 699, 701, 703, 705, 707, 709, 711, 713, 715, 717, 719, 721, 723, 725, 727, 729] (by decide +kernel) (by decide +kernel)) (by decide +kernel)
set_option maxRecDepth 100000 in
theorem gwX7 : ∀ w ∈ u_ws RX7 TX7 17, w ∈ gw := gw_sub (goodIn_r _ [364, 366, 368, 370, 372, 374, 376, 378, 380, 382, 384, 386, 388, 390, 392, 394, 396] (by decide +kernel) (by decide +kernel)) (by decide +kernel)
set_option maxRecDepth 100000 in
theorem gwX8 : ∀ w ∈ u_ws RX8 TX8 12, w ∈ gw := gw_sub (goodIn_r _ [755, 757, 759, 761, 763, 765, 767, 769, 771, 773, 775, 777] (by decide +kernel) (by decide +kernel)) (by decide +kernel)
set_option maxRecDepth 100000 in
theorem gwX9 : ∀ w ∈ u_ws RX9 TX9 15, w ∈ gw := gw_sub (goodIn_r _ [809, 811, 813, 815, 817, 819, 821, 823, 825, 827, 829, 831, 833, 835, 837] (by decide +kernel) (by decide +kernel)) (by decide +kernel)
set_option maxRecDepth 100000 in
theorem gwX10 : ∀ w ∈ u_ws RX10 TX10 8, w ∈ gw := gw_sub (goodIn_r _ [474, 476, 478, 480, 482, 484, 486, 488] (by decide +kernel) (by decide +kernel)) (by decide +kernel)
set_option maxRecDepth 100000 in
theorem gwX11 : ∀ w ∈ u_ws RX11 TX11 10, w ∈ gw := gw_sub (goodIn_r _ [1093, 1095, 1097, 1099, 1101, 1103, 1105, 1107, 1109, 1111] (by decide +kernel) (by decide +kernel)) (by decide +kernel)
set_option maxRecDepth 100000 in
theorem gwX12 : ∀ w ∈ u_ws RX12 TX12 186, w ∈ gw := gw_sub (goodIn_r _ [2398, 2400, 2402, 2404, 2406, 2408, 2410, 2412, 2414, 2416, 2418, 2420, 2422, 2424, 2426, 2428, 2430, 2432, 2434, 2436, 2438, 2440, 2442, 2444, 2446, 2448, 2450, 2452, 2454, 2456, 2458, 2460, 2462, 2464, 2466, 2468, 2470, 2472, 2474, 2476, 2478, 2480, 2482, 2484, 2486, 2488, 2490, 2492, 2494, 2496, 2498, 2500, 2502, 2504, 2506, 2508, 2510, 2512, 2514, 2516, 2518, 2520, 2522, 2524, 2526, 2528, 2530, 2532, 2534, 2536, 2538, 2540, 2542, 2544, 2546, 2548, 2550, 2552, 2554, 2556, 2558, 2560, 2562, 2564, 2566, 2568, 2570, 2572, 2574, 2576, 2578, 2580, 2582, 2584, 2586, 2588, 2590, 2592, 2594, 2596, 2598, 2600, 2602, 2604, 2606, 2608, 2610, 2612, 2614, 2616, 2618, 2620, 2622, 2624, 2626, 2628, 2630, 2632, 2634, 2636, 2638, 2640, 2642, 2644, 2646, 2648, 2650, 2652, 2654, 2656, 2658, 2660, 2662, 2664, 2666, 2668, 2670, 2672, 2674, 2676, 2678, 2680, 2682, 2684, 2686, 2688, 2690, 2692, 2694, 2696, 2698, 2700, 2702, 2704, 2706, 2708, 2710, 2712, 2714, 2716, 2718, 2720, 2722, 2724, 2726, 2728, 2730, 2732, 2734, 2736, 2738, 2740, 2742, 2744, 2746, 2748, 2750, 2752, 2754, 2756, 2758, 2760, 2762, 2764, 2766, 2768] (by decide +kernel) (by decide +kernel)) (by decide +kernel)
def ab_cty (a k : Nat) : FieldType := match a with
  | 0 => tyX0 k
  | 1 => tyX1 k
  | 2 => tyX2 k
  | 3 => tyX3 k
  | 4 => tyX4 k
  | 5 => tyX5 k
  | 6 => tyX6 k
  | 7 => tyX7 k
  | 8 => tyX8 k
  | 9 => tyX9 k
  | 10 => tyX10 k
  | 11 => tyX11 k
  | _ => tyX12 k
theorem ab_clsOK : ∀ (a : Nat) (q : vw_C), vwCl[a]? = some q → (∀ w ∈ u_ws q.1 q.2.1 q.2.2, w ∈ gw) ∧ (∀ k, k < q.2.2 → parseFieldDescriptor (q.2.1 k).2.2.1 = some (ab_cty a k)) ∧ ∀ x, x < q.2.2 → ∀ y, y < q.2.2 → x ≠ y → (q.2.1 x).2.1 ≠ (q.2.1 y).2.1 := by
  intro a q h
  match a, h with
  | 0, h => cases h; exact ⟨gwX0, tyX0_ok, nmX0⟩
  | 1, h => cases h; exact ⟨gwX1, tyX1_ok, nmX1⟩
  | 2, h => cases h; exact ⟨gwX2, tyX2_ok, nmX2⟩
  | 3, h => cases h; exact ⟨gwX3, tyX3_ok, nmX3⟩
  | 4, h => cases h; exact ⟨gwX4, tyX4_ok, nmX4⟩
  | 5, h => cases h; exact ⟨gwX5, tyX5_ok, nmX5⟩
  | 6, h => cases h; exact ⟨gwX6, tyX6_ok, nmX6⟩
  | 7, h => cases h; exact ⟨gwX7, tyX7_ok, nmX7⟩
  | 8, h => cases h; exact ⟨gwX8, tyX8_ok, nmX8⟩
  | 9, h => cases h; exact ⟨gwX9, tyX9_ok, nmX9⟩
  | 10, h => cases h; exact ⟨gwX10, tyX10_ok, nmX10⟩
  | 11, h => cases h; exact ⟨gwX11, tyX11_ok, nmX11⟩
  | 12, h => cases h; exact ⟨gwX12, tyX12_ok, nmX12⟩
  | n + 13, h => exact absurd h (by simp [vwCl])
