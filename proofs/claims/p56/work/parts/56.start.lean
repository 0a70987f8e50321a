/-! the start: what the Statement gives -/
abbrev GV : Jvm.Cond := Jvm.Cond.and given_1 narrow_1
theorem gv_at {args : Array Value} {s : State} {w : Cond} (hgv : GV.before args s = true) (i : Nat) (h : (flatC GV)[i]? = some w) : w.before args s = true := flat_of_before _ hgv _ (List.mem_of_getElem? h)
theorem tb_at {args : Array Value} {s : State} {w : Cond} (hts : ∀ w ∈ lw_tbl, w.before args s = true) (i : Nat) (h : tables_1[i]? = some w) : w.before args s = true := hts _ (List.mem_append_right _ (List.mem_of_getElem? h))
def selC : Nat → Nat → Jvm.Cond → Jvm.Cond
  | 0, _, c => c
  | n + 1, p, c => match c with
    | .and a b => if p % 2 = 0 then selC n (p / 2) a else selC n (p / 2) b
    | c => c
theorem selC_before {args : Array Value} {s : State} : ∀ (n p : Nat) (c : Jvm.Cond), c.before args s = true → (selC n p c).before args s = true := by
  intro n
  induction n with
  | zero => intro p c h; exact h
  | succ n ih =>
    intro p c h
    unfold selC
    split
    · rw [Cond.before_and, Bool.and_eq_true] at h
      split
      · exact ih _ _ h.1
      · exact ih _ _ h.2
    · exact h
theorem gp_at {args : Array Value} {s : State} {w : Cond} (hgv : GV.before args s = true) (p : Nat) (h : selC 20 p GV = w) : w.before args s = true := by
  rw [← h]
  exact selC_before _ _ _ hgv
def tmS (i : Nat) : Term := .string (site i).1 (site i).2.1
def SPL : List (List Nat) := [[7641, 5081, 7129, 6105, 8153, 2105, 5177, 7225, 2617, 5689, 7737, 2361, 5433, 7481, 2873, 5945, 7993, 2233, 5305, 7353, 2745, 5817, 7865, 2489, 5561, 7609, 5049, 7097, 6073, 8121, 2169, 5241, 7289, 2681, 5753, 7801, 2425, 5497, 7545, 2937, 6009, 8057, 2297, 5369, 7417, 2809, 5881, 7929, 2553, 5625, 7673, 5113, 7161, 6137], [8185, 2053, 5125, 7173, 2565, 5637, 7685, 2309, 5381, 7429, 2821, 5893, 7941, 2181, 5253, 7301, 2693, 5765, 7813, 2437, 5509, 7557], [4997, 7045, 6021, 8069, 2117, 5189, 7237, 2629, 5701, 7749], [2373, 5445, 7493, 2885, 5957, 8005, 2245, 5317], [7365, 2757, 5829, 7877, 2501, 5573, 7621, 5061, 7109], [6085, 8133, 2085, 5157, 7205, 2597, 5669, 7717, 2341], [5413, 7461, 2853, 5925, 7973, 2213, 5285, 7333], [2725, 5797, 7845, 2469, 5541, 7589, 5029, 7077], [6053, 8101, 2149, 5221, 7269, 2661, 5733, 7781, 2405, 5477], [7525, 2917, 5989, 8037, 2277, 5349, 7397, 2789, 5861, 7909], [2533, 5605, 7653, 5093, 7141, 6117, 8165, 2069, 5141, 7189], [2581, 5653, 7701, 2325, 5397, 7445, 2837, 5909, 7957, 2197, 5269, 7317, 2709, 5781, 7829, 2453, 5525, 7573, 5013, 7061, 6037, 8085, 2133, 5205, 7253, 2645, 5717, 7765, 2389, 5461, 7509, 2901, 5973, 8021, 2261, 5333, 7381, 2773, 5845], [7893, 2517, 5589, 7637, 5077, 7125, 6101, 8149, 2101, 5173, 7221, 2613, 5685, 7733, 2357, 5429, 7477, 2869, 5941, 7989], [2229, 5301, 7349, 2741, 5813, 7861, 2485, 5557, 7605, 5045, 7093, 6069, 8117, 2165, 5237, 7285, 2677, 5749, 7797, 2421, 5493, 7541, 2933, 6005, 8053, 2293], [5365, 7413, 2805, 5877, 7925, 2549, 5621, 7669, 5109, 7157, 6133, 8181, 2061, 5133, 7181, 2573, 5645, 7693, 2317, 5389, 7437, 2829, 5901, 7949, 2189, 5261, 7309, 2701, 5773, 7821, 2445, 5517, 7565, 5005, 7053, 6029, 8077, 2125, 5197, 7245, 2637, 5709, 7757, 2381, 5453, 7501, 2893, 5965, 8013, 2253], [5325, 7373, 2765, 5837, 7885, 2509, 5581, 7629, 5069, 7117, 6093, 8141, 2093, 5165, 7213, 2605, 5677, 7725, 2349, 5421, 7469, 2861, 5933, 7981, 2221, 5293, 7341, 2733, 5805, 7853], [2477, 5549, 7597, 5037, 7085, 6061, 8109, 2157, 5229, 7277, 2669, 5741, 7789, 2413, 5485, 7533, 2925, 5997, 8045, 2285, 5357, 7405, 2797, 5869], [7917, 2541, 5613, 7661, 5101, 7149, 6125, 8173, 2077, 5149, 7197, 2589, 5661, 7709, 2333, 5405, 7453, 2845, 5917, 7965, 2205, 5277, 7325, 2717, 5789, 7837, 2461], [5533, 7581, 5021, 7069, 6045, 8093, 2141, 5213, 7261], [2653, 5725, 7773, 2397, 5469, 7517, 2909, 5981, 8029, 2269, 5341, 7389, 2781, 5853, 7901, 2525, 5597, 7645, 5085, 7133, 6109, 8157, 2109, 5181, 7229, 2621], [5693, 7741, 2365, 5437, 7485, 2877, 5949, 7997, 2237, 5309, 7357, 2749, 5821, 7869, 2493, 5565, 7613, 5053, 7101, 6077, 8125, 2173, 5245, 7293, 2685, 5757], [7805, 2429, 5501, 7549, 2941, 6013, 8061, 2301, 5373, 7421, 2813, 5885, 7933, 2557, 5629, 7677, 5117, 7165, 6141, 8189, 2051, 5123, 7171, 2563, 5635, 7683, 2307, 5379], [7427, 2819, 5891, 7939, 2179, 5251, 7299, 2691, 5763, 7811, 2435, 5507, 7555, 4995, 7043, 6019, 8067, 2115, 5187, 7235, 2627, 5699, 7747, 2371, 5443, 7491], [2883, 5955, 8003, 2243, 5315, 7363, 2755, 5827, 7875, 2499, 5571, 7619, 5059, 7107, 6083, 8131, 2083, 5155, 7203, 2595, 5667, 7715, 2339, 5411], [7459, 2851, 5923, 7971, 2211, 5283, 7331, 2723, 5795, 7843, 2467, 5539, 7587, 5027, 7075, 6051, 8099, 2147, 5219, 7267, 2659, 5731, 7779, 2403, 5475], [7523, 2915, 5987, 8035, 2275, 5347, 7395, 2787, 5859, 7907, 2531, 5603, 7651, 5091, 7139, 6115, 8163, 2067, 5139, 7187, 2579, 5651, 7699, 2323, 5395, 7443, 2835, 5907], [7955, 2195, 5267, 7315, 2707, 5779, 7827, 2451, 5523, 7571, 5011, 7059, 6035, 8083, 2131, 5203, 7251, 2643, 5715, 7763, 2387, 5459, 7507, 2899, 5971, 8019, 2259, 5331, 7379, 2771, 5843], [7891, 2515, 5587, 7635, 5075, 7123, 6099], [8147, 2099, 5171, 7219, 2611, 5683, 7731, 2355, 5427, 7475, 2867, 5939, 7987, 2227], [5299, 7347, 2739, 5811, 7859, 2483, 5555, 7603, 5043, 7091, 6067, 8115, 2163, 5235, 7283, 2675], [5747, 7795, 2419, 5491, 7539], [2931, 6003, 8051, 2291, 5363, 7411, 2803, 5875, 7923, 2547, 5619, 7667, 5107, 7155, 6131, 8179, 2059, 5131, 7179, 2571, 5643, 7691, 2315, 5387, 7435, 2827, 5899, 7947, 2187, 5259], [7307, 2699, 5771, 7819, 2443, 5515, 7563, 5003, 7051, 6027, 8075, 2123, 5195, 7243, 2635, 5707, 7755, 2379, 5451, 7499, 2891], [5963, 8011, 2251, 5323, 7371, 2763, 5835, 7883, 2507, 5579, 7627, 5067, 7115, 6091, 8139, 2091, 5163, 7211, 2603, 5675, 7723, 2347, 5419, 7467, 2859, 5931, 7979, 2219, 5291, 7339, 2731, 5803, 7851, 2475, 5547, 7595, 5035, 7083, 6059, 8107, 2155], [5227, 7275, 2667, 5739, 7787, 2411, 5483, 7531], [2923, 5995, 8043, 2283, 5355, 7403, 2795], [5867, 7915, 2539, 5611, 7659, 5099, 7147, 6123, 8171, 2075, 5147, 7195, 2587, 5659, 7707, 2331], [5403, 7451, 2843, 5915, 7963, 2203, 5275, 7323, 2715, 5787, 7835, 2459, 5531, 7579, 5019, 7067, 6043, 8091, 2139, 5211, 7259, 2651, 5723, 7771, 2395, 5467, 7515, 2907, 5979], [8027, 2267, 5339, 7387, 2779, 5851, 7899, 2523, 5595], [7643, 5083, 7131, 6107, 8155, 2107, 5179, 7227, 2619, 5691, 7739, 2363, 5435, 7483, 2875], [5947, 7995, 2235, 5307, 7355, 2747, 5819, 7867, 2491, 5563, 7611], [5051, 7099, 6075, 8123, 2171, 5243, 7291, 2683, 5755, 7803, 2427, 5499, 7547, 2939, 6011, 8059, 2299, 5371, 7419], [2811, 5883, 7931, 2555, 5627, 7675, 5115, 7163, 6139], [2055, 3079, 2567, 5639, 7687, 2311, 3335, 2823, 5895, 7943, 2183, 3207, 2695, 5767, 7815, 2439, 3463, 2951, 6023, 8071], [2119, 3143, 2631, 5703, 7751, 2375, 3399, 2887], [8007, 2247, 3271, 2759, 5831, 7879, 2503, 5575, 7623, 3015, 6087], [8135, 2087, 3111, 2599, 5671, 7719, 2343, 3367, 2855, 5927, 7975, 2215, 3239, 2727, 5799, 7847], [2471, 5543, 7591, 2983, 6055, 8103, 2151, 3175, 2663, 5735, 7783], [2407, 3431, 2919, 5991, 8039, 2279, 3303, 2791, 5863, 7911, 2535, 5607, 7655, 3047, 6119, 8167, 2071, 3095, 2583, 5655, 7703], [2327, 3351, 2839, 5911, 7959, 2199, 3223, 2711, 5783, 7831, 2455], [3479, 2967, 6039, 8087, 2135, 3159, 2647, 5719, 7767, 2391, 3415, 2903, 5975, 8023, 2263, 3287, 2775, 5847, 7895], [2519, 5591, 7639, 3031, 6103, 8151, 2103, 3127, 2615, 5687, 7735], [2359, 3383, 2871, 5943, 7991, 2231, 3255, 2743, 5815, 7863, 2487, 5559, 7607, 2999, 6071, 8119, 2167, 3191], [2679, 5751, 7799, 2423, 3447, 2935, 6007, 8055, 2295, 3319, 2807, 5879, 7927, 2551, 5623, 7671], [3063, 6135, 8183, 2063, 3087, 2575, 5647, 7695, 2319, 3343, 2831, 5903, 7951, 2191, 3215], [2703, 5775, 7823, 2447, 3471, 2959, 6031, 8079, 2127, 3151, 2639, 5711, 7759, 2383, 3407], [2895, 5967, 8015, 2255, 3279, 2767, 5839, 7887, 2511], [5583, 7631, 3023, 6095, 8143, 2095, 3119, 2607, 5679, 7727], [2351, 3375, 2863, 5935, 7983, 2223, 3247, 2735, 5807, 7855, 2479, 5551], [7599, 2991, 6063, 8111, 2159, 3183, 2671, 5743, 7791], [2415, 3439, 2927, 5999, 8047, 2287, 3311, 2799, 5871, 7919, 2543], [5615, 7663, 3055, 6127, 8175, 2079, 3103, 2591, 5663, 7711, 2335, 3359], [2847, 5919, 7967, 2207, 3231, 2719, 5791, 7839, 2463, 5535, 7583, 2975]]
def SRL : List Nat := [423, 470, 645, 646, 647, 648, 649, 650, 651, 652, 653, 726, 757, 816, 830, 848, 866, 887, 896, 941, 1013, 1026, 1041, 1059, 1096, 1109, 1142, 1302, 1340, 1341, 1342, 1349, 1395, 1443, 1456, 1457, 1491, 1492, 1493, 1494, 1495, 1496, 1497, 1498, 1499, 1500, 1501, 1502, 1503, 1504, 1505, 1506, 1507, 1508, 1509, 1510, 1511, 1512, 1513, 1514, 1515, 1516, 1517]
set_option maxRecDepth 100000 in
set_option maxHeartbeats 4000000 in
theorem sp_ex : ∀ i, i < 63 → selC 20 ((SPL.getD i []).getD 0 0) GV = Cond.exactly (tmS i) "java/lang/String" := by decide +kernel
set_option maxRecDepth 100000 in
set_option maxHeartbeats 4000000 in
theorem sp_co : ∀ i, i < 63 → selC 20 ((SPL.getD i []).getD 1 0) GV = Cond.eq (.field (tmS i) "java/lang/String" "coder" "B") (.int 0) := by decide +kernel
set_option maxRecDepth 100000 in
set_option maxHeartbeats 4000000 in
theorem sp_ar : ∀ i, i < 63 → selC 20 ((SPL.getD i []).getD 2 0) GV = Cond.arrayOf (.field (tmS i) "java/lang/String" "value" "[B") .byte := by decide +kernel
set_option maxRecDepth 100000 in
set_option maxHeartbeats 4000000 in
theorem sp_le : ∀ i, i < 63 → selC 20 ((SPL.getD i []).getD 3 0) GV = Cond.eq (.length (.field (tmS i) "java/lang/String" "value" "[B")) (.int (Int32.ofNat (site i).2.2.2.length)) := by decide +kernel
set_option maxRecDepth 100000 in
set_option maxHeartbeats 4000000 in
theorem sp_el : ∀ i, i < 63 → ∀ j, j < (site i).2.2.2.length → selC 20 ((SPL.getD i []).getD (4 + j) 0) GV = Cond.eq (.elem (.field (tmS i) "java/lang/String" "value" "[B") (.int (Int32.ofNat j))) (.int ((site i).2.2.2.getD j 0)) := by decide +kernel
set_option maxRecDepth 100000 in
set_option maxHeartbeats 4000000 in
theorem sp_sr : ∀ i, i < 63 → tables_1[SRL.getD i 0]? = some (Cond.stringRef (site i).1 (site i).2.1 (site i).2.2.1) := by decide +kernel
set_option maxRecDepth 100000 in
set_option maxHeartbeats 4000000 in
theorem sp_len : ∀ i, i < 63 → (site i).2.2.2.length < 1000 := by decide +kernel
theorem st_one {args : Array Value} {s : State} {A : Nat → Prop} (hts : ∀ w ∈ lw_tbl, w.before args s = true) (hgv : GV.before args s = true) (hA : ∀ a : Nat, a < s.heap.size → ¬ A a) (i : Nat) (hi : i < 63) : ∃ q : Nat × Nat, vk_R (site i).1 (site i).2.1 (site i).2.2.1 q.1 s ∧ vk_S 1 [(site i).2.2.2.length] [(site i).2.2.2] (fun _ => q.1) (fun _ => q.2) A s s.heap ∧ (tmS i).eval args s none [] s = some (.ref q.1) := by
  obtain ⟨adK, adV, hS, he⟩ := vk_Sof (args := args) (s := s) (N := 1) (tm := fun _ => tmS i) (len := [(site i).2.2.2.length]) (byt := [(site i).2.2.2]) (A := A) (fun k hk => by
    have h0 : k = 0 := by omega
    subst h0
    exact Nat.lt_trans (sp_len i hi) (by decide)) (fun k _ => gp_at hgv _ (sp_ex i hi)) (fun k _ => gp_at hgv _ (sp_co i hi)) (fun k _ => gp_at hgv _ (sp_ar i hi)) (fun k hk => by
    have h0 : k = 0 := by omega
    subst h0
    exact gp_at hgv _ (sp_le i hi)) (fun k hk j hj => by
    have h0 : k = 0 := by omega
    subst h0
    exact gp_at hgv _ (sp_el i hi j hj)) (fun a b ha hb hn => absurd (by omega) hn) hA
  refine ⟨(adK 0, adV 0), vk_R.of (tb_at hts _ (sp_sr i hi)) (he 0 (by omega)), ⟨fun k hk => ?_, fun a b ha hb _ => by omega⟩, he 0 (by omega)⟩
  have h0 : k = 0 := by omega
  subst h0
  exact hS.1 0 hk
def TXP : List Nat := [2177, 5249, 7297, 2689, 5761, 7809, 2433, 5505, 7553, 4993, 7041, 6017, 8065, 2113, 5185, 7233, 2625, 5697, 7745, 2369, 5441, 7489, 2881, 5953, 8001, 2241, 5313]
set_option maxRecDepth 100000 in
set_option maxHeartbeats 4000000 in
theorem tx_el : ∀ j, j < 27 → selC 20 (TXP.getD j 0) GV = Cond.eq (.elem (.static "StoneChurnLaw" "TEXTS" "[Ljava/lang/String;") (.int (Int32.ofNat j))) (tmS (TXS.getD j 0)) := by decide +kernel
theorem tx_lt : ∀ j, j < 27 → TXS.getD j 0 < 63 := by decide +kernel
def dgOP : List Nat := [7873, 2497, 5569, 7617, 5057, 7105, 6081, 8129, 2081, 5153, 7201, 2593, 5665, 7713, 2337, 5409, 7457, 2849, 5921, 7969, 2209, 5281, 7329, 2721, 5793, 7841, 2465, 5537, 7585, 5025, 7073, 6049, 8097, 2145, 5217, 7265, 2657, 5729, 7777, 2401, 5473, 7521, 2913, 5985, 8033, 2273, 5345, 7393, 2785, 5857, 7905, 2529, 5601, 7649, 5089, 7137, 6113, 8161, 2065, 5137, 7185, 2577, 5649, 7697, 2321, 5393, 7441, 2833, 5905, 7953, 2193, 5265, 7313, 2705, 5777, 7825, 2449, 5521, 7569, 5009, 7057, 6033, 8081, 2129, 5201, 7249, 2641, 5713, 7761, 2385, 5457, 7505, 2897, 5969, 8017, 2257, 5329, 7377, 2769, 5841]
set_option maxRecDepth 100000 in
set_option maxHeartbeats 4000000 in
theorem dgO_el : ∀ j, j < 100 → selC 20 (dgOP.getD j 0) GV = Cond.eq (.elem (.static "java/lang/Integer" "DigitOnes" "[B") (.int (Int32.ofNat j))) (.int (dgO j)) := by decide +kernel
def dgTP : List Nat := [7633, 5073, 7121, 6097, 8145, 2097, 5169, 7217, 2609, 5681, 7729, 2353, 5425, 7473, 2865, 5937, 7985, 2225, 5297, 7345, 2737, 5809, 7857, 2481, 5553, 7601, 5041, 7089, 6065, 8113, 2161, 5233, 7281, 2673, 5745, 7793, 2417, 5489, 7537, 2929, 6001, 8049, 2289, 5361, 7409, 2801, 5873, 7921, 2545, 5617, 7665, 5105, 7153, 6129, 8177, 2057, 5129, 7177, 2569, 5641, 7689, 2313, 5385, 7433, 2825, 5897, 7945, 2185, 5257, 7305, 2697, 5769, 7817, 2441, 5513, 7561, 5001, 7049, 6025, 8073, 2121, 5193, 7241, 2633, 5705, 7753, 2377, 5449, 7497, 2889, 5961, 8009, 2249, 5321, 7369, 2761, 5833, 7881, 2505, 5577]
set_option maxRecDepth 100000 in
set_option maxHeartbeats 4000000 in
theorem dgT_el : ∀ j, j < 100 → selC 20 (dgTP.getD j 0) GV = Cond.eq (.elem (.static "java/lang/Integer" "DigitTens" "[B") (.int (Int32.ofNat j))) (.int (dgT j)) := by decide +kernel
theorem va_T_congr {ty : FieldType} {t N : Nat} {f g : Nat → Value} {A : Nat → Prop} {U : State} {H : Heap} (h : va_T ty t N f A U H) (e : ∀ j, j < N → f j = g j) : va_T ty t N g A U H := by
  obtain ⟨cell, h1, h2, h3, h4, h5, h6, h7⟩ := h
  exact ⟨cell, h1, h2, h3, h4, h5, fun j hj => by rw [← e j hj]; exact h6 j hj, h7⟩
theorem st_Z {args : Array Value} {s : State} {A : Nat → Prop} (hts : ∀ w ∈ lw_tbl, w.before args s = true) (hgv : GV.before args s = true) (hA : ∀ a : Nat, a < s.heap.size → ¬ A a) : ∃ gz : Nat → Nat, pZ gz A s s.heap := by
  have h1 : ∀ i : Nat, ∃ q : Nat × Nat, i < 63 → vk_R (site i).1 (site i).2.1 (site i).2.2.1 q.1 s ∧ vk_S 1 [(site i).2.2.2.length] [(site i).2.2.2] (fun _ => q.1) (fun _ => q.2) A s s.heap ∧ (tmS i).eval args s none [] s = some (.ref q.1) := by
    intro i
    by_cases hi : i < 63
    · obtain ⟨q, h⟩ := st_one hts hgv hA i hi
      exact ⟨q, fun _ => h⟩
    · exact ⟨(0, 0), fun h => absurd h hi⟩
  obtain ⟨ad, had⟩ := Classical.axiomOfChoice h1
  obtain ⟨t0, e0, hT0⟩ := va_Tof (args := args) (s := s) (tm := .static "java/lang/Integer" "DigitOnes" "[B") (ty := .byte) (N := 100) (f := fun j => .int (dgO j)) (A := A) (by decide) (gp_at hgv 2753 (by decide +kernel)) (va_eqt (gp_at hgv 5825 (by decide +kernel))) (fun j hj => va_eqt (gp_at hgv _ (dgO_el j hj))) hA
  obtain ⟨t1, e1, hT1⟩ := va_Tof (args := args) (s := s) (tm := .static "java/lang/Integer" "DigitTens" "[B") (ty := .byte) (N := 100) (f := fun j => .int (dgT j)) (A := A) (by decide) (gp_at hgv 2513 (by decide +kernel)) (va_eqt (gp_at hgv 5585 (by decide +kernel))) (fun j hj => va_eqt (gp_at hgv _ (dgT_el j hj))) hA
  obtain ⟨t2, e2, hT2⟩ := va_Tof (args := args) (s := s) (tm := .static "StoneChurnLaw" "TEXTS" "[Ljava/lang/String;") (ty := .object "java/lang/String") (N := 27) (f := fun j => .ref (ad (TXS.getD j 0)).1) (A := A) (by decide) (gp_at hgv 5889 (by decide +kernel)) (va_eqt (gp_at hgv 7937 (by decide +kernel))) (fun j hj => va_eqv (gp_at hgv _ (tx_el j hj)) (had _ (tx_lt j hj)).2.2) hA
  refine ⟨fun n => if n < 126 then (if n % 2 = 0 then (ad (n / 2)).1 else (ad (n / 2)).2) else if n = 200 then t0 else if n = 201 then t1 else t2, fun i hi => ?_, va_Zof (tb_at hts 251 (by decide +kernel)) (tb_at hts 11 (by decide +kernel)) (va_eqi (gp_at hgv 7169 (by decide +kernel))) hA, ⟨va_Zof (tb_at hts 1252 (by decide +kernel)) (tb_at hts 30 (by decide +kernel)) e0 hA, hT0⟩, ⟨va_Zof (tb_at hts 1254 (by decide +kernel)) (tb_at hts 30 (by decide +kernel)) e1 hA, hT1⟩, va_Zqof (tb_at hts 682 (by decide +kernel)) (tb_at hts 14 (by decide +kernel)) (gp_at hgv 7681 (by decide +kernel)) hA, vx_Zqof (tb_at hts 404 (by decide +kernel)) (tb_at hts 15 (by decide +kernel)) (gp_at hgv 2561 (by decide +kernel)) hA, vx_Zqof (tb_at hts 406 (by decide +kernel)) (tb_at hts 15 (by decide +kernel)) (gp_at hgv 5633 (by decide +kernel)) hA, va_Zof (tb_at hts 964 (by decide +kernel)) (tb_at hts 0 (by decide +kernel)) e2 hA, ?_⟩
  · have g0 : (if 2 * i < 126 then (if 2 * i % 2 = 0 then (ad (2 * i / 2)).1 else (ad (2 * i / 2)).2) else if 2 * i = 200 then t0 else if 2 * i = 201 then t1 else t2) = (ad i).1 := by
      rw [if_pos (by omega), if_pos (by omega), show 2 * i / 2 = i by omega]
    have g1 : (if 2 * i + 1 < 126 then (if (2 * i + 1) % 2 = 0 then (ad ((2 * i + 1) / 2)).1 else (ad ((2 * i + 1) / 2)).2) else if 2 * i + 1 = 200 then t0 else if 2 * i + 1 = 201 then t1 else t2) = (ad i).2 := by
      rw [if_pos (by omega), if_neg (by omega), show (2 * i + 1) / 2 = i by omega]
    unfold stOk
    simp only [g0, g1]
    exact ⟨(had i hi).1, (had i hi).2.1⟩
  · refine va_T_congr hT2 (fun j hj => ?_)
    have hlt := tx_lt j hj
    have g0 : (if 2 * TXS.getD j 0 < 126 then (if 2 * TXS.getD j 0 % 2 = 0 then (ad (2 * TXS.getD j 0 / 2)).1 else (ad (2 * TXS.getD j 0 / 2)).2) else if 2 * TXS.getD j 0 = 200 then t0 else if 2 * TXS.getD j 0 = 201 then t1 else t2) = (ad (TXS.getD j 0)).1 := by
      rw [if_pos (by omega), if_pos (by omega), show 2 * TXS.getD j 0 / 2 = TXS.getD j 0 by omega]
    exact congrArg Value.ref g0.symm
set_option maxRecDepth 100000 in
set_option maxHeartbeats 4000000 in
theorem inT_RJ0 : ∀ w ∈ wsJ00, w ∈ lw_tbl := by decide +kernel
set_option maxRecDepth 100000 in
set_option maxHeartbeats 4000000 in
theorem inT_RJ4 : ∀ w ∈ wsJ40, w ∈ lw_tbl := by decide +kernel
set_option maxRecDepth 100000 in
set_option maxHeartbeats 4000000 in
theorem inT_RJx00060 : ∀ w ∈ wsJx000600, w ∈ lw_tbl := by decide +kernel
set_option maxRecDepth 100000 in
set_option maxHeartbeats 4000000 in
theorem inT_RJx7c733 : ∀ w ∈ wsJx7c7330, w ∈ lw_tbl := by decide +kernel
set_option maxRecDepth 100000 in
set_option maxHeartbeats 4000000 in
theorem inT_RX0 : ∀ w ∈ wsX00, w ∈ lw_tbl := by decide +kernel
set_option maxRecDepth 100000 in
set_option maxHeartbeats 4000000 in
theorem inT_RX1 : ∀ w ∈ wsX10, w ∈ lw_tbl := by decide +kernel
set_option maxRecDepth 100000 in
set_option maxHeartbeats 4000000 in
theorem inT_RX2 : ∀ w ∈ wsX20, w ∈ lw_tbl := by decide +kernel
set_option maxRecDepth 100000 in
set_option maxHeartbeats 4000000 in
theorem inT_RX3 : ∀ w ∈ wsX30, w ∈ lw_tbl := by decide +kernel
set_option maxRecDepth 100000 in
set_option maxHeartbeats 4000000 in
theorem inT_RX4 : ∀ w ∈ wsX40, w ∈ lw_tbl := by decide +kernel
set_option maxRecDepth 100000 in
set_option maxHeartbeats 4000000 in
theorem inT_RX5 : ∀ w ∈ wsX50, w ∈ lw_tbl := by decide +kernel
set_option maxRecDepth 100000 in
set_option maxHeartbeats 4000000 in
theorem inT_RX6 : ∀ w ∈ wsX60, w ∈ lw_tbl := by decide +kernel
set_option maxRecDepth 100000 in
set_option maxHeartbeats 4000000 in
theorem inT_RX7 : ∀ w ∈ wsX70, w ∈ lw_tbl := by decide +kernel
theorem st_K {args : Array Value} {s : State} (hts : ∀ w ∈ lw_tbl, w.before args s = true) : ∃ (dC : Nat → ClassId) (dI : Nat → Nat → Nat) (dA : Nat → Nat), va_K (dC, dI) vwCl (tyA dA) s := by
  obtain ⟨c0, i0, k0⟩ := u_known (C := RJ0) (T := TJ0) (N := 4) (n := 4) hts inT_RJ0 (tb_at hts 919 (by decide +kernel))
  obtain ⟨c1, i1, k1⟩ := u_known (C := RJ4) (T := TJ4) (N := 4) (n := 4) hts inT_RJ4 (tb_at hts 242 (by decide +kernel))
  obtain ⟨c2, i2, k2⟩ := u_known (C := RJx00060) (T := TJx00060) (N := 6) (n := 6) hts inT_RJx00060 (tb_at hts 901 (by decide +kernel))
  obtain ⟨c3, i3, k3⟩ := u_known (C := RJx7c733) (T := TJx7c733) (N := 6) (n := 6) hts inT_RJx7c733 (tb_at hts 1136 (by decide +kernel))
  obtain ⟨c4, i4, k4⟩ := u_known (C := RX0) (T := TX0) (N := 4) (n := 4) hts inT_RX0 (tb_at hts 41 (by decide +kernel))
  obtain ⟨c5, i5, k5⟩ := u_known (C := RX1) (T := TX1) (N := 4) (n := 4) hts inT_RX1 (tb_at hts 88 (by decide +kernel))
  obtain ⟨c6, i6, k6⟩ := u_known (C := RX2) (T := TX2) (N := 7) (n := 7) hts inT_RX2 (tb_at hts 47 (by decide +kernel))
  obtain ⟨c7, i7, k7⟩ := u_known (C := RX3) (T := TX3) (N := 3) (n := 3) hts inT_RX3 (tb_at hts 184 (by decide +kernel))
  obtain ⟨c8, i8, k8⟩ := u_known (C := RX4) (T := TX4) (N := 5) (n := 5) hts inT_RX4 (tb_at hts 114 (by decide +kernel))
  obtain ⟨c9, i9, k9⟩ := u_known (C := RX5) (T := TX5) (N := 4) (n := 4) hts inT_RX5 (tb_at hts 142 (by decide +kernel))
  obtain ⟨c10, i10, k10⟩ := u_known (C := RX6) (T := TX6) (N := 8) (n := 8) hts inT_RX6 (tb_at hts 204 (by decide +kernel))
  obtain ⟨c11, i11, k11⟩ := u_known (C := RX7) (T := TX7) (N := 11) (n := 11) hts inT_RX7 (tb_at hts 33 (by decide +kernel))
  obtain ⟨a0, q0, m0, f0, g0, e0⟩ := Cond.arrayClass_spec (tb_at hts 85 (w := .arrayClass .char) (by decide +kernel))
  obtain ⟨a1, q1, m1, f1, g1, e1⟩ := Cond.arrayClass_spec (tb_at hts 86 (w := .arrayClass .int) (by decide +kernel))
  obtain ⟨a2, q2, m2, f2, g2, e2⟩ := Cond.arrayClass_spec (tb_at hts 273 (w := .arrayClass .byte) (by decide +kernel))
  obtain ⟨m3, a3, q3, f3, -, g3, e3, n3⟩ := Cond.arrayOver_spec (tb_at hts 190 (w := .arrayOver (.object "StoneChurn$Batch")) (by decide +kernel))
  refine ⟨fun k => if k = 0 then c0 else if k = 1 then c1 else if k = 2 then c2 else if k = 3 then c3 else if k = 4 then c4 else if k = 5 then c5 else if k = 6 then c6 else if k = 7 then c7 else if k = 8 then c8 else if k = 9 then c9 else if k = 10 then c10 else c11, fun k => if k = 0 then i0 else if k = 1 then i1 else if k = 2 then i2 else if k = 3 then i3 else if k = 4 then i4 else if k = 5 then i5 else if k = 6 then i6 else if k = 7 then i7 else if k = 8 then i8 else if k = 9 then i9 else if k = 10 then i10 else i11, fun k => if k = 0 then a0 else if k = 1 then a1 else if k = 2 then a2 else a3, ?_, ?_⟩
  · intro k q hq
    match k, hq with
    | 0, hq => cases hq; exact k0
    | 1, hq => cases hq; exact k1
    | 2, hq => cases hq; exact k2
    | 3, hq => cases hq; exact k3
    | 4, hq => cases hq; exact k4
    | 5, hq => cases hq; exact k5
    | 6, hq => cases hq; exact k6
    | 7, hq => cases hq; exact k7
    | 8, hq => cases hq; exact k8
    | 9, hq => cases hq; exact k9
    | 10, hq => cases hq; exact k10
    | 11, hq => cases hq; exact k11
    | k + 12, hq => simp [vwCl] at hq
  · intro k q hq
    match k, hq with
    | 0, hq => cases hq; exact ⟨fun n z => ⟨fun k h => (by cases h), q0, g0, m0, e0⟩, f0⟩
    | 1, hq => cases hq; exact ⟨fun n z => ⟨fun k h => (by cases h), q1, g1, m1, e1⟩, f1⟩
    | 2, hq => cases hq; exact ⟨fun n z => ⟨fun k h => (by cases h), q2, g2, m2, e2⟩, f2⟩
    | 3, hq => cases hq; exact ⟨fun n z => ⟨fun k h => (by cases h), q3, g3, m3, e3⟩, q3, m3, g3, e3, f3, n3⟩
    | k + 4, hq => simp [tyA] at hq
set_option maxRecDepth 100000 in
set_option maxHeartbeats 4000000 in
theorem ng_in : NG.all (fun w => decide (w ∈ lw_tbl)) = true := by decide +kernel
def NCP : List Nat := [5033, 5353, 7705, 7065, 2265, 5673, 7401, 2329, 6041, 5337, 7721, 7081, 5401, 8089, 7385, 7465, 2153, 7913, 2137, 7897, 2345, 6057, 2793, 7449, 2777, 7977, 2665, 7657, 2201, 7257]
set_option maxRecDepth 100000 in
set_option maxHeartbeats 4000000 in
theorem nc_in : (NCL.zip NCP).all (fun q => decide (selC 20 q.2 GV = Cond.not (.castable q.1.1 q.1.2))) = true := by decide +kernel
theorem nc_zip {q : String × String} (h : q ∈ NCL) : ∃ p, (q, p) ∈ NCL.zip NCP := by
  have e : NCL = (NCL.zip NCP).map Prod.fst := by decide +kernel
  rw [e] at h
  obtain ⟨⟨a, p⟩, h1, h2⟩ := List.mem_map.mp h
  cases h2
  exact ⟨p, h1⟩
theorem st_N {args : Array Value} {s : State} (hts : ∀ w ∈ lw_tbl, w.before args s = true) : nW s := nW_of (args := args) fun w hw => hts w (of_decide_eq_true (List.all_eq_true.mp ng_in w hw))
theorem st_C {args : Array Value} {s : State} (hgv : GV.before args s = true) : nC s := fun q hq => by
  obtain ⟨p, h⟩ := nc_zip hq
  exact va_Nc.of (gp_at hgv p (of_decide_eq_true (List.all_eq_true.mp nc_in (q, p) h)))
theorem st_B {args : Array Value} {s : State} (hts : ∀ w ∈ lw_tbl, w.before args s = true) : ∀ w ∈ BIG, w.before args s = true := by
  intro w hw
  rcases big_lw hw with h | h
  · exact hts w h
  · have h0 : (Cond.selects "java/lang/StringBuilder" ⟨"java/lang/AbstractStringBuilder", "isLatin1", "()Z"⟩ ⟨"java/lang/AbstractStringBuilder", "isLatin1", "()Z"⟩).before args s = true := tb_at hts 1186 (by decide +kernel)
    simp only [XSEL, List.mem_cons, List.not_mem_nil, or_false] at h
    rcases h with rfl | rfl
    · exact sel_up h0 rfl ⟨by decide +kernel, by decide +kernel⟩ (tb_at hts 1155 (by decide +kernel)) (tb_at hts 1156 (by decide +kernel))
    · exact sel_up h0 rfl ⟨by decide +kernel, by decide +kernel⟩ (tb_at hts 1159 (by decide +kernel)) (tb_at hts 1160 (by decide +kernel))
