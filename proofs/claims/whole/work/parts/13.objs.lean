/-! THE CELLS that the two constructors make (and the reader of net): their ids, and which refers to which -/
abbrev kx : Nat := 2097162
abbrev kx_tape : Nat := 4239121
abbrev kx_now : Nat := 6291462
abbrev kx_now_cables : Nat := 8388609
abbrev kx_now_cables_first : Nat := 10487312
abbrev kx_now_cables_second : Nat := 12584464
abbrev kx_now_cables_price : Nat := 14681616
abbrev kx_now_cables_firm : Nat := 16778768
abbrev kx_now_cables_order : Nat := 18875920
abbrev kx_now_swaps : Nat := 20971527
abbrev kx_now_swaps_rows : Nat := 23134224
abbrev kx_now_acts : Nat := 25165824
abbrev kx_now_acts_prices : Nat := 27324432
abbrev kx_now_acts_counts : Nat := 29362704
abbrev kx_now_acts_sounds : Nat := 31459856
abbrev kx_now_acts_swaps : Nat := 33557008
abbrev kx_now_refused : Nat := 35651792
abbrev kx_kept : Nat := 37748742
abbrev kx_kept_cables : Nat := 39845889
abbrev kx_kept_cables_first : Nat := 41944592
abbrev kx_kept_cables_second : Nat := 44041744
abbrev kx_kept_cables_price : Nat := 46138896
abbrev kx_kept_cables_firm : Nat := 48236048
abbrev kx_kept_cables_order : Nat := 50333200
abbrev kx_kept_swaps : Nat := 52428807
abbrev kx_kept_swaps_rows : Nat := 54591504
abbrev kx_kept_acts : Nat := 56623104
abbrev kx_kept_acts_prices : Nat := 58781712
abbrev kx_kept_acts_counts : Nat := 60819984
abbrev kx_kept_acts_sounds : Nat := 62917136
abbrev kx_kept_acts_swaps : Nat := 65014288
abbrev kx_kept_refused : Nat := 67109072
abbrev kx_forest : Nat := 69206018
abbrev kx_forest_order : Nat := 71303760
abbrev kx_forest_piece : Nat := 73400976
abbrev kx_ways : Nat := 75497481
abbrev kx_ways_span : Nat := 77601040
abbrev kx_ways_hops : Nat := 79698192
abbrev kx_ways_step : Nat := 81795344
abbrev kx_ways_dearest : Nat := 83892496
abbrev kx_trial : Nat := 85983233
abbrev kx_trial_first : Nat := 88081936
abbrev kx_trial_second : Nat := 90179088
abbrev kx_trial_price : Nat := 92276240
abbrev kx_trial_firm : Nat := 94373392
abbrev kx_trial_order : Nat := 96470544
abbrev kx_trialNet : Nat := 98566146
abbrev kx_trialNet_order : Nat := 100663888
abbrev kx_trialNet_piece : Nat := 102761104
abbrev kx_rings : Nat := 104859152
abbrev kx_roads : Nat := 106954757
abbrev kx_roads_lengths : Nat := 109058320
abbrev kx_roads_near : Nat := 111149712
abbrev kx_roads_flow : Nat := 113247760
abbrev kx_roads_reachedBy : Nat := 115344016
abbrev kx_likes : Nat := 117440515
abbrev kx_likes_before : Nat := 119538320
abbrev kx_likes_behind : Nat := 121635472
abbrev kx_likes_matrix : Nat := 123738387
abbrev kx_likes_rows : Nat := 125829776
abbrev kx_teller : Nat := 127926280
abbrev kx_teller_text : Nat := 130068241
abbrev mx : Nat := 132120587
abbrev mx_words : Nat := 134217940
abbrev mx_now : Nat := 136340432
abbrev mx_reading : Nat := 138437584
abbrev mx_status : Nat := 140509392
abbrev mx_tape : Nat := 142651152
abbrev mx_piece : Nat := 144704144
abbrev mx_taken : Nat := 146802192
abbrev mx_way : Nat := 148898448
abbrev mx_by : Nat := 150995600
abbrev mx_open : Nat := 153092752
abbrev mx_pricesThen : Nat := 155190800
abbrev mx_near : Nat := 157287056
abbrev mx_gone : Nat := 159385104
abbrev mx_metSites : Nat := 161481362
abbrev mx_level : Nat := 163578512
abbrev mx_column : Nat := 165675664
abbrev mx_laplace : Nat := 167778579
abbrev mx_joint : Nat := 170524688
abbrev mx_past : Nat := 172987920
abbrev mx_notedCable : Nat := 174064144
abbrev mx_notedIn : Nat := 176161296
abbrev mx_rowThen : Nat := 178283472
abbrev mx_imageRow : Nat := 180380624
abbrev mx_pastThen : Nat := 183473680
abbrev mx_notedCableThen : Nat := 184549904
abbrev mx_notedInThen : Nat := 186647056
abbrev mx_statusThen : Nat := 188743888
abbrev ox_out : Nat := 190840915
abbrev kx_reader : Nat := 192937988
def ab_refs : List (Nat × Nat × Nat) := [(kx, 0, kx_tape), (kx, 3, kx_now), (kx, 4, kx_kept), (kx, 6, kx_forest), (kx, 7, kx_ways), (kx, 8, kx_trial), (kx, 9, kx_trialNet), (kx, 10, kx_rings), (kx, 11, kx_roads), (kx, 12, kx_likes), (kx, 13, kx_teller), (kx_now, 0, kx_now_cables), (kx_now, 1, kx_now_swaps), (kx_now, 2, kx_now_acts), (kx_now, 6, kx_now_refused), (kx_now_cables, 3, kx_now_cables_first), (kx_now_cables, 4, kx_now_cables_second), (kx_now_cables, 5, kx_now_cables_price), (kx_now_cables, 6, kx_now_cables_firm), (kx_now_cables, 7, kx_now_cables_order), (kx_now_swaps, 0, kx_now_swaps_rows), (kx_now_acts, 0, kx_now_acts_prices), (kx_now_acts, 1, kx_now_acts_counts), (kx_now_acts, 2, kx_now_acts_sounds), (kx_now_acts, 3, kx_now_acts_swaps), (kx_kept, 0, kx_kept_cables), (kx_kept, 1, kx_kept_swaps), (kx_kept, 2, kx_kept_acts), (kx_kept, 6, kx_kept_refused), (kx_kept_cables, 3, kx_kept_cables_first), (kx_kept_cables, 4, kx_kept_cables_second), (kx_kept_cables, 5, kx_kept_cables_price), (kx_kept_cables, 6, kx_kept_cables_firm), (kx_kept_cables, 7, kx_kept_cables_order), (kx_kept_swaps, 0, kx_kept_swaps_rows), (kx_kept_acts, 0, kx_kept_acts_prices), (kx_kept_acts, 1, kx_kept_acts_counts), (kx_kept_acts, 2, kx_kept_acts_sounds), (kx_kept_acts, 3, kx_kept_acts_swaps), (kx_forest, 0, kx_forest_order), (kx_forest, 5, kx_forest_piece), (kx_ways, 1, kx_ways_span), (kx_ways, 2, kx_ways_hops), (kx_ways, 3, kx_ways_step), (kx_ways, 4, kx_ways_dearest), (kx_trial, 3, kx_trial_first), (kx_trial, 4, kx_trial_second), (kx_trial, 5, kx_trial_price), (kx_trial, 6, kx_trial_firm), (kx_trial, 7, kx_trial_order), (kx_trialNet, 0, kx_trialNet_order), (kx_trialNet, 5, kx_trialNet_piece), (kx_roads, 1, kx_roads_lengths), (kx_roads, 2, kx_roads_near), (kx_roads, 3, kx_roads_flow), (kx_roads, 4, kx_roads_reachedBy), (kx_likes, 0, kx_likes_before), (kx_likes, 1, kx_likes_behind), (kx_likes, 2, kx_likes_matrix), (kx_likes, 3, kx_likes_rows), (kx_teller, 0, kx_teller_text), (mx, 0, mx_words), (mx, 4, mx_now), (mx, 5, mx_reading), (mx, 6, mx_status), (mx, 7, mx_tape), (mx, 19, mx_piece), (mx, 20, mx_taken), (mx, 23, mx_way), (mx, 24, mx_by), (mx, 25, mx_open), (mx, 27, mx_pricesThen), (mx, 28, mx_near), (mx, 29, mx_gone), (mx, 30, mx_metSites), (mx, 34, mx_level), (mx, 35, mx_column), (mx, 36, mx_laplace), (mx, 40, mx_joint), (mx, 42, mx_past), (mx, 44, mx_notedCable), (mx, 45, mx_notedIn), (mx, 51, mx_rowThen), (mx, 55, mx_imageRow), (mx, 56, mx_pastThen), (mx, 57, mx_notedCableThen), (mx, 58, mx_notedInThen), (mx, 59, mx_statusThen), (mx_words, 0, 32), (mx_words, 1, 96), (mx_words, 2, 160), (kx_reader, 0, kx_tape), (kx_reader, 2, kx_trial)]
def ab_RR (i k : Nat) : Value := match ab_refs.find? (fun q => q.1 == i && q.2.1 == k) with
  | some q => .ref q.2.2
  | none => .null
theorem r_kx_0 : ab_RR kx 0 = .ref kx_tape := by decide +kernel
theorem r_kx_3 : ab_RR kx 3 = .ref kx_now := by decide +kernel
theorem r_kx_4 : ab_RR kx 4 = .ref kx_kept := by decide +kernel
theorem r_kx_6 : ab_RR kx 6 = .ref kx_forest := by decide +kernel
theorem r_kx_7 : ab_RR kx 7 = .ref kx_ways := by decide +kernel
theorem r_kx_8 : ab_RR kx 8 = .ref kx_trial := by decide +kernel
theorem r_kx_9 : ab_RR kx 9 = .ref kx_trialNet := by decide +kernel
theorem r_kx_10 : ab_RR kx 10 = .ref kx_rings := by decide +kernel
theorem r_kx_11 : ab_RR kx 11 = .ref kx_roads := by decide +kernel
theorem r_kx_12 : ab_RR kx 12 = .ref kx_likes := by decide +kernel
theorem r_kx_13 : ab_RR kx 13 = .ref kx_teller := by decide +kernel
theorem r_kx_now_0 : ab_RR kx_now 0 = .ref kx_now_cables := by decide +kernel
theorem r_kx_now_1 : ab_RR kx_now 1 = .ref kx_now_swaps := by decide +kernel
theorem r_kx_now_2 : ab_RR kx_now 2 = .ref kx_now_acts := by decide +kernel
theorem r_kx_now_6 : ab_RR kx_now 6 = .ref kx_now_refused := by decide +kernel
theorem r_kx_now_cables_3 : ab_RR kx_now_cables 3 = .ref kx_now_cables_first := by decide +kernel
theorem r_kx_now_cables_4 : ab_RR kx_now_cables 4 = .ref kx_now_cables_second := by decide +kernel
theorem r_kx_now_cables_5 : ab_RR kx_now_cables 5 = .ref kx_now_cables_price := by decide +kernel
theorem r_kx_now_cables_6 : ab_RR kx_now_cables 6 = .ref kx_now_cables_firm := by decide +kernel
theorem r_kx_now_cables_7 : ab_RR kx_now_cables 7 = .ref kx_now_cables_order := by decide +kernel
theorem r_kx_now_swaps_0 : ab_RR kx_now_swaps 0 = .ref kx_now_swaps_rows := by decide +kernel
theorem r_kx_now_acts_0 : ab_RR kx_now_acts 0 = .ref kx_now_acts_prices := by decide +kernel
theorem r_kx_now_acts_1 : ab_RR kx_now_acts 1 = .ref kx_now_acts_counts := by decide +kernel
theorem r_kx_now_acts_2 : ab_RR kx_now_acts 2 = .ref kx_now_acts_sounds := by decide +kernel
theorem r_kx_now_acts_3 : ab_RR kx_now_acts 3 = .ref kx_now_acts_swaps := by decide +kernel
theorem r_kx_kept_0 : ab_RR kx_kept 0 = .ref kx_kept_cables := by decide +kernel
theorem r_kx_kept_1 : ab_RR kx_kept 1 = .ref kx_kept_swaps := by decide +kernel
theorem r_kx_kept_2 : ab_RR kx_kept 2 = .ref kx_kept_acts := by decide +kernel
theorem r_kx_kept_6 : ab_RR kx_kept 6 = .ref kx_kept_refused := by decide +kernel
theorem r_kx_kept_cables_3 : ab_RR kx_kept_cables 3 = .ref kx_kept_cables_first := by decide +kernel
theorem r_kx_kept_cables_4 : ab_RR kx_kept_cables 4 = .ref kx_kept_cables_second := by decide +kernel
theorem r_kx_kept_cables_5 : ab_RR kx_kept_cables 5 = .ref kx_kept_cables_price := by decide +kernel
theorem r_kx_kept_cables_6 : ab_RR kx_kept_cables 6 = .ref kx_kept_cables_firm := by decide +kernel
theorem r_kx_kept_cables_7 : ab_RR kx_kept_cables 7 = .ref kx_kept_cables_order := by decide +kernel
theorem r_kx_kept_swaps_0 : ab_RR kx_kept_swaps 0 = .ref kx_kept_swaps_rows := by decide +kernel
theorem r_kx_kept_acts_0 : ab_RR kx_kept_acts 0 = .ref kx_kept_acts_prices := by decide +kernel
theorem r_kx_kept_acts_1 : ab_RR kx_kept_acts 1 = .ref kx_kept_acts_counts := by decide +kernel
theorem r_kx_kept_acts_2 : ab_RR kx_kept_acts 2 = .ref kx_kept_acts_sounds := by decide +kernel
theorem r_kx_kept_acts_3 : ab_RR kx_kept_acts 3 = .ref kx_kept_acts_swaps := by decide +kernel
theorem r_kx_forest_0 : ab_RR kx_forest 0 = .ref kx_forest_order := by decide +kernel
theorem r_kx_forest_5 : ab_RR kx_forest 5 = .ref kx_forest_piece := by decide +kernel
theorem r_kx_ways_1 : ab_RR kx_ways 1 = .ref kx_ways_span := by decide +kernel
theorem r_kx_ways_2 : ab_RR kx_ways 2 = .ref kx_ways_hops := by decide +kernel
theorem r_kx_ways_3 : ab_RR kx_ways 3 = .ref kx_ways_step := by decide +kernel
theorem r_kx_ways_4 : ab_RR kx_ways 4 = .ref kx_ways_dearest := by decide +kernel
theorem r_kx_trial_3 : ab_RR kx_trial 3 = .ref kx_trial_first := by decide +kernel
theorem r_kx_trial_4 : ab_RR kx_trial 4 = .ref kx_trial_second := by decide +kernel
theorem r_kx_trial_5 : ab_RR kx_trial 5 = .ref kx_trial_price := by decide +kernel
theorem r_kx_trial_6 : ab_RR kx_trial 6 = .ref kx_trial_firm := by decide +kernel
theorem r_kx_trial_7 : ab_RR kx_trial 7 = .ref kx_trial_order := by decide +kernel
theorem r_kx_trialNet_0 : ab_RR kx_trialNet 0 = .ref kx_trialNet_order := by decide +kernel
theorem r_kx_trialNet_5 : ab_RR kx_trialNet 5 = .ref kx_trialNet_piece := by decide +kernel
theorem r_kx_roads_1 : ab_RR kx_roads 1 = .ref kx_roads_lengths := by decide +kernel
theorem r_kx_roads_2 : ab_RR kx_roads 2 = .ref kx_roads_near := by decide +kernel
theorem r_kx_roads_3 : ab_RR kx_roads 3 = .ref kx_roads_flow := by decide +kernel
theorem r_kx_roads_4 : ab_RR kx_roads 4 = .ref kx_roads_reachedBy := by decide +kernel
theorem r_kx_likes_0 : ab_RR kx_likes 0 = .ref kx_likes_before := by decide +kernel
theorem r_kx_likes_1 : ab_RR kx_likes 1 = .ref kx_likes_behind := by decide +kernel
theorem r_kx_likes_2 : ab_RR kx_likes 2 = .ref kx_likes_matrix := by decide +kernel
theorem r_kx_likes_3 : ab_RR kx_likes 3 = .ref kx_likes_rows := by decide +kernel
theorem r_kx_teller_0 : ab_RR kx_teller 0 = .ref kx_teller_text := by decide +kernel
theorem r_mx_0 : ab_RR mx 0 = .ref mx_words := by decide +kernel
theorem r_mx_4 : ab_RR mx 4 = .ref mx_now := by decide +kernel
theorem r_mx_5 : ab_RR mx 5 = .ref mx_reading := by decide +kernel
theorem r_mx_6 : ab_RR mx 6 = .ref mx_status := by decide +kernel
theorem r_mx_7 : ab_RR mx 7 = .ref mx_tape := by decide +kernel
theorem r_mx_19 : ab_RR mx 19 = .ref mx_piece := by decide +kernel
theorem r_mx_20 : ab_RR mx 20 = .ref mx_taken := by decide +kernel
theorem r_mx_23 : ab_RR mx 23 = .ref mx_way := by decide +kernel
theorem r_mx_24 : ab_RR mx 24 = .ref mx_by := by decide +kernel
theorem r_mx_25 : ab_RR mx 25 = .ref mx_open := by decide +kernel
theorem r_mx_27 : ab_RR mx 27 = .ref mx_pricesThen := by decide +kernel
theorem r_mx_28 : ab_RR mx 28 = .ref mx_near := by decide +kernel
theorem r_mx_29 : ab_RR mx 29 = .ref mx_gone := by decide +kernel
theorem r_mx_30 : ab_RR mx 30 = .ref mx_metSites := by decide +kernel
theorem r_mx_34 : ab_RR mx 34 = .ref mx_level := by decide +kernel
theorem r_mx_35 : ab_RR mx 35 = .ref mx_column := by decide +kernel
theorem r_mx_36 : ab_RR mx 36 = .ref mx_laplace := by decide +kernel
theorem r_mx_40 : ab_RR mx 40 = .ref mx_joint := by decide +kernel
theorem r_mx_42 : ab_RR mx 42 = .ref mx_past := by decide +kernel
theorem r_mx_44 : ab_RR mx 44 = .ref mx_notedCable := by decide +kernel
theorem r_mx_45 : ab_RR mx 45 = .ref mx_notedIn := by decide +kernel
theorem r_mx_51 : ab_RR mx 51 = .ref mx_rowThen := by decide +kernel
theorem r_mx_55 : ab_RR mx 55 = .ref mx_imageRow := by decide +kernel
theorem r_mx_56 : ab_RR mx 56 = .ref mx_pastThen := by decide +kernel
theorem r_mx_57 : ab_RR mx 57 = .ref mx_notedCableThen := by decide +kernel
theorem r_mx_58 : ab_RR mx 58 = .ref mx_notedInThen := by decide +kernel
theorem r_mx_59 : ab_RR mx 59 = .ref mx_statusThen := by decide +kernel
theorem r_mx_words_0 : ab_RR mx_words 0 = .ref 32 := by decide +kernel
theorem r_mx_words_1 : ab_RR mx_words 1 = .ref 96 := by decide +kernel
theorem r_mx_words_2 : ab_RR mx_words 2 = .ref 160 := by decide +kernel
theorem r_kx_reader_0 : ab_RR kx_reader 0 = .ref kx_tape := by decide +kernel
theorem r_kx_reader_2 : ab_RR kx_reader 2 = .ref kx_trial := by decide +kernel
def ab_ushr (x y : Int32) : Int32 := (x.toUInt32 >>> (y.toUInt32 &&& Int32.toUInt32 31)).toInt32
def ab_min32 (x y : Int32) : Int32 := if y < x then y else x
def ab_max32 (x y : Int32) : Int32 := if x < y then y else x
def ab_i2b8 (x : Int32) : Int32 := x.toInt8.toInt32
theorem ab_tab_out {x : Int32} {lo hi : Int} {k : Nat} (h9 : lo ≤ x.toInt) (h8 : x.toInt ≤ hi) (hk : hi - lo < k) (h : ∀ j : Nat, j < k → ¬ x = Int32.ofInt (lo + j)) : False := by
  refine h (x.toInt - lo).toNat (by omega) ?_
  have e : lo + (((x.toInt - lo).toNat : Nat) : Int) = x.toInt := by omega
  rw [e]
  exact (Int32.ofInt_toInt x).symm
