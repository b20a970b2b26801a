def cTb : Topo := newT cT252 12 0
def cIb : IM := newI cI249 79
def cI253 : IM := up2 cIb 79 8 (-1)
def cT254 : Topo := newT cTb 13 6
def cI255 : IM := newI cI253 80
def cT256 : Topo := setR cT254 79 9 80
def cT257 : Topo := newT cT256 13 9
def cI258 : IM := newI cI255 81
def cT259 : Topo := setR cT257 79 10 81
def cT260 : Topo := newT cT259 13 9
def cI261 : IM := newI cI258 82
def cT262 : Topo := setR cT260 79 11 82
def cT263 : Topo := newT cT262 13 9
def cI264 : IM := newI cI261 83
def cT265 : Topo := setR cT263 79 12 83
def cT266 : Topo := newT cT265 13 9
def cI267 : IM := newI cI264 84
def cT268 : Topo := setR cT266 79 13 84
def cT269 : Topo := newT cT268 13 9
def cI270 : IM := newI cI267 85
def cT271 : Topo := setR cT269 79 14 85
def cT272 : Topo := newT cT271 13 9
def cI273 : IM := newI cI270 86
def cT274 : Topo := setR cT272 79 15 86
def cT275 : Topo := newT cT274 13 9
def cI276 : IM := newI cI273 87
def cT277 : Topo := setR cT275 79 16 87
def cT278 : Topo := newT cT277 13 9
def cI279 : IM := newI cI276 88
def cT280 : Topo := setR cT278 79 17 88
def cT281 : Topo := newT cT280 14 9
def cI282 : IM := newI cI279 89
def cT283 : Topo := setR cT281 79 18 89
def cT284 : Topo := newT cT283 13 8
def cI285 : IM := newI cI282 90
def cT286 : Topo := setR cT284 79 19 90
def cT287 : Topo := newT cT286 13 8
def cI288 : IM := newI cI285 91
def cT289 : Topo := setR cT287 79 20 91
def cT290 : Topo := newT cT289 13 8
def cI291 : IM := newI cI288 92
def cT292 : Topo := setR cT290 79 21 92
def cT293 : Topo := newT cT292 13 8
def cI294 : IM := newI cI291 93
def cT295 : Topo := setR cT293 79 22 93
def cT296 : Topo := newT cT295 13 8
def cI297 : IM := newI cI294 94
def cT298 : Topo := setR cT296 79 23 94
def cT299 : Topo := newT cT298 13 8
def cI300 : IM := newI cI297 95
def cT301 : Topo := setR cT299 79 24 95
def cT302 : Topo := newT cT301 13 8
def cI303 : IM := newI cI300 96
def cT304 : Topo := setR cT302 79 25 96
def cT305 : Topo := newT cT304 13 8
def cI306 : IM := newI cI303 97
def cT307 : Topo := setR cT305 79 26 97
def cT308 : Topo := newT cT307 13 8
def cI309 : IM := newI cI306 98
def cT310 : Topo := setR cT308 79 27 98
def cT311 : Topo := newT cT310 13 8
def cI312 : IM := newI cI309 99
def cT313 : Topo := setR cT311 79 28 99
def cT314 : Topo := newT cT313 13 8
def cI315 : IM := newI cI312 100
def cT316 : Topo := setR cT314 79 29 100
def cT317 : Topo := newT cT316 13 8
def cI318 : IM := newI cI315 101
def cT319 : Topo := setR cT317 79 30 101
def cT320 : Topo := newT cT319 13 8
def cI321 : IM := newI cI318 102
def cT322 : Topo := setR cT320 79 31 102
def cT323 : Topo := newT cT322 13 8
def cI324 : IM := newI cI321 103
def cT325 : Topo := setR cT323 79 32 103
def cT326 : Topo := newT cT325 13 8
def cI327 : IM := newI cI324 104
def cT328 : Topo := setR cT326 79 33 104
def cT329 : Topo := newT cT328 13 8
def cI330 : IM := newI cI327 105
def cT331 : Topo := setR cT329 79 34 105
def cT332 : Topo := newT cT331 14 8
def cI333 : IM := newI cI330 106
def cT334 : Topo := setR cT332 79 35 106
def cT335 : Topo := newT cT334 13 8
def cI336 : IM := newI cI333 107
def cT337 : Topo := setR cT335 79 36 107
def cT338 : Topo := newT cT337 13 8
def cI339 : IM := newI cI336 108
def cT340 : Topo := setR cT338 79 37 108
def cT341 : Topo := newT cT340 13 8
def cI342 : IM := newI cI339 109
def cT343 : Topo := setR cT341 79 38 109
def cT344 : Topo := newT cT343 13 8
def cI345 : IM := newI cI342 110
def cT346 : Topo := setR cT344 79 39 110
def cT347 : Topo := newT cT346 13 8
def cI348 : IM := newI cI345 111
def cT349 : Topo := setR cT347 79 40 111
def cT350 : Topo := newT cT349 13 4
def cI351 : IM := newI cI348 112
def cT352 : Topo := setR cT350 79 41 112
def cT353 : Topo := newT cT352 13 4
def cI354 : IM := newI cI351 113
def cT355 : Topo := setR cT353 79 42 113
def cT356 : Topo := newT cT355 13 32
def cI357 : IM := newI cI354 114
def cT358 : Topo := setR cT356 79 43 114
def cT359 : Topo := newT cT358 13 9
def cI360 : IM := newI cI357 115
def cT361 : Topo := setR cT359 79 44 115
def cT362 : Topo := newT cT361 13 2304
def cI363 : IM := newI cI360 116
def cT364 : Topo := setR cT362 79 45 116
def cT365 : Topo := newT cT364 13 2304
def cI366 : IM := newI cI363 117
def cT367 : Topo := setR cT365 79 46 117
def cT368 : Topo := newT cT367 13 2304
def cI369 : IM := newI cI366 118
def cT370 : Topo := setR cT368 79 47 118
def cT371 : Topo := newT cT370 13 2304
def cI372 : IM := newI cI369 119
def cT373 : Topo := setR cT371 79 48 119
def cT374 : Topo := newT cT373 13 2304
def cI375 : IM := newI cI372 120
def cT376 : Topo := setR cT374 79 49 120
def cT377 : Topo := newT cT376 13 6
def cI378 : IM := newI cI375 121
def cT379 : Topo := setR cT377 79 50 121
def cT380 : Topo := newT cT379 13 6
def cI381 : IM := newI cI378 122
def cT382 : Topo := setR cT380 79 51 122
def cT383 : Topo := newT cT382 13 6
def cI384 : IM := newI cI381 123
def cT385 : Topo := setR cT383 79 52 123
def cT386 : Topo := newT cT385 13 8
def cI387 : IM := newI cI384 124
def cT388 : Topo := setR cT386 79 55 124
def cT389 : Topo := newT cT388 13 8
def cI390 : IM := newI cI387 125
def cT391 : Topo := setR cT389 79 56 125
def cT392 : Topo := newT cT391 13 8
def cI393 : IM := newI cI390 126
def cT394 : Topo := setR cT392 79 57 126
def cT395 : Topo := newT cT394 13 8
def cI396 : IM := newI cI393 127
def cT397 : Topo := setR cT395 79 58 127
def cT398 : Topo := newT cT397 14 8
def cI399 : IM := newI cI396 128
def cT400 : Topo := setR cT398 79 59 128
def cT401 : Topo := newT cT400 13 8
def cI402 : IM := newI cI399 129
def cT403 : Topo := setR cT401 79 60 129
def cT404 : Topo := newT cT403 13 8
def cI405 : IM := newI cI402 130
def cT406 : Topo := setR cT404 79 61 130
def cT407 : Topo := newT cT406 13 8
def cI408 : IM := newI cI405 131
def cT409 : Topo := setR cT407 79 62 131
def cT410 : Topo := newT cT409 13 8
def cI411 : IM := newI cI408 132
def cT412 : Topo := setR cT410 79 63 132
def cT413 : Topo := newT cT412 13 8
def cI414 : IM := newI cI411 133
def cT415 : Topo := setR cT413 79 64 133
def cT416 : Topo := newT cT415 14 256
def cI417 : IM := newI cI414 134
def cT418 : Topo := setR cT416 79 65 134
def cT419 : Topo := newT cT418 13 8
def cI420 : IM := newI cI417 135
def cT421 : Topo := setR cT419 79 66 135
set_option maxHeartbeats 4000000 in
set_option maxRecDepth 100000 in
theorem ctor39 (d : Nat) : Ct (d + 1) mX12_init [.ref 79] cTb cIb 56 12194 (PV fun T_ I_ => T_ = cT421 ∧ I_ = cI420) := by
  refine Ct.ofJ (by decide +kernel) rfl (by intro v hv; revert v hv; simp [Value.category]) rfl ?_
  show J (d + 1) mX12_init (PV _) 56 12194 0 [some (.ref 79)] [] cTb cIb 0 0
  refine J.aload_n dX12_init_0 rfl rfl ?_
  refine J.objInit dX12_init_1 oiX12_1 oi_inst oi_code rfl (by omega) ?_
  refine J.aload_n dX12_init_4 rfl rfl ?_
  refine J.iconst (v := (-1)) dX12_init_5 (by decide) ?_
  refine J.putI dX12_init_6 fX12_7 (show tK cTb 79 = 12 from rfl) rfl ?_
  show J (d + 1) mX12_init (PV _) 56 12194 9 [some (.ref 79)] [] cTb cI253 0 0
  refine J.aload_n dX12_init_9 rfl rfl ?_
  refine J.bipush (v := 6) dX12_init_10 (by decide) ?_
  refine J.newarr (κ := 13) (N := 6) dX12_init_12 arc_int rfl (by decide) (by decide) (by decide) (by decide) (by decide) (by decide) ?_
  show J (d + 1) mX12_init (PV _) 56 12194 14 [some (.ref 79)] [.ref 80, .ref 79] cT254 cI255 1 6
  refine J.putR dX12_init_14 fX12_13 (show tK cT254 79 = 12 from rfl) rfl (Or.inr ⟨_, rfl⟩) (fun _ => rfl) (fun _ q h => by cases h; rfl) ?_
  show J (d + 1) mX12_init (PV _) 56 12194 17 [some (.ref 79)] [] cT256 cI255 1 6
  refine J.aload_n dX12_init_17 rfl rfl ?_
  refine J.bipush (v := 9) dX12_init_18 (by decide) ?_
  refine J.newarr (κ := 13) (N := 9) dX12_init_20 arc_int rfl (by decide) (by decide) (by decide) (by decide) (by decide) (by decide) ?_
  show J (d + 1) mX12_init (PV _) 56 12194 22 [some (.ref 79)] [.ref 81, .ref 79] cT257 cI258 2 15
  refine J.putR dX12_init_22 fX12_17 (show tK cT257 79 = 12 from rfl) rfl (Or.inr ⟨_, rfl⟩) (fun _ => rfl) (fun _ q h => by cases h; rfl) ?_
  show J (d + 1) mX12_init (PV _) 56 12194 25 [some (.ref 79)] [] cT259 cI258 2 15
  refine J.aload_n dX12_init_25 rfl rfl ?_
  refine J.bipush (v := 9) dX12_init_26 (by decide) ?_
  refine J.newarr (κ := 13) (N := 9) dX12_init_28 arc_int rfl (by decide) (by decide) (by decide) (by decide) (by decide) (by decide) ?_
  show J (d + 1) mX12_init (PV _) 56 12194 30 [some (.ref 79)] [.ref 82, .ref 79] cT260 cI261 3 24
  refine J.putR dX12_init_30 fX12_20 (show tK cT260 79 = 12 from rfl) rfl (Or.inr ⟨_, rfl⟩) (fun _ => rfl) (fun _ q h => by cases h; rfl) ?_
  show J (d + 1) mX12_init (PV _) 56 12194 33 [some (.ref 79)] [] cT262 cI261 3 24
  refine J.aload_n dX12_init_33 rfl rfl ?_
  refine J.bipush (v := 9) dX12_init_34 (by decide) ?_
  refine J.newarr (κ := 13) (N := 9) dX12_init_36 arc_int rfl (by decide) (by decide) (by decide) (by decide) (by decide) (by decide) ?_
  show J (d + 1) mX12_init (PV _) 56 12194 38 [some (.ref 79)] [.ref 83, .ref 79] cT263 cI264 4 33
  refine J.putR dX12_init_38 fX12_23 (show tK cT263 79 = 12 from rfl) rfl (Or.inr ⟨_, rfl⟩) (fun _ => rfl) (fun _ q h => by cases h; rfl) ?_
  show J (d + 1) mX12_init (PV _) 56 12194 41 [some (.ref 79)] [] cT265 cI264 4 33
  refine J.aload_n dX12_init_41 rfl rfl ?_
  refine J.bipush (v := 9) dX12_init_42 (by decide) ?_
  refine J.newarr (κ := 13) (N := 9) dX12_init_44 arc_int rfl (by decide) (by decide) (by decide) (by decide) (by decide) (by decide) ?_
  show J (d + 1) mX12_init (PV _) 56 12194 46 [some (.ref 79)] [.ref 84, .ref 79] cT266 cI267 5 42
  refine J.putR dX12_init_46 fX12_26 (show tK cT266 79 = 12 from rfl) rfl (Or.inr ⟨_, rfl⟩) (fun _ => rfl) (fun _ q h => by cases h; rfl) ?_
  show J (d + 1) mX12_init (PV _) 56 12194 49 [some (.ref 79)] [] cT268 cI267 5 42
  refine J.aload_n dX12_init_49 rfl rfl ?_
  refine J.bipush (v := 9) dX12_init_50 (by decide) ?_
  refine J.newarr (κ := 13) (N := 9) dX12_init_52 arc_int rfl (by decide) (by decide) (by decide) (by decide) (by decide) (by decide) ?_
  show J (d + 1) mX12_init (PV _) 56 12194 54 [some (.ref 79)] [.ref 85, .ref 79] cT269 cI270 6 51
  refine J.putR dX12_init_54 fX12_29 (show tK cT269 79 = 12 from rfl) rfl (Or.inr ⟨_, rfl⟩) (fun _ => rfl) (fun _ q h => by cases h; rfl) ?_
  show J (d + 1) mX12_init (PV _) 56 12194 57 [some (.ref 79)] [] cT271 cI270 6 51
  refine J.aload_n dX12_init_57 rfl rfl ?_
  refine J.bipush (v := 9) dX12_init_58 (by decide) ?_
  refine J.newarr (κ := 13) (N := 9) dX12_init_60 arc_int rfl (by decide) (by decide) (by decide) (by decide) (by decide) (by decide) ?_
  show J (d + 1) mX12_init (PV _) 56 12194 62 [some (.ref 79)] [.ref 86, .ref 79] cT272 cI273 7 60
  refine J.putR dX12_init_62 fX12_32 (show tK cT272 79 = 12 from rfl) rfl (Or.inr ⟨_, rfl⟩) (fun _ => rfl) (fun _ q h => by cases h; rfl) ?_
  show J (d + 1) mX12_init (PV _) 56 12194 65 [some (.ref 79)] [] cT274 cI273 7 60
  refine J.aload_n dX12_init_65 rfl rfl ?_
  refine J.bipush (v := 9) dX12_init_66 (by decide) ?_
  refine J.newarr (κ := 13) (N := 9) dX12_init_68 arc_int rfl (by decide) (by decide) (by decide) (by decide) (by decide) (by decide) ?_
  show J (d + 1) mX12_init (PV _) 56 12194 70 [some (.ref 79)] [.ref 87, .ref 79] cT275 cI276 8 69
  refine J.putR dX12_init_70 fX12_35 (show tK cT275 79 = 12 from rfl) rfl (Or.inr ⟨_, rfl⟩) (fun _ => rfl) (fun _ q h => by cases h; rfl) ?_
  show J (d + 1) mX12_init (PV _) 56 12194 73 [some (.ref 79)] [] cT277 cI276 8 69
  refine J.aload_n dX12_init_73 rfl rfl ?_
  refine J.bipush (v := 9) dX12_init_74 (by decide) ?_
  refine J.newarr (κ := 13) (N := 9) dX12_init_76 arc_int rfl (by decide) (by decide) (by decide) (by decide) (by decide) (by decide) ?_
  show J (d + 1) mX12_init (PV _) 56 12194 78 [some (.ref 79)] [.ref 88, .ref 79] cT278 cI279 9 78
  refine J.putR dX12_init_78 fX12_38 (show tK cT278 79 = 12 from rfl) rfl (Or.inr ⟨_, rfl⟩) (fun _ => rfl) (fun _ q h => by cases h; rfl) ?_
  show J (d + 1) mX12_init (PV _) 56 12194 81 [some (.ref 79)] [] cT280 cI279 9 78
  refine J.aload_n dX12_init_81 rfl rfl ?_
  refine J.bipush (v := 9) dX12_init_82 (by decide) ?_
  refine J.newarr (κ := 14) (N := 9) dX12_init_84 arc_boolean rfl (by decide) (by decide) (by decide) (by decide) (by decide) (by decide) ?_
  show J (d + 1) mX12_init (PV _) 56 12194 86 [some (.ref 79)] [.ref 89, .ref 79] cT281 cI282 10 87
  refine J.putR dX12_init_86 fX12_41 (show tK cT281 79 = 12 from rfl) rfl (Or.inr ⟨_, rfl⟩) (fun _ => rfl) (fun _ q h => by cases h; rfl) ?_
  show J (d + 1) mX12_init (PV _) 56 12194 89 [some (.ref 79)] [] cT283 cI282 10 87
  refine J.aload_n dX12_init_89 rfl rfl ?_
  refine J.bipush (v := 8) dX12_init_90 (by decide) ?_
  refine J.newarr (κ := 13) (N := 8) dX12_init_92 arc_int rfl (by decide) (by decide) (by decide) (by decide) (by decide) (by decide) ?_
  show J (d + 1) mX12_init (PV _) 56 12194 94 [some (.ref 79)] [.ref 90, .ref 79] cT284 cI285 11 95
  refine J.putR dX12_init_94 fX12_45 (show tK cT284 79 = 12 from rfl) rfl (Or.inr ⟨_, rfl⟩) (fun _ => rfl) (fun _ q h => by cases h; rfl) ?_
  show J (d + 1) mX12_init (PV _) 56 12194 97 [some (.ref 79)] [] cT286 cI285 11 95
  refine J.aload_n dX12_init_97 rfl rfl ?_
  refine J.bipush (v := 8) dX12_init_98 (by decide) ?_
  refine J.newarr (κ := 13) (N := 8) dX12_init_100 arc_int rfl (by decide) (by decide) (by decide) (by decide) (by decide) (by decide) ?_
  show J (d + 1) mX12_init (PV _) 56 12194 102 [some (.ref 79)] [.ref 91, .ref 79] cT287 cI288 12 103
  refine J.putR dX12_init_102 fX12_48 (show tK cT287 79 = 12 from rfl) rfl (Or.inr ⟨_, rfl⟩) (fun _ => rfl) (fun _ q h => by cases h; rfl) ?_
  show J (d + 1) mX12_init (PV _) 56 12194 105 [some (.ref 79)] [] cT289 cI288 12 103
  refine J.aload_n dX12_init_105 rfl rfl ?_
  refine J.bipush (v := 8) dX12_init_106 (by decide) ?_
  refine J.newarr (κ := 13) (N := 8) dX12_init_108 arc_int rfl (by decide) (by decide) (by decide) (by decide) (by decide) (by decide) ?_
  show J (d + 1) mX12_init (PV _) 56 12194 110 [some (.ref 79)] [.ref 92, .ref 79] cT290 cI291 13 111
  refine J.putR dX12_init_110 fX12_51 (show tK cT290 79 = 12 from rfl) rfl (Or.inr ⟨_, rfl⟩) (fun _ => rfl) (fun _ q h => by cases h; rfl) ?_
  show J (d + 1) mX12_init (PV _) 56 12194 113 [some (.ref 79)] [] cT292 cI291 13 111
  refine J.aload_n dX12_init_113 rfl rfl ?_
  refine J.bipush (v := 8) dX12_init_114 (by decide) ?_
  refine J.newarr (κ := 13) (N := 8) dX12_init_116 arc_int rfl (by decide) (by decide) (by decide) (by decide) (by decide) (by decide) ?_
  show J (d + 1) mX12_init (PV _) 56 12194 118 [some (.ref 79)] [.ref 93, .ref 79] cT293 cI294 14 119
  refine J.putR dX12_init_118 fX12_54 (show tK cT293 79 = 12 from rfl) rfl (Or.inr ⟨_, rfl⟩) (fun _ => rfl) (fun _ q h => by cases h; rfl) ?_
  show J (d + 1) mX12_init (PV _) 56 12194 121 [some (.ref 79)] [] cT295 cI294 14 119
  refine J.aload_n dX12_init_121 rfl rfl ?_
  refine J.bipush (v := 8) dX12_init_122 (by decide) ?_
  refine J.newarr (κ := 13) (N := 8) dX12_init_124 arc_int rfl (by decide) (by decide) (by decide) (by decide) (by decide) (by decide) ?_
  show J (d + 1) mX12_init (PV _) 56 12194 126 [some (.ref 79)] [.ref 94, .ref 79] cT296 cI297 15 127
  refine J.putR dX12_init_126 fX12_57 (show tK cT296 79 = 12 from rfl) rfl (Or.inr ⟨_, rfl⟩) (fun _ => rfl) (fun _ q h => by cases h; rfl) ?_
  show J (d + 1) mX12_init (PV _) 56 12194 129 [some (.ref 79)] [] cT298 cI297 15 127
  refine J.aload_n dX12_init_129 rfl rfl ?_
  refine J.bipush (v := 8) dX12_init_130 (by decide) ?_
  refine J.newarr (κ := 13) (N := 8) dX12_init_132 arc_int rfl (by decide) (by decide) (by decide) (by decide) (by decide) (by decide) ?_
  show J (d + 1) mX12_init (PV _) 56 12194 134 [some (.ref 79)] [.ref 95, .ref 79] cT299 cI300 16 135
  refine J.putR dX12_init_134 fX12_60 (show tK cT299 79 = 12 from rfl) rfl (Or.inr ⟨_, rfl⟩) (fun _ => rfl) (fun _ q h => by cases h; rfl) ?_
  show J (d + 1) mX12_init (PV _) 56 12194 137 [some (.ref 79)] [] cT301 cI300 16 135
  refine J.aload_n dX12_init_137 rfl rfl ?_
  refine J.bipush (v := 8) dX12_init_138 (by decide) ?_
  refine J.newarr (κ := 13) (N := 8) dX12_init_140 arc_int rfl (by decide) (by decide) (by decide) (by decide) (by decide) (by decide) ?_
  show J (d + 1) mX12_init (PV _) 56 12194 142 [some (.ref 79)] [.ref 96, .ref 79] cT302 cI303 17 143
  refine J.putR dX12_init_142 fX12_63 (show tK cT302 79 = 12 from rfl) rfl (Or.inr ⟨_, rfl⟩) (fun _ => rfl) (fun _ q h => by cases h; rfl) ?_
  show J (d + 1) mX12_init (PV _) 56 12194 145 [some (.ref 79)] [] cT304 cI303 17 143
  refine J.aload_n dX12_init_145 rfl rfl ?_
  refine J.bipush (v := 8) dX12_init_146 (by decide) ?_
  refine J.newarr (κ := 13) (N := 8) dX12_init_148 arc_int rfl (by decide) (by decide) (by decide) (by decide) (by decide) (by decide) ?_
  show J (d + 1) mX12_init (PV _) 56 12194 150 [some (.ref 79)] [.ref 97, .ref 79] cT305 cI306 18 151
  refine J.putR dX12_init_150 fX12_66 (show tK cT305 79 = 12 from rfl) rfl (Or.inr ⟨_, rfl⟩) (fun _ => rfl) (fun _ q h => by cases h; rfl) ?_
  show J (d + 1) mX12_init (PV _) 56 12194 153 [some (.ref 79)] [] cT307 cI306 18 151
  refine J.aload_n dX12_init_153 rfl rfl ?_
  refine J.bipush (v := 8) dX12_init_154 (by decide) ?_
  refine J.newarr (κ := 13) (N := 8) dX12_init_156 arc_int rfl (by decide) (by decide) (by decide) (by decide) (by decide) (by decide) ?_
  show J (d + 1) mX12_init (PV _) 56 12194 158 [some (.ref 79)] [.ref 98, .ref 79] cT308 cI309 19 159
  refine J.putR dX12_init_158 fX12_69 (show tK cT308 79 = 12 from rfl) rfl (Or.inr ⟨_, rfl⟩) (fun _ => rfl) (fun _ q h => by cases h; rfl) ?_
  show J (d + 1) mX12_init (PV _) 56 12194 161 [some (.ref 79)] [] cT310 cI309 19 159
  refine J.aload_n dX12_init_161 rfl rfl ?_
  refine J.bipush (v := 8) dX12_init_162 (by decide) ?_
  refine J.newarr (κ := 13) (N := 8) dX12_init_164 arc_int rfl (by decide) (by decide) (by decide) (by decide) (by decide) (by decide) ?_
  show J (d + 1) mX12_init (PV _) 56 12194 166 [some (.ref 79)] [.ref 99, .ref 79] cT311 cI312 20 167
  refine J.putR dX12_init_166 fX12_72 (show tK cT311 79 = 12 from rfl) rfl (Or.inr ⟨_, rfl⟩) (fun _ => rfl) (fun _ q h => by cases h; rfl) ?_
  show J (d + 1) mX12_init (PV _) 56 12194 169 [some (.ref 79)] [] cT313 cI312 20 167
  refine J.aload_n dX12_init_169 rfl rfl ?_
  refine J.bipush (v := 8) dX12_init_170 (by decide) ?_
  refine J.newarr (κ := 13) (N := 8) dX12_init_172 arc_int rfl (by decide) (by decide) (by decide) (by decide) (by decide) (by decide) ?_
  show J (d + 1) mX12_init (PV _) 56 12194 174 [some (.ref 79)] [.ref 100, .ref 79] cT314 cI315 21 175
  refine J.putR dX12_init_174 fX12_75 (show tK cT314 79 = 12 from rfl) rfl (Or.inr ⟨_, rfl⟩) (fun _ => rfl) (fun _ q h => by cases h; rfl) ?_
  show J (d + 1) mX12_init (PV _) 56 12194 177 [some (.ref 79)] [] cT316 cI315 21 175
  refine J.aload_n dX12_init_177 rfl rfl ?_
  refine J.bipush (v := 8) dX12_init_178 (by decide) ?_
  refine J.newarr (κ := 13) (N := 8) dX12_init_180 arc_int rfl (by decide) (by decide) (by decide) (by decide) (by decide) (by decide) ?_
  show J (d + 1) mX12_init (PV _) 56 12194 182 [some (.ref 79)] [.ref 101, .ref 79] cT317 cI318 22 183
  refine J.putR dX12_init_182 fX12_78 (show tK cT317 79 = 12 from rfl) rfl (Or.inr ⟨_, rfl⟩) (fun _ => rfl) (fun _ q h => by cases h; rfl) ?_
  show J (d + 1) mX12_init (PV _) 56 12194 185 [some (.ref 79)] [] cT319 cI318 22 183
  refine J.aload_n dX12_init_185 rfl rfl ?_
  refine J.bipush (v := 8) dX12_init_186 (by decide) ?_
  refine J.newarr (κ := 13) (N := 8) dX12_init_188 arc_int rfl (by decide) (by decide) (by decide) (by decide) (by decide) (by decide) ?_
  show J (d + 1) mX12_init (PV _) 56 12194 190 [some (.ref 79)] [.ref 102, .ref 79] cT320 cI321 23 191
  refine J.putR dX12_init_190 fX12_81 (show tK cT320 79 = 12 from rfl) rfl (Or.inr ⟨_, rfl⟩) (fun _ => rfl) (fun _ q h => by cases h; rfl) ?_
  show J (d + 1) mX12_init (PV _) 56 12194 193 [some (.ref 79)] [] cT322 cI321 23 191
  refine J.aload_n dX12_init_193 rfl rfl ?_
  refine J.bipush (v := 8) dX12_init_194 (by decide) ?_
  refine J.newarr (κ := 13) (N := 8) dX12_init_196 arc_int rfl (by decide) (by decide) (by decide) (by decide) (by decide) (by decide) ?_
  show J (d + 1) mX12_init (PV _) 56 12194 198 [some (.ref 79)] [.ref 103, .ref 79] cT323 cI324 24 199
  refine J.putR dX12_init_198 fX12_84 (show tK cT323 79 = 12 from rfl) rfl (Or.inr ⟨_, rfl⟩) (fun _ => rfl) (fun _ q h => by cases h; rfl) ?_
  show J (d + 1) mX12_init (PV _) 56 12194 201 [some (.ref 79)] [] cT325 cI324 24 199
  refine J.aload_n dX12_init_201 rfl rfl ?_
  refine J.bipush (v := 8) dX12_init_202 (by decide) ?_
  refine J.newarr (κ := 13) (N := 8) dX12_init_204 arc_int rfl (by decide) (by decide) (by decide) (by decide) (by decide) (by decide) ?_
  show J (d + 1) mX12_init (PV _) 56 12194 206 [some (.ref 79)] [.ref 104, .ref 79] cT326 cI327 25 207
  refine J.putR dX12_init_206 fX12_87 (show tK cT326 79 = 12 from rfl) rfl (Or.inr ⟨_, rfl⟩) (fun _ => rfl) (fun _ q h => by cases h; rfl) ?_
  show J (d + 1) mX12_init (PV _) 56 12194 209 [some (.ref 79)] [] cT328 cI327 25 207
  refine J.aload_n dX12_init_209 rfl rfl ?_
  refine J.bipush (v := 8) dX12_init_210 (by decide) ?_
  refine J.newarr (κ := 13) (N := 8) dX12_init_212 arc_int rfl (by decide) (by decide) (by decide) (by decide) (by decide) (by decide) ?_
  show J (d + 1) mX12_init (PV _) 56 12194 214 [some (.ref 79)] [.ref 105, .ref 79] cT329 cI330 26 215
  refine J.putR dX12_init_214 fX12_90 (show tK cT329 79 = 12 from rfl) rfl (Or.inr ⟨_, rfl⟩) (fun _ => rfl) (fun _ q h => by cases h; rfl) ?_
  show J (d + 1) mX12_init (PV _) 56 12194 217 [some (.ref 79)] [] cT331 cI330 26 215
  refine J.aload_n dX12_init_217 rfl rfl ?_
  refine J.bipush (v := 8) dX12_init_218 (by decide) ?_
  refine J.newarr (κ := 14) (N := 8) dX12_init_220 arc_boolean rfl (by decide) (by decide) (by decide) (by decide) (by decide) (by decide) ?_
  show J (d + 1) mX12_init (PV _) 56 12194 222 [some (.ref 79)] [.ref 106, .ref 79] cT332 cI333 27 223
  refine J.putR dX12_init_222 fX12_93 (show tK cT332 79 = 12 from rfl) rfl (Or.inr ⟨_, rfl⟩) (fun _ => rfl) (fun _ q h => by cases h; rfl) ?_
  show J (d + 1) mX12_init (PV _) 56 12194 225 [some (.ref 79)] [] cT334 cI333 27 223
  refine J.aload_n dX12_init_225 rfl rfl ?_
  refine J.bipush (v := 8) dX12_init_226 (by decide) ?_
  refine J.newarr (κ := 13) (N := 8) dX12_init_228 arc_int rfl (by decide) (by decide) (by decide) (by decide) (by decide) (by decide) ?_
  show J (d + 1) mX12_init (PV _) 56 12194 230 [some (.ref 79)] [.ref 107, .ref 79] cT335 cI336 28 231
  refine J.putR dX12_init_230 fX12_96 (show tK cT335 79 = 12 from rfl) rfl (Or.inr ⟨_, rfl⟩) (fun _ => rfl) (fun _ q h => by cases h; rfl) ?_
  show J (d + 1) mX12_init (PV _) 56 12194 233 [some (.ref 79)] [] cT337 cI336 28 231
  refine J.aload_n dX12_init_233 rfl rfl ?_
  refine J.bipush (v := 8) dX12_init_234 (by decide) ?_
  refine J.newarr (κ := 13) (N := 8) dX12_init_236 arc_int rfl (by decide) (by decide) (by decide) (by decide) (by decide) (by decide) ?_
  show J (d + 1) mX12_init (PV _) 56 12194 238 [some (.ref 79)] [.ref 108, .ref 79] cT338 cI339 29 239
  refine J.putR dX12_init_238 fX12_99 (show tK cT338 79 = 12 from rfl) rfl (Or.inr ⟨_, rfl⟩) (fun _ => rfl) (fun _ q h => by cases h; rfl) ?_
  show J (d + 1) mX12_init (PV _) 56 12194 241 [some (.ref 79)] [] cT340 cI339 29 239
  refine J.aload_n dX12_init_241 rfl rfl ?_
  refine J.bipush (v := 8) dX12_init_242 (by decide) ?_
  refine J.newarr (κ := 13) (N := 8) dX12_init_244 arc_int rfl (by decide) (by decide) (by decide) (by decide) (by decide) (by decide) ?_
  show J (d + 1) mX12_init (PV _) 56 12194 246 [some (.ref 79)] [.ref 109, .ref 79] cT341 cI342 30 247
  refine J.putR dX12_init_246 fX12_102 (show tK cT341 79 = 12 from rfl) rfl (Or.inr ⟨_, rfl⟩) (fun _ => rfl) (fun _ q h => by cases h; rfl) ?_
  show J (d + 1) mX12_init (PV _) 56 12194 249 [some (.ref 79)] [] cT343 cI342 30 247
  refine J.aload_n dX12_init_249 rfl rfl ?_
  refine J.bipush (v := 8) dX12_init_250 (by decide) ?_
  refine J.newarr (κ := 13) (N := 8) dX12_init_252 arc_int rfl (by decide) (by decide) (by decide) (by decide) (by decide) (by decide) ?_
  show J (d + 1) mX12_init (PV _) 56 12194 254 [some (.ref 79)] [.ref 110, .ref 79] cT344 cI345 31 255
  refine J.putR dX12_init_254 fX12_105 (show tK cT344 79 = 12 from rfl) rfl (Or.inr ⟨_, rfl⟩) (fun _ => rfl) (fun _ q h => by cases h; rfl) ?_
  show J (d + 1) mX12_init (PV _) 56 12194 257 [some (.ref 79)] [] cT346 cI345 31 255
  refine J.aload_n dX12_init_257 rfl rfl ?_
  refine J.bipush (v := 8) dX12_init_258 (by decide) ?_
  refine J.newarr (κ := 13) (N := 8) dX12_init_260 arc_int rfl (by decide) (by decide) (by decide) (by decide) (by decide) (by decide) ?_
  show J (d + 1) mX12_init (PV _) 56 12194 262 [some (.ref 79)] [.ref 111, .ref 79] cT347 cI348 32 263
  refine J.putR dX12_init_262 fX12_108 (show tK cT347 79 = 12 from rfl) rfl (Or.inr ⟨_, rfl⟩) (fun _ => rfl) (fun _ q h => by cases h; rfl) ?_
  show J (d + 1) mX12_init (PV _) 56 12194 265 [some (.ref 79)] [] cT349 cI348 32 263
  refine J.aload_n dX12_init_265 rfl rfl ?_
  refine J.iconst (v := 4) dX12_init_266 (by decide) ?_
  refine J.newarr (κ := 13) (N := 4) dX12_init_267 arc_int rfl (by decide) (by decide) (by decide) (by decide) (by decide) (by decide) ?_
  show J (d + 1) mX12_init (PV _) 56 12194 269 [some (.ref 79)] [.ref 112, .ref 79] cT350 cI351 33 267
  refine J.putR dX12_init_269 fX12_111 (show tK cT350 79 = 12 from rfl) rfl (Or.inr ⟨_, rfl⟩) (fun _ => rfl) (fun _ q h => by cases h; rfl) ?_
  show J (d + 1) mX12_init (PV _) 56 12194 272 [some (.ref 79)] [] cT352 cI351 33 267
  refine J.aload_n dX12_init_272 rfl rfl ?_
  refine J.iconst (v := 4) dX12_init_273 (by decide) ?_
  refine J.newarr (κ := 13) (N := 4) dX12_init_274 arc_int rfl (by decide) (by decide) (by decide) (by decide) (by decide) (by decide) ?_
  show J (d + 1) mX12_init (PV _) 56 12194 276 [some (.ref 79)] [.ref 113, .ref 79] cT353 cI354 34 271
  refine J.putR dX12_init_276 fX12_114 (show tK cT353 79 = 12 from rfl) rfl (Or.inr ⟨_, rfl⟩) (fun _ => rfl) (fun _ q h => by cases h; rfl) ?_
  show J (d + 1) mX12_init (PV _) 56 12194 279 [some (.ref 79)] [] cT355 cI354 34 271
  refine J.aload_n dX12_init_279 rfl rfl ?_
  refine J.bipush (v := 32) dX12_init_280 (by decide) ?_
  refine J.newarr (κ := 13) (N := 32) dX12_init_282 arc_int rfl (by decide) (by decide) (by decide) (by decide) (by decide) (by decide) ?_
  show J (d + 1) mX12_init (PV _) 56 12194 284 [some (.ref 79)] [.ref 114, .ref 79] cT356 cI357 35 303
  refine J.putR dX12_init_284 fX12_117 (show tK cT356 79 = 12 from rfl) rfl (Or.inr ⟨_, rfl⟩) (fun _ => rfl) (fun _ q h => by cases h; rfl) ?_
  show J (d + 1) mX12_init (PV _) 56 12194 287 [some (.ref 79)] [] cT358 cI357 35 303
  refine J.aload_n dX12_init_287 rfl rfl ?_
  refine J.bipush (v := 9) dX12_init_288 (by decide) ?_
  refine J.newarr (κ := 13) (N := 9) dX12_init_290 arc_int rfl (by decide) (by decide) (by decide) (by decide) (by decide) (by decide) ?_
  show J (d + 1) mX12_init (PV _) 56 12194 292 [some (.ref 79)] [.ref 115, .ref 79] cT359 cI360 36 312
  refine J.putR dX12_init_292 fX12_120 (show tK cT359 79 = 12 from rfl) rfl (Or.inr ⟨_, rfl⟩) (fun _ => rfl) (fun _ q h => by cases h; rfl) ?_
  show J (d + 1) mX12_init (PV _) 56 12194 295 [some (.ref 79)] [] cT361 cI360 36 312
  refine J.aload_n dX12_init_295 rfl rfl ?_
  refine J.sipush (v := 2304) dX12_init_296 (by decide) ?_
  refine J.newarr (κ := 13) (N := 2304) dX12_init_299 arc_int rfl (by decide) (by decide) (by decide) (by decide) (by decide) (by decide) ?_
  show J (d + 1) mX12_init (PV _) 56 12194 301 [some (.ref 79)] [.ref 116, .ref 79] cT362 cI363 37 2616
  refine J.putR dX12_init_301 fX12_123 (show tK cT362 79 = 12 from rfl) rfl (Or.inr ⟨_, rfl⟩) (fun _ => rfl) (fun _ q h => by cases h; rfl) ?_
  show J (d + 1) mX12_init (PV _) 56 12194 304 [some (.ref 79)] [] cT364 cI363 37 2616
  refine J.aload_n dX12_init_304 rfl rfl ?_
  refine J.sipush (v := 2304) dX12_init_305 (by decide) ?_
  refine J.newarr (κ := 13) (N := 2304) dX12_init_308 arc_int rfl (by decide) (by decide) (by decide) (by decide) (by decide) (by decide) ?_
  show J (d + 1) mX12_init (PV _) 56 12194 310 [some (.ref 79)] [.ref 117, .ref 79] cT365 cI366 38 4920
  refine J.putR dX12_init_310 fX12_126 (show tK cT365 79 = 12 from rfl) rfl (Or.inr ⟨_, rfl⟩) (fun _ => rfl) (fun _ q h => by cases h; rfl) ?_
  show J (d + 1) mX12_init (PV _) 56 12194 313 [some (.ref 79)] [] cT367 cI366 38 4920
  refine J.aload_n dX12_init_313 rfl rfl ?_
  refine J.sipush (v := 2304) dX12_init_314 (by decide) ?_
  refine J.newarr (κ := 13) (N := 2304) dX12_init_317 arc_int rfl (by decide) (by decide) (by decide) (by decide) (by decide) (by decide) ?_
  show J (d + 1) mX12_init (PV _) 56 12194 319 [some (.ref 79)] [.ref 118, .ref 79] cT368 cI369 39 7224
  refine J.putR dX12_init_319 fX12_129 (show tK cT368 79 = 12 from rfl) rfl (Or.inr ⟨_, rfl⟩) (fun _ => rfl) (fun _ q h => by cases h; rfl) ?_
  show J (d + 1) mX12_init (PV _) 56 12194 322 [some (.ref 79)] [] cT370 cI369 39 7224
  refine J.aload_n dX12_init_322 rfl rfl ?_
  refine J.sipush (v := 2304) dX12_init_323 (by decide) ?_
  refine J.newarr (κ := 13) (N := 2304) dX12_init_326 arc_int rfl (by decide) (by decide) (by decide) (by decide) (by decide) (by decide) ?_
  show J (d + 1) mX12_init (PV _) 56 12194 328 [some (.ref 79)] [.ref 119, .ref 79] cT371 cI372 40 9528
  refine J.putR dX12_init_328 fX12_132 (show tK cT371 79 = 12 from rfl) rfl (Or.inr ⟨_, rfl⟩) (fun _ => rfl) (fun _ q h => by cases h; rfl) ?_
  show J (d + 1) mX12_init (PV _) 56 12194 331 [some (.ref 79)] [] cT373 cI372 40 9528
  refine J.aload_n dX12_init_331 rfl rfl ?_
  refine J.sipush (v := 2304) dX12_init_332 (by decide) ?_
  refine J.newarr (κ := 13) (N := 2304) dX12_init_335 arc_int rfl (by decide) (by decide) (by decide) (by decide) (by decide) (by decide) ?_
  show J (d + 1) mX12_init (PV _) 56 12194 337 [some (.ref 79)] [.ref 120, .ref 79] cT374 cI375 41 11832
  refine J.putR dX12_init_337 fX12_135 (show tK cT374 79 = 12 from rfl) rfl (Or.inr ⟨_, rfl⟩) (fun _ => rfl) (fun _ q h => by cases h; rfl) ?_
  show J (d + 1) mX12_init (PV _) 56 12194 340 [some (.ref 79)] [] cT376 cI375 41 11832
  refine J.aload_n dX12_init_340 rfl rfl ?_
  refine J.bipush (v := 6) dX12_init_341 (by decide) ?_
  refine J.newarr (κ := 13) (N := 6) dX12_init_343 arc_int rfl (by decide) (by decide) (by decide) (by decide) (by decide) (by decide) ?_
  show J (d + 1) mX12_init (PV _) 56 12194 345 [some (.ref 79)] [.ref 121, .ref 79] cT377 cI378 42 11838
  refine J.putR dX12_init_345 fX12_138 (show tK cT377 79 = 12 from rfl) rfl (Or.inr ⟨_, rfl⟩) (fun _ => rfl) (fun _ q h => by cases h; rfl) ?_
  show J (d + 1) mX12_init (PV _) 56 12194 348 [some (.ref 79)] [] cT379 cI378 42 11838
  refine J.aload_n dX12_init_348 rfl rfl ?_
  refine J.bipush (v := 6) dX12_init_349 (by decide) ?_
  refine J.newarr (κ := 13) (N := 6) dX12_init_351 arc_int rfl (by decide) (by decide) (by decide) (by decide) (by decide) (by decide) ?_
  show J (d + 1) mX12_init (PV _) 56 12194 353 [some (.ref 79)] [.ref 122, .ref 79] cT380 cI381 43 11844
  refine J.putR dX12_init_353 fX12_141 (show tK cT380 79 = 12 from rfl) rfl (Or.inr ⟨_, rfl⟩) (fun _ => rfl) (fun _ q h => by cases h; rfl) ?_
  show J (d + 1) mX12_init (PV _) 56 12194 356 [some (.ref 79)] [] cT382 cI381 43 11844
  refine J.aload_n dX12_init_356 rfl rfl ?_
  refine J.bipush (v := 6) dX12_init_357 (by decide) ?_
  refine J.newarr (κ := 13) (N := 6) dX12_init_359 arc_int rfl (by decide) (by decide) (by decide) (by decide) (by decide) (by decide) ?_
  show J (d + 1) mX12_init (PV _) 56 12194 361 [some (.ref 79)] [.ref 123, .ref 79] cT383 cI384 44 11850
  refine J.putR dX12_init_361 fX12_144 (show tK cT383 79 = 12 from rfl) rfl (Or.inr ⟨_, rfl⟩) (fun _ => rfl) (fun _ q h => by cases h; rfl) ?_
  show J (d + 1) mX12_init (PV _) 56 12194 364 [some (.ref 79)] [] cT385 cI384 44 11850
  refine J.aload_n dX12_init_364 rfl rfl ?_
  refine J.bipush (v := 8) dX12_init_365 (by decide) ?_
  refine J.newarr (κ := 13) (N := 8) dX12_init_367 arc_int rfl (by decide) (by decide) (by decide) (by decide) (by decide) (by decide) ?_
  show J (d + 1) mX12_init (PV _) 56 12194 369 [some (.ref 79)] [.ref 124, .ref 79] cT386 cI387 45 11858
  refine J.putR dX12_init_369 fX12_147 (show tK cT386 79 = 12 from rfl) rfl (Or.inr ⟨_, rfl⟩) (fun _ => rfl) (fun _ q h => by cases h; rfl) ?_
  show J (d + 1) mX12_init (PV _) 56 12194 372 [some (.ref 79)] [] cT388 cI387 45 11858
  refine J.aload_n dX12_init_372 rfl rfl ?_
  refine J.bipush (v := 8) dX12_init_373 (by decide) ?_
  refine J.newarr (κ := 13) (N := 8) dX12_init_375 arc_int rfl (by decide) (by decide) (by decide) (by decide) (by decide) (by decide) ?_
  show J (d + 1) mX12_init (PV _) 56 12194 377 [some (.ref 79)] [.ref 125, .ref 79] cT389 cI390 46 11866
  refine J.putR dX12_init_377 fX12_150 (show tK cT389 79 = 12 from rfl) rfl (Or.inr ⟨_, rfl⟩) (fun _ => rfl) (fun _ q h => by cases h; rfl) ?_
  show J (d + 1) mX12_init (PV _) 56 12194 380 [some (.ref 79)] [] cT391 cI390 46 11866
  refine J.aload_n dX12_init_380 rfl rfl ?_
  refine J.bipush (v := 8) dX12_init_381 (by decide) ?_
  refine J.newarr (κ := 13) (N := 8) dX12_init_383 arc_int rfl (by decide) (by decide) (by decide) (by decide) (by decide) (by decide) ?_
  show J (d + 1) mX12_init (PV _) 56 12194 385 [some (.ref 79)] [.ref 126, .ref 79] cT392 cI393 47 11874
  refine J.putR dX12_init_385 fX12_153 (show tK cT392 79 = 12 from rfl) rfl (Or.inr ⟨_, rfl⟩) (fun _ => rfl) (fun _ q h => by cases h; rfl) ?_
  show J (d + 1) mX12_init (PV _) 56 12194 388 [some (.ref 79)] [] cT394 cI393 47 11874
  refine J.aload_n dX12_init_388 rfl rfl ?_
  refine J.bipush (v := 8) dX12_init_389 (by decide) ?_
  refine J.newarr (κ := 13) (N := 8) dX12_init_391 arc_int rfl (by decide) (by decide) (by decide) (by decide) (by decide) (by decide) ?_
  show J (d + 1) mX12_init (PV _) 56 12194 393 [some (.ref 79)] [.ref 127, .ref 79] cT395 cI396 48 11882
  refine J.putR dX12_init_393 fX12_156 (show tK cT395 79 = 12 from rfl) rfl (Or.inr ⟨_, rfl⟩) (fun _ => rfl) (fun _ q h => by cases h; rfl) ?_
  show J (d + 1) mX12_init (PV _) 56 12194 396 [some (.ref 79)] [] cT397 cI396 48 11882
  refine J.aload_n dX12_init_396 rfl rfl ?_
  refine J.bipush (v := 8) dX12_init_397 (by decide) ?_
  refine J.newarr (κ := 14) (N := 8) dX12_init_399 arc_boolean rfl (by decide) (by decide) (by decide) (by decide) (by decide) (by decide) ?_
  show J (d + 1) mX12_init (PV _) 56 12194 401 [some (.ref 79)] [.ref 128, .ref 79] cT398 cI399 49 11890
  refine J.putR dX12_init_401 fX12_159 (show tK cT398 79 = 12 from rfl) rfl (Or.inr ⟨_, rfl⟩) (fun _ => rfl) (fun _ q h => by cases h; rfl) ?_
  show J (d + 1) mX12_init (PV _) 56 12194 404 [some (.ref 79)] [] cT400 cI399 49 11890
  refine J.aload_n dX12_init_404 rfl rfl ?_
  refine J.bipush (v := 8) dX12_init_405 (by decide) ?_
  refine J.newarr (κ := 13) (N := 8) dX12_init_407 arc_int rfl (by decide) (by decide) (by decide) (by decide) (by decide) (by decide) ?_
  show J (d + 1) mX12_init (PV _) 56 12194 409 [some (.ref 79)] [.ref 129, .ref 79] cT401 cI402 50 11898
  refine J.putR dX12_init_409 fX12_162 (show tK cT401 79 = 12 from rfl) rfl (Or.inr ⟨_, rfl⟩) (fun _ => rfl) (fun _ q h => by cases h; rfl) ?_
  show J (d + 1) mX12_init (PV _) 56 12194 412 [some (.ref 79)] [] cT403 cI402 50 11898
  refine J.aload_n dX12_init_412 rfl rfl ?_
  refine J.bipush (v := 8) dX12_init_413 (by decide) ?_
  refine J.newarr (κ := 13) (N := 8) dX12_init_415 arc_int rfl (by decide) (by decide) (by decide) (by decide) (by decide) (by decide) ?_
  show J (d + 1) mX12_init (PV _) 56 12194 417 [some (.ref 79)] [.ref 130, .ref 79] cT404 cI405 51 11906
  refine J.putR dX12_init_417 fX12_165 (show tK cT404 79 = 12 from rfl) rfl (Or.inr ⟨_, rfl⟩) (fun _ => rfl) (fun _ q h => by cases h; rfl) ?_
  show J (d + 1) mX12_init (PV _) 56 12194 420 [some (.ref 79)] [] cT406 cI405 51 11906
  refine J.aload_n dX12_init_420 rfl rfl ?_
  refine J.bipush (v := 8) dX12_init_421 (by decide) ?_
  refine J.newarr (κ := 13) (N := 8) dX12_init_423 arc_int rfl (by decide) (by decide) (by decide) (by decide) (by decide) (by decide) ?_
  show J (d + 1) mX12_init (PV _) 56 12194 425 [some (.ref 79)] [.ref 131, .ref 79] cT407 cI408 52 11914
  refine J.putR dX12_init_425 fX12_168 (show tK cT407 79 = 12 from rfl) rfl (Or.inr ⟨_, rfl⟩) (fun _ => rfl) (fun _ q h => by cases h; rfl) ?_
  show J (d + 1) mX12_init (PV _) 56 12194 428 [some (.ref 79)] [] cT409 cI408 52 11914
  refine J.aload_n dX12_init_428 rfl rfl ?_
  refine J.bipush (v := 8) dX12_init_429 (by decide) ?_
  refine J.newarr (κ := 13) (N := 8) dX12_init_431 arc_int rfl (by decide) (by decide) (by decide) (by decide) (by decide) (by decide) ?_
  show J (d + 1) mX12_init (PV _) 56 12194 433 [some (.ref 79)] [.ref 132, .ref 79] cT410 cI411 53 11922
  refine J.putR dX12_init_433 fX12_171 (show tK cT410 79 = 12 from rfl) rfl (Or.inr ⟨_, rfl⟩) (fun _ => rfl) (fun _ q h => by cases h; rfl) ?_
  show J (d + 1) mX12_init (PV _) 56 12194 436 [some (.ref 79)] [] cT412 cI411 53 11922
  refine J.aload_n dX12_init_436 rfl rfl ?_
  refine J.bipush (v := 8) dX12_init_437 (by decide) ?_
  refine J.newarr (κ := 13) (N := 8) dX12_init_439 arc_int rfl (by decide) (by decide) (by decide) (by decide) (by decide) (by decide) ?_
  show J (d + 1) mX12_init (PV _) 56 12194 441 [some (.ref 79)] [.ref 133, .ref 79] cT413 cI414 54 11930
  refine J.putR dX12_init_441 fX12_174 (show tK cT413 79 = 12 from rfl) rfl (Or.inr ⟨_, rfl⟩) (fun _ => rfl) (fun _ q h => by cases h; rfl) ?_
  show J (d + 1) mX12_init (PV _) 56 12194 444 [some (.ref 79)] [] cT415 cI414 54 11930
  refine J.aload_n dX12_init_444 rfl rfl ?_
  refine J.sipush (v := 256) dX12_init_445 (by decide) ?_
  refine J.newarr (κ := 14) (N := 256) dX12_init_448 arc_boolean rfl (by decide) (by decide) (by decide) (by decide) (by decide) (by decide) ?_
  show J (d + 1) mX12_init (PV _) 56 12194 450 [some (.ref 79)] [.ref 134, .ref 79] cT416 cI417 55 12186
  refine J.putR dX12_init_450 fX12_177 (show tK cT416 79 = 12 from rfl) rfl (Or.inr ⟨_, rfl⟩) (fun _ => rfl) (fun _ q h => by cases h; rfl) ?_
  show J (d + 1) mX12_init (PV _) 56 12194 453 [some (.ref 79)] [] cT418 cI417 55 12186
  refine J.aload_n dX12_init_453 rfl rfl ?_
  refine J.bipush (v := 8) dX12_init_454 (by decide) ?_
  refine J.newarr (κ := 13) (N := 8) dX12_init_456 arc_int rfl (by decide) (by decide) (by decide) (by decide) (by decide) (by decide) ?_
  show J (d + 1) mX12_init (PV _) 56 12194 458 [some (.ref 79)] [.ref 135, .ref 79] cT419 cI420 56 12194
  refine J.putR dX12_init_458 fX12_180 (show tK cT419 79 = 12 from rfl) rfl (Or.inr ⟨_, rfl⟩) (fun _ => rfl) (fun _ q h => by cases h; rfl) ?_
  show J (d + 1) mX12_init (PV _) 56 12194 461 [some (.ref 79)] [] cT421 cI420 56 12194
  exact J.vretQ dX12_init_461 rfl (by decide) (by decide) ⟨rfl, rfl⟩

