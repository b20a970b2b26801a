noncomputable section
/-! the start -/
def NoHi (T : Topo) : Prop := ∀ k j, 67 ≤ j → tR T k j = none
theorem NoHi.new {T : Topo} (h : NoHi T) (κ N : Nat) : NoHi (newT T κ N) := fun k j hj => by
  show va_up T.2.2.2 T.1 (fun _ => none) k j = none
  unfold va_up
  split
  · rfl
  · exact h k j hj
theorem NoHi.set {T : Topo} (h : NoHi T) {a b : Nat} (r : Nat) (hb : b < 67) : NoHi (setR T a b r) := fun k j hj => by
  show (if k = a ∧ j = b then some r else T.2.2.2 k j) = none
  rw [if_neg (by omega)]
  exact h k j hj
theorem noHi_start : NoHi cT421 := by
  have h_cT0 : NoHi cT0 := fun _ _ _ => rfl
  have h_cTa : NoHi cTa := h_cT0.new 11 0
  have h_cT1 : NoHi cT1 := h_cTa.new 5 0
  have h_cT3 : NoHi cT3 := h_cT1.new 13 6
  have h_cT5 : NoHi cT5 := h_cT3.set (a := 1) (b := 0) 2 (by omega)
  have h_cT6 : NoHi cT6 := h_cT5.new 15 9
  have h_cT8 : NoHi cT8 := h_cT6.set (a := 1) (b := 1) 3 (by omega)
  have h_cT9 : NoHi cT9 := h_cT8.new 10 0
  have h_cT11 : NoHi cT11 := h_cT9.new 13 27
  have h_cT13 : NoHi cT13 := h_cT11.set (a := 4) (b := 0) 5 (by omega)
  have h_cT17 : NoHi cT17 := h_cT13.set (a := 1) (b := 2) 4 (by omega)
  have h_cT18 : NoHi cT18 := h_cT17.new 4 0
  have h_cT20 : NoHi cT20 := h_cT18.set (a := 3) (b := 0) 6 (by omega)
  have h_cT21 : NoHi cT21 := h_cT20.new 4 0
  have h_cT23 : NoHi cT23 := h_cT21.set (a := 3) (b := 1) 7 (by omega)
  have h_cT24 : NoHi cT24 := h_cT23.new 4 0
  have h_cT26 : NoHi cT26 := h_cT24.set (a := 3) (b := 2) 8 (by omega)
  have h_cT27 : NoHi cT27 := h_cT26.new 4 0
  have h_cT29 : NoHi cT29 := h_cT27.set (a := 3) (b := 3) 9 (by omega)
  have h_cT30 : NoHi cT30 := h_cT29.new 4 0
  have h_cT32 : NoHi cT32 := h_cT30.set (a := 3) (b := 4) 10 (by omega)
  have h_cT33 : NoHi cT33 := h_cT32.new 4 0
  have h_cT35 : NoHi cT35 := h_cT33.set (a := 3) (b := 5) 11 (by omega)
  have h_cT36 : NoHi cT36 := h_cT35.new 4 0
  have h_cT38 : NoHi cT38 := h_cT36.set (a := 3) (b := 6) 12 (by omega)
  have h_cT39 : NoHi cT39 := h_cT38.new 4 0
  have h_cT41 : NoHi cT41 := h_cT39.set (a := 3) (b := 7) 13 (by omega)
  have h_cT42 : NoHi cT42 := h_cT41.new 4 0
  have h_cT44 : NoHi cT44 := h_cT42.set (a := 3) (b := 8) 14 (by omega)
  have h_cT45 : NoHi cT45 := h_cT44.new 9 0
  have h_cT47 : NoHi cT47 := h_cT45.new 17 8
  have h_cT49 : NoHi cT49 := h_cT47.set (a := 15) (b := 0) 16 (by omega)
  have h_cT50 : NoHi cT50 := h_cT49.new 8 0
  have h_cT52 : NoHi cT52 := h_cT50.new 6 0
  have h_cT54 : NoHi cT54 := h_cT52.new 13 0
  have h_cT56 : NoHi cT56 := h_cT54.set (a := 18) (b := 0) 19 (by omega)
  have h_cT57 : NoHi cT57 := h_cT56.new 13 0
  have h_cT59 : NoHi cT59 := h_cT57.set (a := 18) (b := 1) 20 (by omega)
  have h_cT61 : NoHi cT61 := h_cT59.set (a := 17) (b := 18) 18 (by omega)
  have h_cT62 : NoHi cT62 := h_cT61.set (a := 16) (b := 0) 17 (by omega)
  have h_cT63 : NoHi cT63 := h_cT62.new 8 0
  have h_cT65 : NoHi cT65 := h_cT63.new 6 0
  have h_cT67 : NoHi cT67 := h_cT65.new 13 0
  have h_cT69 : NoHi cT69 := h_cT67.set (a := 22) (b := 0) 23 (by omega)
  have h_cT70 : NoHi cT70 := h_cT69.new 13 0
  have h_cT72 : NoHi cT72 := h_cT70.set (a := 22) (b := 1) 24 (by omega)
  have h_cT74 : NoHi cT74 := h_cT72.set (a := 21) (b := 18) 22 (by omega)
  have h_cT75 : NoHi cT75 := h_cT74.set (a := 16) (b := 1) 21 (by omega)
  have h_cT76 : NoHi cT76 := h_cT75.new 8 0
  have h_cT78 : NoHi cT78 := h_cT76.new 6 0
  have h_cT80 : NoHi cT80 := h_cT78.new 13 0
  have h_cT82 : NoHi cT82 := h_cT80.set (a := 26) (b := 0) 27 (by omega)
  have h_cT83 : NoHi cT83 := h_cT82.new 13 0
  have h_cT85 : NoHi cT85 := h_cT83.set (a := 26) (b := 1) 28 (by omega)
  have h_cT87 : NoHi cT87 := h_cT85.set (a := 25) (b := 18) 26 (by omega)
  have h_cT88 : NoHi cT88 := h_cT87.set (a := 16) (b := 2) 25 (by omega)
  have h_cT89 : NoHi cT89 := h_cT88.new 8 0
  have h_cT91 : NoHi cT91 := h_cT89.new 6 0
  have h_cT93 : NoHi cT93 := h_cT91.new 13 0
  have h_cT95 : NoHi cT95 := h_cT93.set (a := 30) (b := 0) 31 (by omega)
  have h_cT96 : NoHi cT96 := h_cT95.new 13 0
  have h_cT98 : NoHi cT98 := h_cT96.set (a := 30) (b := 1) 32 (by omega)
  have h_cT100 : NoHi cT100 := h_cT98.set (a := 29) (b := 18) 30 (by omega)
  have h_cT101 : NoHi cT101 := h_cT100.set (a := 16) (b := 3) 29 (by omega)
  have h_cT102 : NoHi cT102 := h_cT101.new 8 0
  have h_cT104 : NoHi cT104 := h_cT102.new 6 0
  have h_cT106 : NoHi cT106 := h_cT104.new 13 0
  have h_cT108 : NoHi cT108 := h_cT106.set (a := 34) (b := 0) 35 (by omega)
  have h_cT109 : NoHi cT109 := h_cT108.new 13 0
  have h_cT111 : NoHi cT111 := h_cT109.set (a := 34) (b := 1) 36 (by omega)
  have h_cT113 : NoHi cT113 := h_cT111.set (a := 33) (b := 18) 34 (by omega)
  have h_cT114 : NoHi cT114 := h_cT113.set (a := 16) (b := 4) 33 (by omega)
  have h_cT115 : NoHi cT115 := h_cT114.new 8 0
  have h_cT117 : NoHi cT117 := h_cT115.new 6 0
  have h_cT119 : NoHi cT119 := h_cT117.new 13 0
  have h_cT121 : NoHi cT121 := h_cT119.set (a := 38) (b := 0) 39 (by omega)
  have h_cT122 : NoHi cT122 := h_cT121.new 13 0
  have h_cT124 : NoHi cT124 := h_cT122.set (a := 38) (b := 1) 40 (by omega)
  have h_cT126 : NoHi cT126 := h_cT124.set (a := 37) (b := 18) 38 (by omega)
  have h_cT127 : NoHi cT127 := h_cT126.set (a := 16) (b := 5) 37 (by omega)
  have h_cT128 : NoHi cT128 := h_cT127.new 8 0
  have h_cT130 : NoHi cT130 := h_cT128.new 6 0
  have h_cT132 : NoHi cT132 := h_cT130.new 13 0
  have h_cT134 : NoHi cT134 := h_cT132.set (a := 42) (b := 0) 43 (by omega)
  have h_cT135 : NoHi cT135 := h_cT134.new 13 0
  have h_cT137 : NoHi cT137 := h_cT135.set (a := 42) (b := 1) 44 (by omega)
  have h_cT139 : NoHi cT139 := h_cT137.set (a := 41) (b := 18) 42 (by omega)
  have h_cT140 : NoHi cT140 := h_cT139.set (a := 16) (b := 6) 41 (by omega)
  have h_cT141 : NoHi cT141 := h_cT140.new 8 0
  have h_cT143 : NoHi cT143 := h_cT141.new 6 0
  have h_cT145 : NoHi cT145 := h_cT143.new 13 0
  have h_cT147 : NoHi cT147 := h_cT145.set (a := 46) (b := 0) 47 (by omega)
  have h_cT148 : NoHi cT148 := h_cT147.new 13 0
  have h_cT150 : NoHi cT150 := h_cT148.set (a := 46) (b := 1) 48 (by omega)
  have h_cT152 : NoHi cT152 := h_cT150.set (a := 45) (b := 18) 46 (by omega)
  have h_cT153 : NoHi cT153 := h_cT152.set (a := 16) (b := 7) 45 (by omega)
  have h_cT154 : NoHi cT154 := h_cT153.set (a := 0) (b := 0) 1 (by omega)
  have h_cT155 : NoHi cT155 := h_cT154.set (a := 0) (b := 1) 15 (by omega)
  have h_cT156 : NoHi cT156 := h_cT155.new 0 0
  have h_cT158 : NoHi cT158 := h_cT156.new 13 216
  have h_cT160 : NoHi cT160 := h_cT158.set (a := 49) (b := 0) 50 (by omega)
  have h_cT161 : NoHi cT161 := h_cT160.new 13 216
  have h_cT163 : NoHi cT163 := h_cT161.set (a := 49) (b := 1) 51 (by omega)
  have h_cT164 : NoHi cT164 := h_cT163.new 13 1944
  have h_cT166 : NoHi cT166 := h_cT164.set (a := 49) (b := 2) 52 (by omega)
  have h_cT167 : NoHi cT167 := h_cT166.new 13 144
  have h_cT169 : NoHi cT169 := h_cT167.set (a := 49) (b := 3) 53 (by omega)
  have h_cT171 : NoHi cT171 := h_cT169.set (a := 0) (b := 2) 49 (by omega)
  have h_cT172 : NoHi cT172 := h_cT171.new 1 0
  have h_cT174 : NoHi cT174 := h_cT172.new 13 9
  have h_cT176 : NoHi cT176 := h_cT174.set (a := 54) (b := 0) 55 (by omega)
  have h_cT177 : NoHi cT177 := h_cT176.set (a := 0) (b := 3) 54 (by omega)
  have h_cT178 : NoHi cT178 := h_cT177.new 3 0
  have h_cT180 : NoHi cT180 := h_cT178.new 0 0
  have h_cT182 : NoHi cT182 := h_cT180.new 13 216
  have h_cT184 : NoHi cT184 := h_cT182.set (a := 57) (b := 0) 58 (by omega)
  have h_cT185 : NoHi cT185 := h_cT184.new 13 216
  have h_cT187 : NoHi cT187 := h_cT185.set (a := 57) (b := 1) 59 (by omega)
  have h_cT188 : NoHi cT188 := h_cT187.new 13 1944
  have h_cT190 : NoHi cT190 := h_cT188.set (a := 57) (b := 2) 60 (by omega)
  have h_cT191 : NoHi cT191 := h_cT190.new 13 144
  have h_cT193 : NoHi cT193 := h_cT191.set (a := 57) (b := 3) 61 (by omega)
  have h_cT195 : NoHi cT195 := h_cT193.set (a := 56) (b := 2) 57 (by omega)
  have h_cT196 : NoHi cT196 := h_cT195.new 13 24
  have h_cT198 : NoHi cT198 := h_cT196.set (a := 56) (b := 3) 62 (by omega)
  have h_cT199 : NoHi cT199 := h_cT198.new 13 8
  have h_cT201 : NoHi cT201 := h_cT199.set (a := 56) (b := 4) 63 (by omega)
  have h_cT202 : NoHi cT202 := h_cT201.new 13 8
  have h_cT204 : NoHi cT204 := h_cT202.set (a := 56) (b := 5) 64 (by omega)
  have h_cT205 : NoHi cT205 := h_cT204.new 13 8
  have h_cT207 : NoHi cT207 := h_cT205.set (a := 56) (b := 6) 65 (by omega)
  have h_cT208 : NoHi cT208 := h_cT207.new 13 8
  have h_cT210 : NoHi cT210 := h_cT208.set (a := 56) (b := 7) 66 (by omega)
  have h_cT211 : NoHi cT211 := h_cT210.new 13 256
  have h_cT213 : NoHi cT213 := h_cT211.set (a := 56) (b := 8) 67 (by omega)
  have h_cT214 : NoHi cT214 := h_cT213.new 13 256
  have h_cT216 : NoHi cT216 := h_cT214.set (a := 56) (b := 9) 68 (by omega)
  have h_cT217 : NoHi cT217 := h_cT216.set (a := 56) (b := 0) 1 (by omega)
  have h_cT218 : NoHi cT218 := h_cT217.set (a := 56) (b := 1) 15 (by omega)
  have h_cT219 : NoHi cT219 := h_cT218.set (a := 0) (b := 4) 56 (by omega)
  have h_cT220 : NoHi cT220 := h_cT219.new 2 0
  have h_cT223 : NoHi cT223 := h_cT220.set (a := 69) (b := 0) 1 (by omega)
  have h_cT224 : NoHi cT224 := h_cT223.set (a := 69) (b := 1) 15 (by omega)
  have h_cT225 : NoHi cT225 := h_cT224.set (a := 0) (b := 5) 69 (by omega)
  have h_cT226 : NoHi cT226 := h_cT225.new 16 4
  have h_cT228 : NoHi cT228 := h_cT226.new 7 0
  have h_cT230 : NoHi cT230 := h_cT228.new 13 8
  have h_cT232 : NoHi cT232 := h_cT230.set (a := 71) (b := 0) 72 (by omega)
  have h_cT233 : NoHi cT233 := h_cT232.set (a := 70) (b := 0) 71 (by omega)
  have h_cT234 : NoHi cT234 := h_cT233.new 7 0
  have h_cT236 : NoHi cT236 := h_cT234.new 13 8
  have h_cT238 : NoHi cT238 := h_cT236.set (a := 73) (b := 0) 74 (by omega)
  have h_cT239 : NoHi cT239 := h_cT238.set (a := 70) (b := 1) 73 (by omega)
  have h_cT240 : NoHi cT240 := h_cT239.new 7 0
  have h_cT242 : NoHi cT242 := h_cT240.new 13 8
  have h_cT244 : NoHi cT244 := h_cT242.set (a := 75) (b := 0) 76 (by omega)
  have h_cT245 : NoHi cT245 := h_cT244.set (a := 70) (b := 2) 75 (by omega)
  have h_cT246 : NoHi cT246 := h_cT245.new 7 0
  have h_cT248 : NoHi cT248 := h_cT246.new 13 8
  have h_cT250 : NoHi cT250 := h_cT248.set (a := 77) (b := 0) 78 (by omega)
  have h_cT251 : NoHi cT251 := h_cT250.set (a := 70) (b := 3) 77 (by omega)
  have h_cT252 : NoHi cT252 := h_cT251.set (a := 0) (b := 6) 70 (by omega)
  have h_cTb : NoHi cTb := h_cT252.new 12 0
  have h_cT254 : NoHi cT254 := h_cTb.new 13 6
  have h_cT256 : NoHi cT256 := h_cT254.set (a := 79) (b := 9) 80 (by omega)
  have h_cT257 : NoHi cT257 := h_cT256.new 13 9
  have h_cT259 : NoHi cT259 := h_cT257.set (a := 79) (b := 10) 81 (by omega)
  have h_cT260 : NoHi cT260 := h_cT259.new 13 9
  have h_cT262 : NoHi cT262 := h_cT260.set (a := 79) (b := 11) 82 (by omega)
  have h_cT263 : NoHi cT263 := h_cT262.new 13 9
  have h_cT265 : NoHi cT265 := h_cT263.set (a := 79) (b := 12) 83 (by omega)
  have h_cT266 : NoHi cT266 := h_cT265.new 13 9
  have h_cT268 : NoHi cT268 := h_cT266.set (a := 79) (b := 13) 84 (by omega)
  have h_cT269 : NoHi cT269 := h_cT268.new 13 9
  have h_cT271 : NoHi cT271 := h_cT269.set (a := 79) (b := 14) 85 (by omega)
  have h_cT272 : NoHi cT272 := h_cT271.new 13 9
  have h_cT274 : NoHi cT274 := h_cT272.set (a := 79) (b := 15) 86 (by omega)
  have h_cT275 : NoHi cT275 := h_cT274.new 13 9
  have h_cT277 : NoHi cT277 := h_cT275.set (a := 79) (b := 16) 87 (by omega)
  have h_cT278 : NoHi cT278 := h_cT277.new 13 9
  have h_cT280 : NoHi cT280 := h_cT278.set (a := 79) (b := 17) 88 (by omega)
  have h_cT281 : NoHi cT281 := h_cT280.new 14 9
  have h_cT283 : NoHi cT283 := h_cT281.set (a := 79) (b := 18) 89 (by omega)
  have h_cT284 : NoHi cT284 := h_cT283.new 13 8
  have h_cT286 : NoHi cT286 := h_cT284.set (a := 79) (b := 19) 90 (by omega)
  have h_cT287 : NoHi cT287 := h_cT286.new 13 8
  have h_cT289 : NoHi cT289 := h_cT287.set (a := 79) (b := 20) 91 (by omega)
  have h_cT290 : NoHi cT290 := h_cT289.new 13 8
  have h_cT292 : NoHi cT292 := h_cT290.set (a := 79) (b := 21) 92 (by omega)
  have h_cT293 : NoHi cT293 := h_cT292.new 13 8
  have h_cT295 : NoHi cT295 := h_cT293.set (a := 79) (b := 22) 93 (by omega)
  have h_cT296 : NoHi cT296 := h_cT295.new 13 8
  have h_cT298 : NoHi cT298 := h_cT296.set (a := 79) (b := 23) 94 (by omega)
  have h_cT299 : NoHi cT299 := h_cT298.new 13 8
  have h_cT301 : NoHi cT301 := h_cT299.set (a := 79) (b := 24) 95 (by omega)
  have h_cT302 : NoHi cT302 := h_cT301.new 13 8
  have h_cT304 : NoHi cT304 := h_cT302.set (a := 79) (b := 25) 96 (by omega)
  have h_cT305 : NoHi cT305 := h_cT304.new 13 8
  have h_cT307 : NoHi cT307 := h_cT305.set (a := 79) (b := 26) 97 (by omega)
  have h_cT308 : NoHi cT308 := h_cT307.new 13 8
  have h_cT310 : NoHi cT310 := h_cT308.set (a := 79) (b := 27) 98 (by omega)
  have h_cT311 : NoHi cT311 := h_cT310.new 13 8
  have h_cT313 : NoHi cT313 := h_cT311.set (a := 79) (b := 28) 99 (by omega)
  have h_cT314 : NoHi cT314 := h_cT313.new 13 8
  have h_cT316 : NoHi cT316 := h_cT314.set (a := 79) (b := 29) 100 (by omega)
  have h_cT317 : NoHi cT317 := h_cT316.new 13 8
  have h_cT319 : NoHi cT319 := h_cT317.set (a := 79) (b := 30) 101 (by omega)
  have h_cT320 : NoHi cT320 := h_cT319.new 13 8
  have h_cT322 : NoHi cT322 := h_cT320.set (a := 79) (b := 31) 102 (by omega)
  have h_cT323 : NoHi cT323 := h_cT322.new 13 8
  have h_cT325 : NoHi cT325 := h_cT323.set (a := 79) (b := 32) 103 (by omega)
  have h_cT326 : NoHi cT326 := h_cT325.new 13 8
  have h_cT328 : NoHi cT328 := h_cT326.set (a := 79) (b := 33) 104 (by omega)
  have h_cT329 : NoHi cT329 := h_cT328.new 13 8
  have h_cT331 : NoHi cT331 := h_cT329.set (a := 79) (b := 34) 105 (by omega)
  have h_cT332 : NoHi cT332 := h_cT331.new 14 8
  have h_cT334 : NoHi cT334 := h_cT332.set (a := 79) (b := 35) 106 (by omega)
  have h_cT335 : NoHi cT335 := h_cT334.new 13 8
  have h_cT337 : NoHi cT337 := h_cT335.set (a := 79) (b := 36) 107 (by omega)
  have h_cT338 : NoHi cT338 := h_cT337.new 13 8
  have h_cT340 : NoHi cT340 := h_cT338.set (a := 79) (b := 37) 108 (by omega)
  have h_cT341 : NoHi cT341 := h_cT340.new 13 8
  have h_cT343 : NoHi cT343 := h_cT341.set (a := 79) (b := 38) 109 (by omega)
  have h_cT344 : NoHi cT344 := h_cT343.new 13 8
  have h_cT346 : NoHi cT346 := h_cT344.set (a := 79) (b := 39) 110 (by omega)
  have h_cT347 : NoHi cT347 := h_cT346.new 13 8
  have h_cT349 : NoHi cT349 := h_cT347.set (a := 79) (b := 40) 111 (by omega)
  have h_cT350 : NoHi cT350 := h_cT349.new 13 4
  have h_cT352 : NoHi cT352 := h_cT350.set (a := 79) (b := 41) 112 (by omega)
  have h_cT353 : NoHi cT353 := h_cT352.new 13 4
  have h_cT355 : NoHi cT355 := h_cT353.set (a := 79) (b := 42) 113 (by omega)
  have h_cT356 : NoHi cT356 := h_cT355.new 13 32
  have h_cT358 : NoHi cT358 := h_cT356.set (a := 79) (b := 43) 114 (by omega)
  have h_cT359 : NoHi cT359 := h_cT358.new 13 9
  have h_cT361 : NoHi cT361 := h_cT359.set (a := 79) (b := 44) 115 (by omega)
  have h_cT362 : NoHi cT362 := h_cT361.new 13 2304
  have h_cT364 : NoHi cT364 := h_cT362.set (a := 79) (b := 45) 116 (by omega)
  have h_cT365 : NoHi cT365 := h_cT364.new 13 2304
  have h_cT367 : NoHi cT367 := h_cT365.set (a := 79) (b := 46) 117 (by omega)
  have h_cT368 : NoHi cT368 := h_cT367.new 13 2304
  have h_cT370 : NoHi cT370 := h_cT368.set (a := 79) (b := 47) 118 (by omega)
  have h_cT371 : NoHi cT371 := h_cT370.new 13 2304
  have h_cT373 : NoHi cT373 := h_cT371.set (a := 79) (b := 48) 119 (by omega)
  have h_cT374 : NoHi cT374 := h_cT373.new 13 2304
  have h_cT376 : NoHi cT376 := h_cT374.set (a := 79) (b := 49) 120 (by omega)
  have h_cT377 : NoHi cT377 := h_cT376.new 13 6
  have h_cT379 : NoHi cT379 := h_cT377.set (a := 79) (b := 50) 121 (by omega)
  have h_cT380 : NoHi cT380 := h_cT379.new 13 6
  have h_cT382 : NoHi cT382 := h_cT380.set (a := 79) (b := 51) 122 (by omega)
  have h_cT383 : NoHi cT383 := h_cT382.new 13 6
  have h_cT385 : NoHi cT385 := h_cT383.set (a := 79) (b := 52) 123 (by omega)
  have h_cT386 : NoHi cT386 := h_cT385.new 13 8
  have h_cT388 : NoHi cT388 := h_cT386.set (a := 79) (b := 55) 124 (by omega)
  have h_cT389 : NoHi cT389 := h_cT388.new 13 8
  have h_cT391 : NoHi cT391 := h_cT389.set (a := 79) (b := 56) 125 (by omega)
  have h_cT392 : NoHi cT392 := h_cT391.new 13 8
  have h_cT394 : NoHi cT394 := h_cT392.set (a := 79) (b := 57) 126 (by omega)
  have h_cT395 : NoHi cT395 := h_cT394.new 13 8
  have h_cT397 : NoHi cT397 := h_cT395.set (a := 79) (b := 58) 127 (by omega)
  have h_cT398 : NoHi cT398 := h_cT397.new 14 8
  have h_cT400 : NoHi cT400 := h_cT398.set (a := 79) (b := 59) 128 (by omega)
  have h_cT401 : NoHi cT401 := h_cT400.new 13 8
  have h_cT403 : NoHi cT403 := h_cT401.set (a := 79) (b := 60) 129 (by omega)
  have h_cT404 : NoHi cT404 := h_cT403.new 13 8
  have h_cT406 : NoHi cT406 := h_cT404.set (a := 79) (b := 61) 130 (by omega)
  have h_cT407 : NoHi cT407 := h_cT406.new 13 8
  have h_cT409 : NoHi cT409 := h_cT407.set (a := 79) (b := 62) 131 (by omega)
  have h_cT410 : NoHi cT410 := h_cT409.new 13 8
  have h_cT412 : NoHi cT412 := h_cT410.set (a := 79) (b := 63) 132 (by omega)
  have h_cT413 : NoHi cT413 := h_cT412.new 13 8
  have h_cT415 : NoHi cT415 := h_cT413.set (a := 79) (b := 64) 133 (by omega)
  have h_cT416 : NoHi cT416 := h_cT415.new 14 256
  have h_cT418 : NoHi cT418 := h_cT416.set (a := 79) (b := 65) 134 (by omega)
  have h_cT419 : NoHi cT419 := h_cT418.new 13 8
  have h_cT421 : NoHi cT421 := h_cT419.set (a := 79) (b := 66) 135 (by omega)
  exact h_cT421
theorem lay_k : ∀ k, k < 136 → tK cT421 k = tK0 k := by decide +kernel
theorem lay_l : ∀ k, k < 136 → tL cT421 k = tL0 k := by decide +kernel
theorem lay_r : ∀ k, k < 136 → ∀ j, j < 67 → (isPl k = false → tR cT421 k j = tR0 k j) := by decide +kernel
theorem lay_h : ∀ k, k < 136 → (rL0.getD k []).length ≤ 67 := by decide +kernel
theorem lay_start : Lay cT421 := by
  refine ⟨by decide +kernel, lay_k, lay_l, fun k j hk hp => ?_⟩
  by_cases c : j < 67
  · exact lay_r k hk j c hp
  · rw [noHi_start k j (by omega)]
    show none = (rL0.getD k []).getD j none
    rw [List.getD_eq_getElem?_getD, List.getElem?_eq_none (by have := lay_h k hk; omega)]
    rfl
theorem pl_rows : ∀ i, i < 8 → tR cT421 (18 + 4 * i) 0 = some (19 + 4 * i) ∧ tK cT421 (19 + 4 * i) = 13 ∧ tR cT421 (18 + 4 * i) 1 = some (20 + 4 * i) ∧ tK cT421 (20 + 4 * i) = 13 ∧ tL cT421 (19 + 4 * i) = tL cT421 (20 + 4 * i) ∧ tL cT421 (19 + 4 * i) ≤ 4374 := by decide +kernel
theorem pl_start : Pl cT421 := fun i hi => by
  obtain ⟨h1, h2, h3, h4, -⟩ := pl_rows i hi
  exact ⟨⟨_, h1, h2⟩, _, h3, h4⟩
theorem pls_start : PlS cT421 := fun i hi => by
  have n136 : tN cT421 = 136 := by decide +kernel
  have a : ∀ i, i < 8 → plA cT421 i = 19 + 4 * i ∧ plB cT421 i = 20 + 4 * i := fun i hi => by
    obtain ⟨h1, h2, h3, h4, -⟩ := pl_rows i hi
    unfold plA plB
    rw [h1, h3]; exact ⟨rfl, rfl⟩
  obtain ⟨h1, h2, h3, h4, h5, h6⟩ := pl_rows i hi
  obtain ⟨a1, a2⟩ := a i hi
  rw [a1, a2, n136]
  refine ⟨.inl rfl, .inl rfl, by omega, by omega, h5.symm, h6, fun j hj => ?_, fun j hj ne => ?_⟩
  · rw [(a j hj).2]; omega
  · rw [(a j hj).1, (a j hj).2]; omega
end
