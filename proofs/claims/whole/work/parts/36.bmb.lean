-- 137 XModel.leafFor
set_option maxRecDepth 100000 in
set_option maxHeartbeats 4000000 in
theorem xb137 (l0 : Nat) (l1 : Int32) (h : xH) : xM 137 [.ref l0, .int l1] h = (xfR h l0 5 0).bind fun v1 => (xri h 0 v1 304).bind fun v2 => xE 137 9 [some (.ref l0), some (.int l1), some (.int v2), none, none, none, none, none] [] h := (xB [9, 28, 106, 110] 500 137 0 [some (.ref l0), some (.int l1), none, none, none, none, none, none] [] h).trans rfl
set_option maxRecDepth 100000 in
set_option maxHeartbeats 4000000 in
theorem xb137_9 (l0 : Nat) (l1 : Int32) (l2 : Int32) (l3 : Option Value) (l4 : Option Value) (l5 : Option Value) (l6 : Option Value) (l7 : Option Value) (h : xH) : xE 137 9 [some (.ref l0), some (.int l1), some (.int l2), l3, l4, l5, l6, l7] [] h = xgu h l0 5 (xcI (xM 127 [.ref l0, .int l2, .int 1] h) fun v2 h1 => 
  if v2 = 0 then (xgu h1 l0 5 (xcI (xM 127 [.ref l0, .int l2, .int 5] h1) fun v4 h3 => xE 137 28 [some (.ref l0), some (.int l1), some (.int l2), some (.int v4), some (.int 1), l5, l6, l7] [] h3))
  else (some (some (.int l2), h1))) := (xB [9, 28, 106, 110] 500 137 9 [some (.ref l0), some (.int l1), some (.int l2), l3, l4, l5, l6, l7] [] h).trans rfl
set_option maxRecDepth 100000 in
set_option maxHeartbeats 4000000 in
theorem xb137_28 (l0 : Nat) (l1 : Int32) (l2 : Int32) (l3 : Int32) (l4 : Int32) (l5 : Option Value) (l6 : Option Value) (l7 : Option Value) (h : xH) : xE 137 28 [some (.ref l0), some (.int l1), some (.int l2), some (.int l3), some (.int l4), l5, l6, l7] [] h = xgu h l0 5 (xcI (xM 127 [.ref l0, .int l2, .int 2] h) fun v2 h1 => 
  if l4 < v2 then (xgu h1 l0 5 (xcI (xM 127 [.ref l0, .int l2, .int (5 + l4)] h1) fun v4 h3 => xgu h3 l0 5 (xcI (xM 127 [.ref l0, .int v4, .int 4] h3) fun v6 h5 => xcI (xM 136 [.int v6, .int l1] h5) fun v8 h7 => xgu h7 l0 5 (xcI (xM 127 [.ref l0, .int l3, .int 4] h7) fun v10 h9 => xcI (xM 136 [.int v10, .int l1] h9) fun v12 h11 => 
  if (v8 - v12) < 0 then (xE 137 106 [some (.ref l0), some (.int l1), some (.int l2), some (.int l3), some (.int l4), some (.int v4), some (.int (v8 - v12)), l7] [] h11)
  else (
  if (v8 - v12) = 0 then (xgu h11 l0 5 (xcI (xM 127 [.ref l0, .int v4, .int 4] h11) fun v14 h13 => xcI (xM 112 [.int v14] h13) fun v16 h15 => xgu h15 l0 5 (xcI (xM 127 [.ref l0, .int l3, .int 4] h15) fun v18 h17 => xcI (xM 112 [.int v18] h17) fun v20 h19 => 
  if v16 < v20 then (xE 137 106 [some (.ref l0), some (.int l1), some (.int l2), some (.int l3), some (.int l4), some (.int v4), some (.int (v8 - v12)), l7] [] h19)
  else (xE 137 110 [some (.ref l0), some (.int l1), some (.int l2), some (.int l3), some (.int l4), some (.int v4), some (.int (v8 - v12)), l7] [] h19))))
  else (xE 137 110 [some (.ref l0), some (.int l1), some (.int l2), some (.int l3), some (.int l4), some (.int v4), some (.int (v8 - v12)), l7] [] h11))))))
  else (xE 137 9 [some (.ref l0), some (.int l1), some (.int l3), some (.int l3), some (.int l4), l5, l6, l7] [] h1)) := (xB [9, 28, 106, 110] 500 137 28 [some (.ref l0), some (.int l1), some (.int l2), some (.int l3), some (.int l4), l5, l6, l7] [] h).trans rfl
set_option maxRecDepth 100000 in
set_option maxHeartbeats 4000000 in
theorem xb137_106 (l0 : Nat) (l1 : Int32) (l2 : Int32) (l3 : Int32) (l4 : Int32) (l5 : Int32) (l6 : Int32) (l7 : Option Value) (h : xH) : xE 137 106 [some (.ref l0), some (.int l1), some (.int l2), some (.int l3), some (.int l4), some (.int l5), some (.int l6), l7] [] h = 
  if 1 = 0 then (xE 137 28 [some (.ref l0), some (.int l1), some (.int l2), some (.int l3), some (.int (l4 + 1)), some (.int l5), some (.int l6), some (.int 1)] [] h)
  else (xE 137 28 [some (.ref l0), some (.int l1), some (.int l2), some (.int l5), some (.int (l4 + 1)), some (.int l5), some (.int l6), some (.int 1)] [] h) := (xB [9, 28, 106, 110] 500 137 106 [some (.ref l0), some (.int l1), some (.int l2), some (.int l3), some (.int l4), some (.int l5), some (.int l6), l7] [] h).trans rfl
set_option maxRecDepth 100000 in
set_option maxHeartbeats 4000000 in
theorem xb137_110 (l0 : Nat) (l1 : Int32) (l2 : Int32) (l3 : Int32) (l4 : Int32) (l5 : Int32) (l6 : Int32) (l7 : Option Value) (h : xH) : xE 137 110 [some (.ref l0), some (.int l1), some (.int l2), some (.int l3), some (.int l4), some (.int l5), some (.int l6), l7] [] h = 
  if 0 = 0 then (xE 137 28 [some (.ref l0), some (.int l1), some (.int l2), some (.int l3), some (.int (l4 + 1)), some (.int l5), some (.int l6), some (.int 0)] [] h)
  else (xE 137 28 [some (.ref l0), some (.int l1), some (.int l2), some (.int l5), some (.int (l4 + 1)), some (.int l5), some (.int l6), some (.int 0)] [] h) := (xB [9, 28, 106, 110] 500 137 110 [some (.ref l0), some (.int l1), some (.int l2), some (.int l3), some (.int l4), some (.int l5), some (.int l6), l7] [] h).trans rfl
-- 138 XModel.seeds
set_option maxRecDepth 100000 in
set_option maxHeartbeats 4000000 in
theorem xb138 (l0 : Nat) (l1 : Int32) (h : xH) : xM 138 [.ref l0, .int l1] h = xE 138 7 [some (.ref l0), some (.int l1), some (.int 1), some (.int 0), some (.int 0), none, none] [] h := (xB [7, 19, 71] 500 138 0 [some (.ref l0), some (.int l1), none, none, none, none, none] [] h).trans rfl
set_option maxRecDepth 100000 in
set_option maxHeartbeats 4000000 in
theorem xb138_7 (l0 : Nat) (l1 : Int32) (l2 : Int32) (l3 : Int32) (l4 : Int32) (l5 : Option Value) (l6 : Option Value) (h : xH) : xE 138 7 [some (.ref l0), some (.int l1), some (.int l2), some (.int l3), some (.int l4), l5, l6] [] h = 
  if l4 < 5 then (xE 138 19 [some (.ref l0), some (.int l1), some (.int l2), some (.int l3), some (.int l4), some (.int (l4 + 1)), l6] [] h)
  else (some (some (.int l2), h)) := (xB [7, 19, 71] 500 138 7 [some (.ref l0), some (.int l1), some (.int l2), some (.int l3), some (.int l4), l5, l6] [] h).trans rfl
set_option maxRecDepth 100000 in
set_option maxHeartbeats 4000000 in
theorem xb138_19 (l0 : Nat) (l1 : Int32) (l2 : Int32) (l3 : Int32) (l4 : Int32) (l5 : Int32) (l6 : Option Value) (h : xH) : xE 138 19 [some (.ref l0), some (.int l1), some (.int l2), some (.int l3), some (.int l4), some (.int l5), l6] [] h = 
  if l5 < 5 then ((xfR h l0 5 7).bind fun v1 => (xri h 0 v1 l4).bind fun v2 => xgu h l0 5 (xcI (xM 129 [.ref l0, .int l1, .int v2] h) fun v4 h3 => (xfR h3 l0 5 7).bind fun v5 => (xri h3 0 v5 l5).bind fun v6 => xgu h3 l0 5 (xcI (xM 129 [.ref l0, .int l1, .int v6] h3) fun v8 h7 => xcI (xM 117 [.int v4, .int v8] h7) fun v10 h9 => 
  if l4 = 0 then (
  if l5 = 1 then (xE 138 71 [some (.ref l0), some (.int l1), some (.int l2), some (.int l3), some (.int l4), some (.int l5), some (.int v10)] [] h9)
  else (
  if l3 < v10 then (xE 138 71 [some (.ref l0), some (.int l1), some (.int l2), some (.int l3), some (.int l4), some (.int l5), some (.int v10)] [] h9)
  else (xE 138 19 [some (.ref l0), some (.int l1), some (.int l2), some (.int l3), some (.int l4), some (.int (l5 + 1)), some (.int v10)] [] h9)))
  else (
  if l3 < v10 then (xE 138 71 [some (.ref l0), some (.int l1), some (.int l2), some (.int l3), some (.int l4), some (.int l5), some (.int v10)] [] h9)
  else (xE 138 19 [some (.ref l0), some (.int l1), some (.int l2), some (.int l3), some (.int l4), some (.int (l5 + 1)), some (.int v10)] [] h9)))))
  else (xE 138 7 [some (.ref l0), some (.int l1), some (.int l2), some (.int l3), some (.int (l4 + 1)), some (.int l5), l6] [] h) := (xB [7, 19, 71] 500 138 19 [some (.ref l0), some (.int l1), some (.int l2), some (.int l3), some (.int l4), some (.int l5), l6] [] h).trans rfl
set_option maxRecDepth 100000 in
set_option maxHeartbeats 4000000 in
theorem xb138_71 (l0 : Nat) (l1 : Int32) (l2 : Int32) (l3 : Int32) (l4 : Int32) (l5 : Int32) (l6 : Int32) (h : xH) : xE 138 71 [some (.ref l0), some (.int l1), some (.int l2), some (.int l3), some (.int l4), some (.int l5), some (.int l6)] [] h = xE 138 19 [some (.ref l0), some (.int l1), some (.int ((5 * l4) + l5)), some (.int l6), some (.int l4), some (.int (l5 + 1)), some (.int l6)] [] h := (xB [7, 19, 71] 500 138 71 [some (.ref l0), some (.int l1), some (.int l2), some (.int l3), some (.int l4), some (.int l5), some (.int l6)] [] h).trans rfl
-- 139 XModel.comesToFirst
set_option maxRecDepth 100000 in
set_option maxHeartbeats 4000000 in
theorem xb139 (l0 : Nat) (l1 : Int32) (l2 : Int32) (l3 : Int32) (l4 : Int32) (h : xH) : xM 139 [.ref l0, .int l1, .int l2, .int l3, .int l4] h = xgu h l0 5 (xcI (xM 127 [.ref l0, .int l1, .int 2] h) fun v2 h1 => 
  if 2 < (v2 + l4) then (xgu h1 l0 5 (xcI (xM 127 [.ref l0, .int l2, .int 2] h1) fun v4 h3 => 
  if 2 < (v4 + l4) then (xgu h3 l0 5 (xcI (xM 127 [.ref l0, .int l1, .int 4] h3) fun v6 h5 => xgu h5 l0 5 (xcI (xM 127 [.ref l0, .int l2, .int 4] h5) fun v8 h7 => xcI (xM 136 [.int v6, .int l3] h7) fun v10 h9 => xcI (xM 136 [.int v8, .int l3] h9) fun v12 h11 => 
  if (v10 - v12) = 0 then (xcI (xM 112 [.int v6] h11) fun v14 h13 => xcI (xM 112 [.int v8] h13) fun v16 h15 => 
  if (v14 - v16) = 0 then (xgu h15 l0 5 (xcI (xM 127 [.ref l0, .int l1, .int 2] h15) fun v18 h17 => xgu h17 l0 5 (xcI (xM 127 [.ref l0, .int l2, .int 2] h17) fun v20 h19 => 
  if 0 < (v18 - v20) then (some (some (.int 0), h19))
  else (some (some (.int 1), h19)))))
  else (
  if 0 < (v14 - v16) then (some (some (.int 0), h15))
  else (some (some (.int 1), h15))))
  else (
  if (v10 - v12) = 0 then (xgu h11 l0 5 (xcI (xM 127 [.ref l0, .int l1, .int 2] h11) fun v22 h21 => xgu h21 l0 5 (xcI (xM 127 [.ref l0, .int l2, .int 2] h21) fun v24 h23 => 
  if 0 < (v22 - v24) then (some (some (.int 0), h23))
  else (some (some (.int 1), h23)))))
  else (
  if 0 < (v10 - v12) then (some (some (.int 0), h11))
  else (some (some (.int 1), h11)))))))
  else (xE 139 26 [some (.ref l0), some (.int l1), some (.int l2), some (.int l3), some (.int l4), none, none, none] [] h3)))
  else (xE 139 26 [some (.ref l0), some (.int l1), some (.int l2), some (.int l3), some (.int l4), none, none, none] [] h1)) := (xB [26] 500 139 0 [some (.ref l0), some (.int l1), some (.int l2), some (.int l3), some (.int l4), none, none, none] [] h).trans rfl
set_option maxRecDepth 100000 in
set_option maxHeartbeats 4000000 in
theorem xb139_26 (l0 : Nat) (l1 : Int32) (l2 : Int32) (l3 : Int32) (l4 : Int32) (h : xH) : xE 139 26 [some (.ref l0), some (.int l1), some (.int l2), some (.int l3), some (.int l4), none, none, none] [] h = xgu h l0 5 (xcI (xM 127 [.ref l0, .int l1, .int 2] h) fun v2 h1 => 
  if 2 < (v2 + l4) then (some (some (.int 0), h1))
  else (some (some (.int 1), h1))) := (xB [26] 500 139 26 [some (.ref l0), some (.int l1), some (.int l2), some (.int l3), some (.int l4), none, none, none] [] h).trans rfl
-- 140 XModel.halves
set_option maxRecDepth 100000 in
set_option maxHeartbeats 4000000 in
theorem xb140 (l0 : Nat) (l1 : Int32) (h : xH) : xM 140 [.ref l0, .int l1] h = xE 140 2 [some (.ref l0), some (.int l1), some (.int 0), none, none, none, none, none] [] h := (xB [2, 95] 500 140 0 [some (.ref l0), some (.int l1), none, none, none, none, none, none] [] h).trans rfl
set_option maxRecDepth 100000 in
set_option maxHeartbeats 4000000 in
theorem xb140_2 (l0 : Nat) (l1 : Int32) (l2 : Int32) (h : xH) : xE 140 2 [some (.ref l0), some (.int l1), some (.int l2), none, none, none, none, none] [] h = 
  if l2 < 5 then ((xfR h l0 5 7).bind fun v1 => xgu h l0 5 (xcI (xM 127 [.ref l0, .int l1, .int (5 + l2)] h) fun v3 h2 => (xwi h2 0 v1 l2 v3).bind fun h4 => xE 140 2 [some (.ref l0), some (.int l1), some (.int (l2 + 1)), none, none, none, none, none] [] h4))
  else (xgu h l0 5 (xcI (xM 138 [.ref l0, .int l1] h) fun v6 h5 => xgu h5 l0 5 (xcI (xM 127 [.ref l0, .int l1, .int 1] h5) fun v8 h7 => xgu h7 l0 5 (xcI (xM 132 [.ref l0, .int v8] h7) fun v10 h9 => xgu h9 l0 5 (xcV (xM 128 [.ref l0, .int l1, .int 2, .int 0] h9) fun h11 => (xfR h11 l0 5 7).bind fun v12 => (xri h11 0 v12 (v6 / 5)).bind fun v13 => xgu h11 l0 5 (xcV (xM 133 [.ref l0, .int l1, .int 0, .int v13] h11) fun h14 => (xfR h14 l0 5 7).bind fun v15 => (xri h14 0 v15 (v6 - v6 / 5 * 5)).bind fun v16 => xgu h14 l0 5 (xcV (xM 133 [.ref l0, .int v10, .int 0, .int v16] h14) fun h17 => xgu h17 l0 5 (xcV (xM 130 [.ref l0, .int l1] h17) fun h18 => xgu h18 l0 5 (xcV (xM 130 [.ref l0, .int v10] h18) fun h19 => xE 140 95 [some (.ref l0), some (.int l1), some (.int v6), some (.int v10), some (.int 3), some (.int 0), none, none] [] h19))))))))) := (xB [2, 95] 500 140 2 [some (.ref l0), some (.int l1), some (.int l2), none, none, none, none, none] [] h).trans rfl
set_option maxRecDepth 100000 in
set_option maxHeartbeats 4000000 in
theorem xb140_95 (l0 : Nat) (l1 : Int32) (l2 : Int32) (l3 : Int32) (l4 : Int32) (l5 : Int32) (l6 : Option Value) (l7 : Option Value) (h : xH) : xE 140 95 [some (.ref l0), some (.int l1), some (.int l2), some (.int l3), some (.int l4), some (.int l5), l6, l7] [] h = 
  if l5 < 5 then (
  if l5 = (l2 / 5) then (xE 140 95 [some (.ref l0), some (.int l1), some (.int l2), some (.int l3), some (.int l4), some (.int (l5 + 1)), l6, l7] [] h)
  else (
  if l5 = (l2 - l2 / 5 * 5) then (xE 140 95 [some (.ref l0), some (.int l1), some (.int l2), some (.int l3), some (.int l4), some (.int (l5 + 1)), l6, l7] [] h)
  else ((xfR h l0 5 7).bind fun v1 => (xri h 0 v1 l5).bind fun v2 => xgu h l0 5 (xcI (xM 129 [.ref l0, .int l1, .int v2] h) fun v4 h3 => xgu h3 l0 5 (xcI (xM 139 [.ref l0, .int l1, .int l3, .int v4, .int l4] h3) fun v6 h5 => 
  if v6 = 0 then (xgu h5 l0 5 (xcI (xM 127 [.ref l0, .int l3, .int 2] h5) fun v8 h7 => (xfR h7 l0 5 7).bind fun v9 => (xri h7 0 v9 l5).bind fun v10 => xgu h7 l0 5 (xcV (xM 133 [.ref l0, .int l3, .int v8, .int v10] h7) fun h11 => xgu h11 l0 5 (xcV (xM 130 [.ref l0, .int l3] h11) fun h12 => xE 140 95 [some (.ref l0), some (.int l1), some (.int l2), some (.int l3), some (.int (l4 + (-1))), some (.int (l5 + 1)), some (.int v6), some (.int l3)] [] h12))))
  else (xgu h5 l0 5 (xcI (xM 127 [.ref l0, .int l1, .int 2] h5) fun v14 h13 => (xfR h13 l0 5 7).bind fun v15 => (xri h13 0 v15 l5).bind fun v16 => xgu h13 l0 5 (xcV (xM 133 [.ref l0, .int l1, .int v14, .int v16] h13) fun h17 => xgu h17 l0 5 (xcV (xM 130 [.ref l0, .int l1] h17) fun h18 => xE 140 95 [some (.ref l0), some (.int l1), some (.int l2), some (.int l3), some (.int (l4 + (-1))), some (.int (l5 + 1)), some (.int v6), some (.int l1)] [] h18)))))))))
  else (some (some (.int l3), h)) := (xB [2, 95] 500 140 95 [some (.ref l0), some (.int l1), some (.int l2), some (.int l3), some (.int l4), some (.int l5), l6, l7] [] h).trans rfl
-- 141 XModel.splitsUp
set_option maxRecDepth 100000 in
set_option maxHeartbeats 4000000 in
theorem xb141 (l0 : Nat) (l1 : Int32) (h : xH) : xM 141 [.ref l0, .int l1] h = xE 141 2 [some (.ref l0), some (.int l1), some (.int l1), none, none] [] h := (xB [2] 500 141 0 [some (.ref l0), some (.int l1), none, none, none] [] h).trans rfl
set_option maxRecDepth 100000 in
set_option maxHeartbeats 4000000 in
theorem xb141_2 (l0 : Nat) (l1 : Int32) (l2 : Int32) (l3 : Option Value) (l4 : Option Value) (h : xH) : xE 141 2 [some (.ref l0), some (.int l1), some (.int l2), l3, l4] [] h = 
  if l2 = (-1) then (some (none, h))
  else (xgu h l0 5 (xcI (xM 127 [.ref l0, .int l2, .int 2] h) fun v2 h1 => 
  if v2 = 5 then (xgu h1 l0 5 (xcI (xM 140 [.ref l0, .int l2] h1) fun v4 h3 => xgu h3 l0 5 (xcI (xM 127 [.ref l0, .int l2, .int 3] h3) fun v6 h5 => 
  if v6 = (-1) then (xgu h5 l0 5 (xcI (xM 132 [.ref l0, .int 0] h5) fun v8 h7 => (xfR h7 l0 5 0).bind fun v9 => (xwi h7 0 v9 304 v8).bind fun h10 => xgu h10 l0 5 (xcV (xM 133 [.ref l0, .int v8, .int 0, .int l2] h10) fun h11 => xgu h11 l0 5 (xcV (xM 133 [.ref l0, .int v8, .int 1, .int v4] h11) fun h12 => xgu h12 l0 5 (xcV (xM 130 [.ref l0, .int v8] h12) fun h13 => some (none, h13))))))
  else (xgu h5 l0 5 (xcI (xM 134 [.ref l0, .int v6, .int l2] h5) fun v15 h14 => xgu h14 l0 5 (xcV (xM 133 [.ref l0, .int v6, .int (v15 + 1), .int v4] h14) fun h16 => xgu h16 l0 5 (xcV (xM 131 [.ref l0, .int v6] h16) fun h17 => xE 141 2 [some (.ref l0), some (.int l1), some (.int v6), some (.int v4), some (.int v6)] [] h17)))))))
  else (some (none, h1)))) := (xB [2] 500 141 2 [some (.ref l0), some (.int l1), some (.int l2), l3, l4] [] h).trans rfl
-- 142 XModel.shapeComes
set_option maxRecDepth 100000 in
set_option maxHeartbeats 4000000 in
theorem xb142 (l0 : Nat) (l1 : Int32) (h : xH) : xM 142 [.ref l0, .int l1] h = xgu h l0 5 (xcI (xM 119 [.ref l0, .int l1, .int 1] h) fun v2 h1 => xgu h1 l0 5 (xcI (xM 137 [.ref l0, .int v2] h1) fun v4 h3 => xgu h3 l0 5 (xcI (xM 127 [.ref l0, .int v4, .int 2] h3) fun v6 h5 => xgu h5 l0 5 (xcV (xM 133 [.ref l0, .int v4, .int v6, .int l1] h5) fun h7 => xgu h7 l0 5 (xcV (xM 131 [.ref l0, .int v4] h7) fun h8 => xgu h8 l0 5 (xcV (xM 141 [.ref l0, .int v4] h8) fun h9 => some (none, h9))))))) := (xB [] 500 142 0 [some (.ref l0), some (.int l1), none] [] h).trans rfl
-- 143 XModel.walks
set_option maxRecDepth 100000 in
set_option maxHeartbeats 4000000 in
theorem xb143 (l0 : Nat) (l1 : Int32) (h : xH) : xM 143 [.ref l0, .int l1] h = (xpf h l0 5 12 (.int 0)).bind fun h1 => (xpf h1 l0 5 14 (.int 0)).bind fun h2 => (xfR h2 l0 5 8).bind fun v3 => (xwi h2 0 v3 0 l1).bind fun h4 => (xfR h4 l0 5 9).bind fun v5 => (xwi h4 0 v5 0 0).bind fun h6 => xE 143 26 [some (.ref l0), some (.int l1), some (.int 1), none, none, none, none] [] h6 := (xB [26, 90, 147] 500 143 0 [some (.ref l0), some (.int l1), none, none, none, none, none] [] h).trans rfl
set_option maxRecDepth 100000 in
set_option maxHeartbeats 4000000 in
theorem xb143_26 (l0 : Nat) (l1 : Int32) (l2 : Int32) (l3 : Option Value) (l4 : Option Value) (l5 : Option Value) (l6 : Option Value) (h : xH) : xE 143 26 [some (.ref l0), some (.int l1), some (.int l2), l3, l4, l5, l6] [] h = 
  if 0 < l2 then ((xfR h l0 5 8).bind fun v1 => (xri h 0 v1 (l2 + (-1))).bind fun v2 => (xfR h l0 5 9).bind fun v3 => (xri h 0 v3 (l2 + (-1))).bind fun v4 => (xfR h l0 5 10).bind fun v5 => (xfI h l0 5 12).bind fun v6 => (xwi h 0 v5 v6 v2).bind fun h7 => (xfR h7 l0 5 11).bind fun v8 => (xfI h7 l0 5 12).bind fun v9 => (xwi h7 0 v8 v9 v4).bind fun h10 => (xfI h10 l0 5 12).bind fun v11 => (xpf h10 l0 5 12 (.int (v11 + 1))).bind fun h12 => xgu h12 l0 5 (xcI (xM 127 [.ref l0, .int v2, .int 2] h12) fun v14 h13 => xE 143 90 [some (.ref l0), some (.int l1), some (.int (l2 + (-1))), some (.int v2), some (.int v4), some (.int v14), some (.int 0)] [] h13))
  else (some (none, h)) := (xB [26, 90, 147] 500 143 26 [some (.ref l0), some (.int l1), some (.int l2), l3, l4, l5, l6] [] h).trans rfl
set_option maxRecDepth 100000 in
set_option maxHeartbeats 4000000 in
theorem xb143_90 (l0 : Nat) (l1 : Int32) (l2 : Int32) (l3 : Int32) (l4 : Int32) (l5 : Int32) (l6 : Int32) (h : xH) : xE 143 90 [some (.ref l0), some (.int l1), some (.int l2), some (.int l3), some (.int l4), some (.int l5), some (.int l6)] [] h = 
  if l6 < l5 then (xgu h l0 5 (xcI (xM 127 [.ref l0, .int l3, .int 1] h) fun v2 h1 => 
  if v2 = 1 then ((xfR h1 l0 5 13).bind fun v3 => (xfI h1 l0 5 14).bind fun v4 => xgu h1 l0 5 (xcI (xM 127 [.ref l0, .int l3, .int (5 + l6)] h1) fun v6 h5 => (xwi h5 0 v3 v4 v6).bind fun h7 => (xfI h7 l0 5 14).bind fun v8 => (xpf h7 l0 5 14 (.int (v8 + 1))).bind fun h9 => xE 143 90 [some (.ref l0), some (.int l1), some (.int l2), some (.int l3), some (.int l4), some (.int l5), some (.int (l6 + 1))] [] h9))
  else (xE 143 147 [some (.ref l0), some (.int l1), some (.int l2), some (.int l3), some (.int l4), some (.int l5), some (.int (l5 - 1))] [] h1)))
  else (xE 143 147 [some (.ref l0), some (.int l1), some (.int l2), some (.int l3), some (.int l4), some (.int l5), some (.int (l5 - 1))] [] h) := (xB [26, 90, 147] 500 143 90 [some (.ref l0), some (.int l1), some (.int l2), some (.int l3), some (.int l4), some (.int l5), some (.int l6)] [] h).trans rfl
set_option maxRecDepth 100000 in
set_option maxHeartbeats 4000000 in
theorem xb143_147 (l0 : Nat) (l1 : Int32) (l2 : Int32) (l3 : Int32) (l4 : Int32) (l5 : Int32) (l6 : Int32) (h : xH) : xE 143 147 [some (.ref l0), some (.int l1), some (.int l2), some (.int l3), some (.int l4), some (.int l5), some (.int l6)] [] h = 
  if l6 < 0 then (xE 143 26 [some (.ref l0), some (.int l1), some (.int l2), some (.int l3), some (.int l4), some (.int l5), some (.int l6)] [] h)
  else (xgu h l0 5 (xcI (xM 127 [.ref l0, .int l3, .int 1] h) fun v2 h1 => 
  if v2 = 0 then ((xfR h1 l0 5 8).bind fun v3 => xgu h1 l0 5 (xcI (xM 127 [.ref l0, .int l3, .int (5 + l6)] h1) fun v5 h4 => (xwi h4 0 v3 l2 v5).bind fun h6 => (xfR h6 l0 5 9).bind fun v7 => (xwi h6 0 v7 l2 (l4 + 1)).bind fun h8 => xE 143 147 [some (.ref l0), some (.int l1), some (.int (l2 + 1)), some (.int l3), some (.int l4), some (.int l5), some (.int (l6 + (-1)))] [] h8))
  else (xE 143 26 [some (.ref l0), some (.int l1), some (.int l2), some (.int l3), some (.int l4), some (.int l5), some (.int l6)] [] h1))) := (xB [26, 90, 147] 500 143 147 [some (.ref l0), some (.int l1), some (.int l2), some (.int l3), some (.int l4), some (.int l5), some (.int l6)] [] h).trans rfl
-- 144 XModel.givesUp
set_option maxRecDepth 100000 in
set_option maxHeartbeats 4000000 in
theorem xb144 (l0 : Nat) (l1 : Int32) (h : xH) : xM 144 [.ref l0, .int l1] h = xgu h l0 5 (xcV (xM 143 [.ref l0, .int l1] h) fun h1 => xE 144 7 [some (.ref l0), some (.int l1), some (.int 0)] [] h1) := (xB [7, 48] 500 144 0 [some (.ref l0), some (.int l1), none] [] h).trans rfl
set_option maxRecDepth 100000 in
set_option maxHeartbeats 4000000 in
theorem xb144_7 (l0 : Nat) (l1 : Int32) (l2 : Int32) (h : xH) : xE 144 7 [some (.ref l0), some (.int l1), some (.int l2)] [] h = (xfI h l0 5 14).bind fun v1 => 
  if l2 < v1 then ((xfR h l0 5 15).bind fun v2 => (xfI h l0 5 16).bind fun v3 => (xfR h l0 5 13).bind fun v4 => (xri h 0 v4 l2).bind fun v5 => (xwi h 0 v2 v3 v5).bind fun h6 => (xfI h6 l0 5 16).bind fun v7 => (xpf h6 l0 5 16 (.int (v7 + 1))).bind fun h8 => xE 144 7 [some (.ref l0), some (.int l1), some (.int (l2 + 1))] [] h8)
  else (xE 144 48 [some (.ref l0), some (.int l1), some (.int 0)] [] h) := (xB [7, 48] 500 144 7 [some (.ref l0), some (.int l1), some (.int l2)] [] h).trans rfl
set_option maxRecDepth 100000 in
set_option maxHeartbeats 4000000 in
theorem xb144_48 (l0 : Nat) (l1 : Int32) (l2 : Int32) (h : xH) : xE 144 48 [some (.ref l0), some (.int l1), some (.int l2)] [] h = (xfI h l0 5 12).bind fun v1 => 
  if l2 < v1 then ((xfR h l0 5 10).bind fun v2 => (xri h 0 v2 l2).bind fun v3 => xgu h l0 5 (xcV (xM 128 [.ref l0, .int v3, .int 0, .int 0] h) fun h4 => xE 144 48 [some (.ref l0), some (.int l1), some (.int (l2 + 1))] [] h4))
  else (some (none, h)) := (xB [7, 48] 500 144 48 [some (.ref l0), some (.int l1), some (.int l2)] [] h).trans rfl
-- 145 XModel.leafOf
set_option maxRecDepth 100000 in
set_option maxHeartbeats 4000000 in
theorem xb145 (l0 : Nat) (l1 : Int32) (h : xH) : xM 145 [.ref l0, .int l1] h = xE 145 4 [some (.ref l0), some (.int l1), some (.int (-1)), some (.int 0), none] [] h := (xB [4, 49] 500 145 0 [some (.ref l0), some (.int l1), none, none, none] [] h).trans rfl
set_option maxRecDepth 100000 in
set_option maxHeartbeats 4000000 in
theorem xb145_4 (l0 : Nat) (l1 : Int32) (l2 : Int32) (l3 : Int32) (l4 : Option Value) (h : xH) : xE 145 4 [some (.ref l0), some (.int l1), some (.int l2), some (.int l3), l4] [] h = 
  if l3 < 24 then (xgu h l0 5 (xcI (xM 127 [.ref l0, .int l3, .int 0] h) fun v2 h1 => 
  if v2 = 1 then (xgu h1 l0 5 (xcI (xM 127 [.ref l0, .int l3, .int 1] h1) fun v4 h3 => 
  if v4 = 1 then (xgu h3 l0 5 (xcI (xM 134 [.ref l0, .int l3, .int l1] h3) fun v6 h5 => xgu h5 l0 5 (xcI (xM 127 [.ref l0, .int l3, .int 2] h5) fun v8 h7 => 
  if v6 < v8 then (
  if 1 = 0 then (xE 145 4 [some (.ref l0), some (.int l1), some (.int l2), some (.int (l3 + 1)), some (.int 1)] [] h7)
  else (xE 145 4 [some (.ref l0), some (.int l1), some (.int l3), some (.int (l3 + 1)), some (.int 1)] [] h7))
  else (xE 145 49 [some (.ref l0), some (.int l1), some (.int l2), some (.int l3), l4] [] h7))))
  else (xE 145 49 [some (.ref l0), some (.int l1), some (.int l2), some (.int l3), l4] [] h3)))
  else (xE 145 49 [some (.ref l0), some (.int l1), some (.int l2), some (.int l3), l4] [] h1)))
  else (some (some (.int l2), h)) := (xB [4, 49] 500 145 4 [some (.ref l0), some (.int l1), some (.int l2), some (.int l3), l4] [] h).trans rfl
set_option maxRecDepth 100000 in
set_option maxHeartbeats 4000000 in
theorem xb145_49 (l0 : Nat) (l1 : Int32) (l2 : Int32) (l3 : Int32) (l4 : Option Value) (h : xH) : xE 145 49 [some (.ref l0), some (.int l1), some (.int l2), some (.int l3), l4] [] h = 
  if 0 = 0 then (xE 145 4 [some (.ref l0), some (.int l1), some (.int l2), some (.int (l3 + 1)), some (.int 0)] [] h)
  else (xE 145 4 [some (.ref l0), some (.int l1), some (.int l3), some (.int (l3 + 1)), some (.int 0)] [] h) := (xB [4, 49] 500 145 49 [some (.ref l0), some (.int l1), some (.int l2), some (.int l3), l4] [] h).trans rfl
-- 146 XModel.shapeGoes
set_option maxRecDepth 100000 in
set_option maxHeartbeats 4000000 in
theorem xb146 (l0 : Nat) (l1 : Int32) (h : xH) : xM 146 [.ref l0, .int l1] h = xgu h l0 5 (xcI (xM 145 [.ref l0, .int l1] h) fun v2 h1 => xgu h1 l0 5 (xcV (xM 135 [.ref l0, .int v2, .int l1] h1) fun h3 => xgu h3 l0 5 (xcV (xM 131 [.ref l0, .int v2] h3) fun h4 => (xpf h4 l0 5 16 (.int 0)).bind fun h5 => xE 146 22 [some (.ref l0), some (.int l1), some (.int v2), none, none] [] h5))) := (xB [22, 72, 157, 195] 500 146 0 [some (.ref l0), some (.int l1), none, none, none] [] h).trans rfl
set_option maxRecDepth 100000 in
set_option maxHeartbeats 4000000 in
theorem xb146_22 (l0 : Nat) (l1 : Int32) (l2 : Int32) (l3 : Option Value) (h : xH) : xE 146 22 [some (.ref l0), some (.int l1), some (.int l2), l3, none] [] h = (xfR h l0 5 0).bind fun v1 => (xri h 0 v1 304).bind fun v2 => 
  if l2 = v2 then (xE 146 72 [some (.ref l0), some (.int l1), some (.int l2), l3, none] [] h)
  else (xgu h l0 5 (xcI (xM 127 [.ref l0, .int l2, .int 3] h) fun v4 h3 => xgu h3 l0 5 (xcI (xM 127 [.ref l0, .int l2, .int 2] h3) fun v6 h5 => 
  if v6 < 2 then (xgu h5 l0 5 (xcV (xM 135 [.ref l0, .int v4, .int l2] h5) fun h7 => xgu h7 l0 5 (xcV (xM 144 [.ref l0, .int l2] h7) fun h8 => xgu h8 l0 5 (xcV (xM 131 [.ref l0, .int v4] h8) fun h9 => xE 146 22 [some (.ref l0), some (.int l1), some (.int v4), some (.int v4), none] [] h9))))
  else (xE 146 22 [some (.ref l0), some (.int l1), some (.int v4), some (.int v4), none] [] h5)))) := (xB [22, 72, 157, 195] 500 146 22 [some (.ref l0), some (.int l1), some (.int l2), l3, none] [] h).trans rfl
set_option maxRecDepth 100000 in
set_option maxHeartbeats 4000000 in
theorem xb146_72 (l0 : Nat) (l1 : Int32) (l2 : Int32) (l3 : Option Value) (h : xH) : xE 146 72 [some (.ref l0), some (.int l1), some (.int l2), l3, none] [] h = (xfR h l0 5 0).bind fun v1 => (xri h 0 v1 304).bind fun v2 => xgu h l0 5 (xcI (xM 127 [.ref l0, .int v2, .int 1] h) fun v4 h3 => 
  if v4 = 0 then ((xfR h3 l0 5 0).bind fun v5 => (xri h3 0 v5 304).bind fun v6 => xgu h3 l0 5 (xcI (xM 127 [.ref l0, .int v6, .int 2] h3) fun v8 h7 => 
  if v8 = 1 then ((xfR h7 l0 5 0).bind fun v9 => (xri h7 0 v9 304).bind fun v10 => xgu h7 l0 5 (xcV (xM 128 [.ref l0, .int v10, .int 0, .int 0] h7) fun h11 => (xfR h11 l0 5 0).bind fun v12 => (xfR h11 l0 5 0).bind fun v13 => (xri h11 0 v13 304).bind fun v14 => xgu h11 l0 5 (xcI (xM 127 [.ref l0, .int v14, .int 5] h11) fun v16 h15 => (xwi h15 0 v12 304 v16).bind fun h17 => (xfR h17 l0 5 0).bind fun v18 => (xri h17 0 v18 304).bind fun v19 => xgu h17 l0 5 (xcV (xM 128 [.ref l0, .int v19, .int 3, .int (-1)] h17) fun h20 => xE 146 72 [some (.ref l0), some (.int l1), some (.int l2), l3, none] [] h20))))
  else (xE 146 157 [some (.ref l0), some (.int l1), some (.int l2), l3, none] [] h7)))
  else (xE 146 157 [some (.ref l0), some (.int l1), some (.int l2), l3, none] [] h3)) := (xB [22, 72, 157, 195] 500 146 72 [some (.ref l0), some (.int l1), some (.int l2), l3, none] [] h).trans rfl
set_option maxRecDepth 100000 in
set_option maxHeartbeats 4000000 in
theorem xb146_157 (l0 : Nat) (l1 : Int32) (l2 : Int32) (l3 : Option Value) (h : xH) : xE 146 157 [some (.ref l0), some (.int l1), some (.int l2), l3, none] [] h = (xfR h l0 5 0).bind fun v1 => (xri h 0 v1 304).bind fun v2 => xgu h l0 5 (xcI (xM 127 [.ref l0, .int v2, .int 2] h) fun v4 h3 => 
  if v4 = 0 then ((xfR h3 l0 5 0).bind fun v5 => (xri h3 0 v5 304).bind fun v6 => xgu h3 l0 5 (xcV (xM 128 [.ref l0, .int v6, .int 1, .int 1] h3) fun h7 => (xfI h7 l0 5 16).bind fun v8 => xE 146 195 [some (.ref l0), some (.int l1), some (.int l2), some (.int v8), some (.int 0)] [] h7))
  else ((xfI h3 l0 5 16).bind fun v9 => xE 146 195 [some (.ref l0), some (.int l1), some (.int l2), some (.int v9), some (.int 0)] [] h3)) := (xB [22, 72, 157, 195] 500 146 157 [some (.ref l0), some (.int l1), some (.int l2), l3, none] [] h).trans rfl
set_option maxRecDepth 100000 in
set_option maxHeartbeats 4000000 in
theorem xb146_195 (l0 : Nat) (l1 : Int32) (l2 : Int32) (l3 : Int32) (l4 : Int32) (h : xH) : xE 146 195 [some (.ref l0), some (.int l1), some (.int l2), some (.int l3), some (.int l4)] [] h = 
  if l4 < l3 then ((xfR h l0 5 15).bind fun v1 => (xri h 0 v1 l4).bind fun v2 => xgu h l0 5 (xcV (xM 142 [.ref l0, .int v2] h) fun h3 => xE 146 195 [some (.ref l0), some (.int l1), some (.int l2), some (.int l3), some (.int (l4 + 1))] [] h3))
  else (some (none, h)) := (xB [22, 72, 157, 195] 500 146 195 [some (.ref l0), some (.int l1), some (.int l2), some (.int l3), some (.int l4)] [] h).trans rfl
-- 147 XModel.looksAhead
set_option maxRecDepth 100000 in
set_option maxHeartbeats 4000000 in
theorem xb147 (l0 : Nat) (l1 : Int32) (h : xH) : xM 147 [.ref l0, .int l1] h = xE 147 2 [some (.ref l0), some (.int l1), some (.int 0)] [] h := (xB [2] 500 147 0 [some (.ref l0), some (.int l1), none] [] h).trans rfl
set_option maxRecDepth 100000 in
set_option maxHeartbeats 4000000 in
theorem xb147_2 (l0 : Nat) (l1 : Int32) (l2 : Int32) (h : xH) : xE 147 2 [some (.ref l0), some (.int l1), some (.int l2)] [] h = 
  if l2 < 16 then ((xfR h l0 5 18).bind fun v1 => xgu h l0 5 (xcI (xM 120 [.ref l0, .int l2] h) fun v3 h2 => 
  if v3 = 0 then ((xwi h2 1 v1 l2 0).bind fun h4 => (xfR h4 l0 5 17).bind fun v5 => (xfR h4 l0 5 18).bind fun v6 => (xri h4 1 v6 l2).bind fun v7 => 
  if v7 = 0 then ((xwi h4 0 v5 l2 (-1)).bind fun h8 => xE 147 2 [some (.ref l0), some (.int l1), some (.int (l2 + 1))] [] h8)
  else (xgu h4 l0 5 (xcI (xM 122 [.ref l0, .int l2] h4) fun v10 h9 => (xwi h9 0 v5 l2 v10).bind fun h11 => xE 147 2 [some (.ref l0), some (.int l1), some (.int (l2 + 1))] [] h11)))
  else (xgu h2 l0 5 (xcI (xM 123 [.ref l0, .int l2, .int l1] h2) fun v13 h12 => 
  if v13 = 0 then ((xwi h12 1 v1 l2 0).bind fun h14 => (xfR h14 l0 5 17).bind fun v15 => (xfR h14 l0 5 18).bind fun v16 => (xri h14 1 v16 l2).bind fun v17 => 
  if v17 = 0 then ((xwi h14 0 v15 l2 (-1)).bind fun h18 => xE 147 2 [some (.ref l0), some (.int l1), some (.int (l2 + 1))] [] h18)
  else (xgu h14 l0 5 (xcI (xM 122 [.ref l0, .int l2] h14) fun v20 h19 => (xwi h19 0 v15 l2 v20).bind fun h21 => xE 147 2 [some (.ref l0), some (.int l1), some (.int (l2 + 1))] [] h21)))
  else ((xwi h12 1 v1 l2 1).bind fun h22 => (xfR h22 l0 5 17).bind fun v23 => (xfR h22 l0 5 18).bind fun v24 => (xri h22 1 v24 l2).bind fun v25 => 
  if v25 = 0 then ((xwi h22 0 v23 l2 (-1)).bind fun h26 => xE 147 2 [some (.ref l0), some (.int l1), some (.int (l2 + 1))] [] h26)
  else (xgu h22 l0 5 (xcI (xM 122 [.ref l0, .int l2] h22) fun v28 h27 => (xwi h27 0 v23 l2 v28).bind fun h29 => xE 147 2 [some (.ref l0), some (.int l1), some (.int (l2 + 1))] [] h29)))))))
  else (some (none, h)) := (xB [2] 500 147 2 [some (.ref l0), some (.int l1), some (.int l2)] [] h).trans rfl
-- 148 XModel.damageBox
set_option maxRecDepth 100000 in
set_option maxHeartbeats 4000000 in
theorem xb148 (l0 : Nat) (l1 : Int32) (h : xH) : xM 148 [.ref l0, .int l1] h = (xfR h l0 5 0).bind fun v1 => (xri h 0 v1 (306 + l1)).bind fun v2 => some (some (.int v2), h) := (xB [] 500 148 0 [some (.ref l0), some (.int l1)] [] h).trans rfl
-- 149 XModel.merges
set_option maxRecDepth 100000 in
set_option maxHeartbeats 4000000 in
theorem xb149 (l0 : Nat) (h : xH) : xM 149 [.ref l0] h = xE 149 2 [some (.ref l0), some (.int 1), none, none, none, none, none, none, none] [] h := (xB [2, 26, 38, 111, 115, 149] 500 149 0 [some (.ref l0), none, none, none, none, none, none, none, none] [] h).trans rfl
set_option maxRecDepth 100000 in
set_option maxHeartbeats 4000000 in
theorem xb149_2 (l0 : Nat) (l1 : Int32) (l2 : Option Value) (l3 : Option Value) (l4 : Option Value) (l5 : Option Value) (l6 : Option Value) (l7 : Option Value) (l8 : Option Value) (h : xH) : xE 149 2 [some (.ref l0), some (.int l1), l2, l3, l4, l5, l6, l7, l8] [] h = 
  if l1 = 0 then (some (none, h))
  else ((xfR h l0 5 0).bind fun v1 => (xri h 0 v1 305).bind fun v2 => xE 149 26 [some (.ref l0), some (.int l1), some (.int v2), some (.int (-1)), some (.int (-1)), some (.int 0), some (.int 0), l7, l8] [] h) := (xB [2, 26, 38, 111, 115, 149] 500 149 2 [some (.ref l0), some (.int l1), l2, l3, l4, l5, l6, l7, l8] [] h).trans rfl
set_option maxRecDepth 100000 in
set_option maxHeartbeats 4000000 in
theorem xb149_26 (l0 : Nat) (l1 : Int32) (l2 : Int32) (l3 : Int32) (l4 : Int32) (l5 : Int32) (l6 : Int32) (l7 : Option Value) (l8 : Option Value) (h : xH) : xE 149 26 [some (.ref l0), some (.int l1), some (.int l2), some (.int l3), some (.int l4), some (.int l5), some (.int l6), l7, l8] [] h = 
  if l6 < l2 then (xE 149 38 [some (.ref l0), some (.int l1), some (.int l2), some (.int l3), some (.int l4), some (.int l5), some (.int l6), some (.int (l6 + 1)), l8] [] h)
  else (
  if l3 = (-1) then (xE 149 115 [some (.ref l0), some (.int l1), some (.int l2), some (.int l3), some (.int l4), some (.int l5), some (.int l6), l7, l8] [] h)
  else (
  if 0 < l5 then (
  if 4 < l2 then (xE 149 111 [some (.ref l0), some (.int l1), some (.int l2), some (.int l3), some (.int l4), some (.int l5), some (.int l6), l7, l8] [] h)
  else (xE 149 115 [some (.ref l0), some (.int l1), some (.int l2), some (.int l3), some (.int l4), some (.int l5), some (.int l6), l7, l8] [] h))
  else (xE 149 111 [some (.ref l0), some (.int l1), some (.int l2), some (.int l3), some (.int l4), some (.int l5), some (.int l6), l7, l8] [] h))) := (xB [2, 26, 38, 111, 115, 149] 500 149 26 [some (.ref l0), some (.int l1), some (.int l2), some (.int l3), some (.int l4), some (.int l5), some (.int l6), l7, l8] [] h).trans rfl
set_option maxRecDepth 100000 in
set_option maxHeartbeats 4000000 in
theorem xb149_38 (l0 : Nat) (l1 : Int32) (l2 : Int32) (l3 : Int32) (l4 : Int32) (l5 : Int32) (l6 : Int32) (l7 : Int32) (l8 : Option Value) (h : xH) : xE 149 38 [some (.ref l0), some (.int l1), some (.int l2), some (.int l3), some (.int l4), some (.int l5), some (.int l6), some (.int l7), l8] [] h = 
  if l7 < l2 then (xgu h l0 5 (xcI (xM 148 [.ref l0, .int l6] h) fun v2 h1 => xgu h1 l0 5 (xcI (xM 148 [.ref l0, .int l7] h1) fun v4 h3 => xcI (xM 117 [.int v2, .int v4] h3) fun v6 h5 => 
  if l3 = (-1) then (xE 149 38 [some (.ref l0), some (.int l1), some (.int l2), some (.int l6), some (.int l7), some (.int v6), some (.int l6), some (.int (l7 + 1)), some (.int v6)] [] h5)
  else (
  if v6 < l5 then (xE 149 38 [some (.ref l0), some (.int l1), some (.int l2), some (.int l6), some (.int l7), some (.int v6), some (.int l6), some (.int (l7 + 1)), some (.int v6)] [] h5)
  else (xE 149 38 [some (.ref l0), some (.int l1), some (.int l2), some (.int l3), some (.int l4), some (.int l5), some (.int l6), some (.int (l7 + 1)), some (.int v6)] [] h5)))))
  else (xE 149 26 [some (.ref l0), some (.int l1), some (.int l2), some (.int l3), some (.int l4), some (.int l5), some (.int (l6 + 1)), some (.int l7), l8] [] h) := (xB [2, 26, 38, 111, 115, 149] 500 149 38 [some (.ref l0), some (.int l1), some (.int l2), some (.int l3), some (.int l4), some (.int l5), some (.int l6), some (.int l7), l8] [] h).trans rfl
set_option maxRecDepth 100000 in
set_option maxHeartbeats 4000000 in
theorem xb149_111 (l0 : Nat) (l1 : Int32) (l2 : Int32) (l3 : Int32) (l4 : Int32) (l5 : Int32) (l6 : Int32) (l7 : Option Value) (l8 : Option Value) (h : xH) : xE 149 111 [some (.ref l0), some (.int l1), some (.int l2), some (.int l3), some (.int l4), some (.int l5), some (.int l6), l7, l8] [] h = 
  if 1 = 0 then (xE 149 2 [some (.ref l0), some (.int 1), some (.int l2), some (.int l3), some (.int l4), some (.int l5), some (.int l6), l7, l8] [] h)
  else ((xfR h l0 5 0).bind fun v1 => xgu h l0 5 (xcI (xM 148 [.ref l0, .int l3] h) fun v3 h2 => xgu h2 l0 5 (xcI (xM 148 [.ref l0, .int l4] h2) fun v5 h4 => xcI (xM 115 [.int v3, .int v5] h4) fun v7 h6 => (xwi h6 0 v1 (306 + l3) v7).bind fun h8 => xE 149 149 [some (.ref l0), some (.int 1), some (.int l2), some (.int l3), some (.int l4), some (.int l5), some (.int l4), l7, l8] [] h8))) := (xB [2, 26, 38, 111, 115, 149] 500 149 111 [some (.ref l0), some (.int l1), some (.int l2), some (.int l3), some (.int l4), some (.int l5), some (.int l6), l7, l8] [] h).trans rfl
set_option maxRecDepth 100000 in
set_option maxHeartbeats 4000000 in
theorem xb149_115 (l0 : Nat) (l1 : Int32) (l2 : Int32) (l3 : Int32) (l4 : Int32) (l5 : Int32) (l6 : Int32) (l7 : Option Value) (l8 : Option Value) (h : xH) : xE 149 115 [some (.ref l0), some (.int l1), some (.int l2), some (.int l3), some (.int l4), some (.int l5), some (.int l6), l7, l8] [] h = 
  if 0 = 0 then (xE 149 2 [some (.ref l0), some (.int 0), some (.int l2), some (.int l3), some (.int l4), some (.int l5), some (.int l6), l7, l8] [] h)
  else ((xfR h l0 5 0).bind fun v1 => xgu h l0 5 (xcI (xM 148 [.ref l0, .int l3] h) fun v3 h2 => xgu h2 l0 5 (xcI (xM 148 [.ref l0, .int l4] h2) fun v5 h4 => xcI (xM 115 [.int v3, .int v5] h4) fun v7 h6 => (xwi h6 0 v1 (306 + l3) v7).bind fun h8 => xE 149 149 [some (.ref l0), some (.int 0), some (.int l2), some (.int l3), some (.int l4), some (.int l5), some (.int l4), l7, l8] [] h8))) := (xB [2, 26, 38, 111, 115, 149] 500 149 115 [some (.ref l0), some (.int l1), some (.int l2), some (.int l3), some (.int l4), some (.int l5), some (.int l6), l7, l8] [] h).trans rfl
set_option maxRecDepth 100000 in
set_option maxHeartbeats 4000000 in
theorem xb149_149 (l0 : Nat) (l1 : Int32) (l2 : Int32) (l3 : Int32) (l4 : Int32) (l5 : Int32) (l6 : Int32) (l7 : Option Value) (l8 : Option Value) (h : xH) : xE 149 149 [some (.ref l0), some (.int l1), some (.int l2), some (.int l3), some (.int l4), some (.int l5), some (.int l6), l7, l8] [] h = 
  if l6 < (l2 - 1) then ((xfR h l0 5 0).bind fun v1 => xgu h l0 5 (xcI (xM 148 [.ref l0, .int (l6 + 1)] h) fun v3 h2 => (xwi h2 0 v1 (306 + l6) v3).bind fun h4 => xE 149 149 [some (.ref l0), some (.int l1), some (.int l2), some (.int l3), some (.int l4), some (.int l5), some (.int (l6 + 1)), l7, l8] [] h4))
  else ((xfR h l0 5 0).bind fun v5 => (xwi h 0 v5 305 (l2 - 1)).bind fun h6 => xE 149 2 [some (.ref l0), some (.int l1), some (.int l2), some (.int l3), some (.int l4), some (.int l5), some (.int l6), l7, l8] [] h6) := (xB [2, 26, 38, 111, 115, 149] 500 149 149 [some (.ref l0), some (.int l1), some (.int l2), some (.int l3), some (.int l4), some (.int l5), some (.int l6), l7, l8] [] h).trans rfl
-- 150 XModel.damages
set_option maxRecDepth 100000 in
set_option maxHeartbeats 4000000 in
theorem xb150 (l0 : Nat) (l1 : Int32) (h : xH) : xM 150 [.ref l0, .int l1] h = 
  if l1 = (-1) then (xE 150 13 [some (.ref l0), some (.int l1), some (.int 1), some (.int 0)] [] h)
  else (xE 150 13 [some (.ref l0), some (.int l1), some (.int 0), some (.int 0)] [] h) := (xB [13] 500 150 0 [some (.ref l0), some (.int l1), none, none] [] h).trans rfl
set_option maxRecDepth 100000 in
set_option maxHeartbeats 4000000 in
theorem xb150_13 (l0 : Nat) (l1 : Int32) (l2 : Int32) (l3 : Int32) (h : xH) : xE 150 13 [some (.ref l0), some (.int l1), some (.int l2), some (.int l3)] [] h = (xfR h l0 5 0).bind fun v1 => (xri h 0 v1 305).bind fun v2 => 
  if l3 < v2 then (
  if l2 = 0 then (xgu h l0 5 (xcI (xM 148 [.ref l0, .int l3] h) fun v4 h3 => 
  if v4 = l1 then (xE 150 13 [some (.ref l0), some (.int l1), some (.int 1), some (.int (l3 + 1))] [] h3)
  else (xE 150 13 [some (.ref l0), some (.int l1), some (.int 0), some (.int (l3 + 1))] [] h3)))
  else (xE 150 13 [some (.ref l0), some (.int l1), some (.int 1), some (.int (l3 + 1))] [] h))
  else (
  if l2 = 0 then ((xfR h l0 5 0).bind fun v5 => (xfR h l0 5 0).bind fun v6 => (xri h 0 v6 305).bind fun v7 => (xwi h 0 v5 (306 + v7) l1).bind fun h8 => (xfR h8 l0 5 0).bind fun v9 => (xri h8 0 v9 305).bind fun v10 => (xwi h8 0 v9 305 (v10 + 1)).bind fun h11 => xgu h11 l0 5 (xcV (xM 149 [.ref l0] h11) fun h12 => some (none, h12)))
  else (some (none, h))) := (xB [13] 500 150 13 [some (.ref l0), some (.int l1), some (.int l2), some (.int l3)] [] h).trans rfl
-- 151 XModel.looksBehind
set_option maxRecDepth 100000 in
set_option maxHeartbeats 4000000 in
theorem xb151 (l0 : Nat) (h : xH) : xM 151 [.ref l0] h = xE 151 2 [some (.ref l0), some (.int 0)] [] h := (xB [2, 26] 500 151 0 [some (.ref l0), none] [] h).trans rfl
set_option maxRecDepth 100000 in
set_option maxHeartbeats 4000000 in
theorem xb151_2 (l0 : Nat) (l1 : Int32) (h : xH) : xE 151 2 [some (.ref l0), some (.int l1)] [] h = 
  if l1 < 16 then ((xfR h l0 5 17).bind fun v1 => (xri h 0 v1 l1).bind fun v2 => xgu h l0 5 (xcV (xM 150 [.ref l0, .int v2] h) fun h3 => xE 151 2 [some (.ref l0), some (.int (l1 + 1))] [] h3))
  else (xE 151 26 [some (.ref l0), some (.int 0)] [] h) := (xB [2, 26] 500 151 2 [some (.ref l0), some (.int l1)] [] h).trans rfl
set_option maxRecDepth 100000 in
set_option maxHeartbeats 4000000 in
theorem xb151_26 (l0 : Nat) (l1 : Int32) (h : xH) : xE 151 26 [some (.ref l0), some (.int l1)] [] h = 
  if l1 < 16 then ((xfR h l0 5 18).bind fun v1 => (xri h 1 v1 l1).bind fun v2 => 
  if v2 = 0 then (xE 151 26 [some (.ref l0), some (.int (l1 + 1))] [] h)
  else (xgu h l0 5 (xcI (xM 120 [.ref l0, .int l1] h) fun v4 h3 => 
  if v4 = 0 then (xE 151 26 [some (.ref l0), some (.int (l1 + 1))] [] h3)
  else (xgu h3 l0 5 (xcI (xM 122 [.ref l0, .int l1] h3) fun v6 h5 => xgu h5 l0 5 (xcV (xM 150 [.ref l0, .int v6] h5) fun h7 => xE 151 26 [some (.ref l0), some (.int (l1 + 1))] [] h7))))))
  else (some (none, h)) := (xB [2, 26] 500 151 26 [some (.ref l0), some (.int l1)] [] h).trans rfl
-- 152 XModel.nodes
set_option maxRecDepth 100000 in
set_option maxHeartbeats 4000000 in
theorem xb152 (l0 : Nat) (h : xH) : xM 152 [.ref l0] h = xE 152 4 [some (.ref l0), some (.int 0), some (.int 0)] [] h := (xB [4] 500 152 0 [some (.ref l0), none, none] [] h).trans rfl
set_option maxRecDepth 100000 in
set_option maxHeartbeats 4000000 in
theorem xb152_4 (l0 : Nat) (l1 : Int32) (l2 : Int32) (h : xH) : xE 152 4 [some (.ref l0), some (.int l1), some (.int l2)] [] h = 
  if l2 < 24 then (xgu h l0 5 (xcI (xM 127 [.ref l0, .int l2, .int 0] h) fun v2 h1 => xE 152 4 [some (.ref l0), some (.int (l1 + v2)), some (.int (l2 + 1))] [] h1))
  else (some (some (.int l1), h)) := (xB [4] 500 152 4 [some (.ref l0), some (.int l1), some (.int l2)] [] h).trans rfl
-- 153 XModel.putShape
set_option maxRecDepth 100000 in
set_option maxHeartbeats 4000000 in
theorem xb153 (l0 : Nat) (l1 : Int32) (l2 : Int32) (l3 : Int32) (l4 : Int32) (l5 : Int32) (h : xH) : xM 153 [.ref l0, .int l1, .int l2, .int l3, .int l4, .int l5] h = xcI (xM 109 [.int l1, .int l2, .int l3, .int l4] h) fun v2 h1 => 
  if v2 = 0 then (some (some (.int (-2)), h1))
  else (xcI (xM 103 [.int l5, .int 0, .int 99] h1) fun v4 h3 => 
  if v4 = 0 then (some (some (.int (-2)), h3))
  else (xE 153 28 [some (.ref l0), some (.int l1), some (.int l2), some (.int l3), some (.int l4), some (.int l5), some (.int 0), none] [] h3)) := (xB [28, 52] 500 153 0 [some (.ref l0), some (.int l1), some (.int l2), some (.int l3), some (.int l4), some (.int l5), none, none] [] h).trans rfl
set_option maxRecDepth 100000 in
set_option maxHeartbeats 4000000 in
theorem xb153_28 (l0 : Nat) (l1 : Int32) (l2 : Int32) (l3 : Int32) (l4 : Int32) (l5 : Int32) (l6 : Int32) (h : xH) : xE 153 28 [some (.ref l0), some (.int l1), some (.int l2), some (.int l3), some (.int l4), some (.int l5), some (.int l6), none] [] h = 
  if l6 < 16 then (xgu h l0 5 (xcI (xM 119 [.ref l0, .int l6, .int 0] h) fun v2 h1 => 
  if v2 = 1 then (xE 153 28 [some (.ref l0), some (.int l1), some (.int l2), some (.int l3), some (.int l4), some (.int l5), some (.int (l6 + 1)), none] [] h1)
  else (xE 153 52 [some (.ref l0), some (.int l1), some (.int l2), some (.int l3), some (.int l4), some (.int l5), some (.int l6), none] [] h1)))
  else (xE 153 52 [some (.ref l0), some (.int l1), some (.int l2), some (.int l3), some (.int l4), some (.int l5), some (.int l6), none] [] h) := (xB [28, 52] 500 153 28 [some (.ref l0), some (.int l1), some (.int l2), some (.int l3), some (.int l4), some (.int l5), some (.int l6), none] [] h).trans rfl
set_option maxRecDepth 100000 in
set_option maxHeartbeats 4000000 in
theorem xb153_52 (l0 : Nat) (l1 : Int32) (l2 : Int32) (l3 : Int32) (l4 : Int32) (l5 : Int32) (l6 : Int32) (h : xH) : xE 153 52 [some (.ref l0), some (.int l1), some (.int l2), some (.int l3), some (.int l4), some (.int l5), some (.int l6), none] [] h = 
  if l6 = 16 then (some (some (.int (-4)), h))
  else ((xfR h l0 5 0).bind fun v1 => xcI (xM 110 [.int l1, .int l2, .int (l1 + l3), .int (l2 + l4)] h) fun v3 h2 => (xwi h2 0 v1 ((4 * l6) + 1) v3).bind fun h4 => (xfR h4 l0 5 0).bind fun v5 => (xwi h4 0 v5 ((4 * l6) + 2) l5).bind fun h6 => (xfR h6 l0 5 0).bind fun v7 => (xwi h6 0 v7 ((4 * l6) + 3) 16).bind fun h8 => xgu h8 l0 5 (xcV (xM 147 [.ref l0, .int l6] h8) fun h9 => (xfR h9 l0 5 0).bind fun v10 => (xwi h9 0 v10 ((4 * l6) + 0) 1).bind fun h11 => (xfR h11 l0 5 18).bind fun v12 => (xwi h11 1 v12 l6 1).bind fun h13 => xgu h13 l0 5 (xcV (xM 142 [.ref l0, .int l6] h13) fun h14 => xgu h14 l0 5 (xcV (xM 151 [.ref l0] h14) fun h15 => some (some (.int l6), h15))))) := (xB [28, 52] 500 153 52 [some (.ref l0), some (.int l1), some (.int l2), some (.int l3), some (.int l4), some (.int l5), some (.int l6), none] [] h).trans rfl
-- 154 XModel.putBox
set_option maxRecDepth 100000 in
set_option maxHeartbeats 4000000 in
theorem xb154 (l0 : Nat) (l1 : Int32) (l2 : Int32) (l3 : Int32) (l4 : Int32) (l5 : Int32) (h : xH) : xM 154 [.ref l0, .int l1, .int l2, .int l3, .int l4, .int l5] h = xgu h l0 5 (xcI (xM 120 [.ref l0, .int l1] h) fun v2 h1 => 
  if v2 = 0 then (some (some (.int (-2)), h1))
  else (xcI (xM 109 [.int l2, .int l3, .int l4, .int l5] h1) fun v4 h3 => 
  if v4 = 0 then (some (some (.int (-2)), h3))
  else (xgu h3 l0 5 (xcV (xM 147 [.ref l0, .int l1] h3) fun h5 => xgu h5 l0 5 (xcV (xM 146 [.ref l0, .int l1] h5) fun h6 => (xfR h6 l0 5 0).bind fun v7 => xcI (xM 110 [.int l2, .int l3, .int (l2 + l4), .int (l3 + l5)] h6) fun v9 h8 => (xwi h8 0 v7 ((4 * l1) + 1) v9).bind fun h10 => xgu h10 l0 5 (xcV (xM 142 [.ref l0, .int l1] h10) fun h11 => xgu h11 l0 5 (xcV (xM 151 [.ref l0] h11) fun h12 => xgu h12 l0 5 (xcI (xM 152 [.ref l0] h12) fun v14 h13 => some (some (.int v14), h13))))))))) := (xB [] 500 154 0 [some (.ref l0), some (.int l1), some (.int l2), some (.int l3), some (.int l4), some (.int l5)] [] h).trans rfl
-- 155 XModel.putHeight
set_option maxRecDepth 100000 in
set_option maxHeartbeats 4000000 in
theorem xb155 (l0 : Nat) (l1 : Int32) (l2 : Int32) (h : xH) : xM 155 [.ref l0, .int l1, .int l2] h = xgu h l0 5 (xcI (xM 120 [.ref l0, .int l1] h) fun v2 h1 => 
  if v2 = 0 then (some (some (.int (-2)), h1))
  else (xcI (xM 103 [.int l2, .int 0, .int 99] h1) fun v4 h3 => 
  if v4 = 0 then (some (some (.int (-2)), h3))
  else (xgu h3 l0 5 (xcI (xM 119 [.ref l0, .int l1, .int 2] h3) fun v6 h5 => (xfR h5 l0 5 0).bind fun v7 => (xwi h5 0 v7 ((4 * l1) + 2) l2).bind fun h8 => xgu h8 l0 5 (xcV (xM 147 [.ref l0, .int l1] h8) fun h9 => xgu h9 l0 5 (xcV (xM 151 [.ref l0] h9) fun h10 => some (some (.int v6), h10))))))) := (xB [] 500 155 0 [some (.ref l0), some (.int l1), some (.int l2), none] [] h).trans rfl
-- 156 XModel.putClip
set_option maxRecDepth 100000 in
set_option maxHeartbeats 4000000 in
theorem xb156 (l0 : Nat) (l1 : Int32) (l2 : Int32) (h : xH) : xM 156 [.ref l0, .int l1, .int l2] h = xgu h l0 5 (xcI (xM 120 [.ref l0, .int l1] h) fun v2 h1 => 
  if v2 = 0 then (some (some (.int (-2)), h1))
  else (
  if l2 = 16 then (xE 156 25 [some (.ref l0), some (.int l1), some (.int l2), none] [] h1)
  else (xgu h1 l0 5 (xcI (xM 120 [.ref l0, .int l2] h1) fun v4 h3 => 
  if v4 = 0 then (some (some (.int (-2)), h3))
  else (xE 156 25 [some (.ref l0), some (.int l1), some (.int l2), none] [] h3))))) := (xB [25, 43] 500 156 0 [some (.ref l0), some (.int l1), some (.int l2), none] [] h).trans rfl
set_option maxRecDepth 100000 in
set_option maxHeartbeats 4000000 in
theorem xb156_25 (l0 : Nat) (l1 : Int32) (l2 : Int32) (h : xH) : xE 156 25 [some (.ref l0), some (.int l1), some (.int l2), none] [] h = 
  if l2 = 16 then (xE 156 43 [some (.ref l0), some (.int l1), some (.int l2), none] [] h)
  else (xgu h l0 5 (xcI (xM 123 [.ref l0, .int l2, .int l1] h) fun v2 h1 => 
  if v2 = 0 then (xE 156 43 [some (.ref l0), some (.int l1), some (.int l2), none] [] h1)
  else (some (some (.int (-3)), h1)))) := (xB [25, 43] 500 156 25 [some (.ref l0), some (.int l1), some (.int l2), none] [] h).trans rfl
set_option maxRecDepth 100000 in
set_option maxHeartbeats 4000000 in
theorem xb156_43 (l0 : Nat) (l1 : Int32) (l2 : Int32) (h : xH) : xE 156 43 [some (.ref l0), some (.int l1), some (.int l2), none] [] h = xgu h l0 5 (xcI (xM 119 [.ref l0, .int l1, .int 3] h) fun v2 h1 => xgu h1 l0 5 (xcV (xM 147 [.ref l0, .int l1] h1) fun h3 => (xfR h3 l0 5 0).bind fun v4 => (xwi h3 0 v4 ((4 * l1) + 3) l2).bind fun h5 => xgu h5 l0 5 (xcV (xM 151 [.ref l0] h5) fun h6 => some (some (.int v2), h6)))) := (xB [25, 43] 500 156 43 [some (.ref l0), some (.int l1), some (.int l2), none] [] h).trans rfl
-- 157 XModel.putAway
set_option maxRecDepth 100000 in
set_option maxHeartbeats 4000000 in
theorem xb157 (l0 : Nat) (l1 : Int32) (h : xH) : xM 157 [.ref l0, .int l1] h = xgu h l0 5 (xcI (xM 120 [.ref l0, .int l1] h) fun v2 h1 => 
  if v2 = 0 then (some (some (.int (-2)), h1))
  else (xgu h1 l0 5 (xcI (xM 124 [.ref l0, .int l1] h1) fun v4 h3 => 
  if 0 < v4 then (some (some (.int (-3)), h3))
  else (xgu h3 l0 5 (xcV (xM 147 [.ref l0, .int l1] h3) fun h5 => xgu h5 l0 5 (xcV (xM 146 [.ref l0, .int l1] h5) fun h6 => xE 157 34 [some (.ref l0), some (.int l1), some (.int 0)] [] h6)))))) := (xB [34] 500 157 0 [some (.ref l0), some (.int l1), none] [] h).trans rfl
set_option maxRecDepth 100000 in
set_option maxHeartbeats 4000000 in
theorem xb157_34 (l0 : Nat) (l1 : Int32) (l2 : Int32) (h : xH) : xE 157 34 [some (.ref l0), some (.int l1), some (.int l2)] [] h = 
  if l2 < 4 then ((xfR h l0 5 0).bind fun v1 => (xwi h 0 v1 ((4 * l1) + l2) 0).bind fun h2 => xE 157 34 [some (.ref l0), some (.int l1), some (.int (l2 + 1))] [] h2)
  else (xgu h l0 5 (xcV (xM 151 [.ref l0] h) fun h3 => xgu h3 l0 5 (xcI (xM 121 [.ref l0] h3) fun v5 h4 => some (some (.int v5), h4)))) := (xB [34] 500 157 34 [some (.ref l0), some (.int l1), some (.int l2)] [] h).trans rfl
-- 158 XModel.putDrawn
set_option maxRecDepth 100000 in
set_option maxHeartbeats 4000000 in
theorem xb158 (l0 : Nat) (h : xH) : xM 158 [.ref l0] h = (xfR h l0 5 0).bind fun v1 => (xri h 0 v1 305).bind fun v2 => (xfR h l0 5 0).bind fun v3 => (xwi h 0 v3 305 0).bind fun h4 => some (some (.int v2), h4) := (xB [] 500 158 0 [some (.ref l0), none] [] h).trans rfl
-- 159 XModel.shape
set_option maxRecDepth 100000 in
set_option maxHeartbeats 4000000 in
theorem xb159 (l0 : Nat) (l1 : Int32) (l2 : Int32) (l3 : Int32) (l4 : Int32) (l5 : Int32) (h : xH) : xM 159 [.ref l0, .int l1, .int l2, .int l3, .int l4, .int l5] h = xgu h l0 5 (xcV (xM 105 [.ref l0] h) fun h1 => xgu h1 l0 5 (xcI (xM 153 [.ref l0, .int l1, .int l2, .int l3, .int l4, .int l5] h1) fun v3 h2 => xgu h2 l0 5 (xcI (xM 108 [.ref l0, .int v3] h2) fun v5 h4 => some (some (.int v5), h4)))) := (xB [] 500 159 0 [some (.ref l0), some (.int l1), some (.int l2), some (.int l3), some (.int l4), some (.int l5)] [] h).trans rfl
-- 160 XModel.moves
set_option maxRecDepth 100000 in
set_option maxHeartbeats 4000000 in
theorem xb160 (l0 : Nat) (l1 : Int32) (l2 : Int32) (l3 : Int32) (l4 : Int32) (l5 : Int32) (h : xH) : xM 160 [.ref l0, .int l1, .int l2, .int l3, .int l4, .int l5] h = xgu h l0 5 (xcV (xM 105 [.ref l0] h) fun h1 => xgu h1 l0 5 (xcI (xM 154 [.ref l0, .int l1, .int l2, .int l3, .int l4, .int l5] h1) fun v3 h2 => xgu h2 l0 5 (xcI (xM 108 [.ref l0, .int v3] h2) fun v5 h4 => some (some (.int v5), h4)))) := (xB [] 500 160 0 [some (.ref l0), some (.int l1), some (.int l2), some (.int l3), some (.int l4), some (.int l5)] [] h).trans rfl
-- 161 XModel.lifts
set_option maxRecDepth 100000 in
set_option maxHeartbeats 4000000 in
theorem xb161 (l0 : Nat) (l1 : Int32) (l2 : Int32) (h : xH) : xM 161 [.ref l0, .int l1, .int l2] h = xgu h l0 5 (xcV (xM 105 [.ref l0] h) fun h1 => xgu h1 l0 5 (xcI (xM 155 [.ref l0, .int l1, .int l2] h1) fun v3 h2 => xgu h2 l0 5 (xcI (xM 108 [.ref l0, .int v3] h2) fun v5 h4 => some (some (.int v5), h4)))) := (xB [] 500 161 0 [some (.ref l0), some (.int l1), some (.int l2)] [] h).trans rfl
-- 162 XModel.clips
set_option maxRecDepth 100000 in
set_option maxHeartbeats 4000000 in
theorem xb162 (l0 : Nat) (l1 : Int32) (l2 : Int32) (h : xH) : xM 162 [.ref l0, .int l1, .int l2] h = xgu h l0 5 (xcV (xM 105 [.ref l0] h) fun h1 => xgu h1 l0 5 (xcI (xM 156 [.ref l0, .int l1, .int l2] h1) fun v3 h2 => xgu h2 l0 5 (xcI (xM 108 [.ref l0, .int v3] h2) fun v5 h4 => some (some (.int v5), h4)))) := (xB [] 500 162 0 [some (.ref l0), some (.int l1), some (.int l2)] [] h).trans rfl
-- 163 XModel.removes
set_option maxRecDepth 100000 in
set_option maxHeartbeats 4000000 in
theorem xb163 (l0 : Nat) (l1 : Int32) (h : xH) : xM 163 [.ref l0, .int l1] h = xgu h l0 5 (xcV (xM 105 [.ref l0] h) fun h1 => xgu h1 l0 5 (xcI (xM 157 [.ref l0, .int l1] h1) fun v3 h2 => xgu h2 l0 5 (xcI (xM 108 [.ref l0, .int v3] h2) fun v5 h4 => some (some (.int v5), h4)))) := (xB [] 500 163 0 [some (.ref l0), some (.int l1)] [] h).trans rfl
-- 164 XModel.drawn
set_option maxRecDepth 100000 in
set_option maxHeartbeats 4000000 in
theorem xb164 (l0 : Nat) (h : xH) : xM 164 [.ref l0] h = xgu h l0 5 (xcV (xM 105 [.ref l0] h) fun h1 => xgu h1 l0 5 (xcI (xM 158 [.ref l0] h1) fun v3 h2 => xgu h2 l0 5 (xcI (xM 108 [.ref l0, .int v3] h2) fun v5 h4 => some (some (.int v5), h4)))) := (xB [] 500 164 0 [some (.ref l0)] [] h).trans rfl
