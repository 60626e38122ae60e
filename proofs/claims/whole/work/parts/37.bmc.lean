-- 165 XModel.told0
set_option maxRecDepth 100000 in
set_option maxHeartbeats 4000000 in
theorem xb165 (l0 : Nat) (l1 : Int32) (l2 : Int32) (h : xH) : xM 165 [.ref l0, .int l1, .int l2] h = 
  if l2 < 4 then (xgu h l0 5 (xcI (xM 119 [.ref l0, .int l1, .int 1] h) fun v2 h1 => xcI (xM 118 [.int v2, .int l2, .int 0] h1) fun v4 h3 => some (some (.int v4), h3)))
  else (
  if l2 = 4 then (xgu h l0 5 (xcI (xM 119 [.ref l0, .int l1, .int 2] h) fun v6 h5 => some (some (.int v6), h5)))
  else (
  if l2 = 5 then (xgu h l0 5 (xcI (xM 119 [.ref l0, .int l1, .int 3] h) fun v8 h7 => some (some (.int v8), h7)))
  else (xgu h l0 5 (xcI (xM 124 [.ref l0, .int l1] h) fun v10 h9 => some (some (.int v10), h9))))) := (xB [] 500 165 0 [some (.ref l0), some (.int l1), some (.int l2)] [] h).trans rfl
-- 166 XModel.of
set_option maxRecDepth 100000 in
set_option maxHeartbeats 4000000 in
theorem xb166 (l0 : Nat) (l1 : Int32) (l2 : Int32) (h : xH) : xM 166 [.ref l0, .int l1, .int l2] h = xgu h l0 5 (xcI (xM 120 [.ref l0, .int l1] h) fun v2 h1 => 
  if v2 = 0 then (xgu h1 l0 5 (xcI (xM 104 [.ref l0, .int (-2)] h1) fun v4 h3 => some (some (.int v4), h3)))
  else (xcI (xM 103 [.int l2, .int 0, .int 6] h1) fun v6 h5 => 
  if v6 = 0 then (xgu h5 l0 5 (xcI (xM 104 [.ref l0, .int (-2)] h5) fun v8 h7 => some (some (.int v8), h7)))
  else (xgu h5 l0 5 (xcI (xM 165 [.ref l0, .int l1, .int l2] h5) fun v10 h9 => some (some (.int v10), h9))))) := (xB [] 500 166 0 [some (.ref l0), some (.int l1), some (.int l2)] [] h).trans rfl
-- 167 XModel.view
set_option maxRecDepth 100000 in
set_option maxHeartbeats 4000000 in
theorem xb167 (l0 : Nat) (l1 : Int32) (l2 : Int32) (h : xH) : xM 167 [.ref l0, .int l1, .int l2] h = xgu h l0 5 (xcI (xM 120 [.ref l0, .int l1] h) fun v2 h1 => 
  if v2 = 0 then (xgu h1 l0 5 (xcI (xM 104 [.ref l0, .int (-2)] h1) fun v4 h3 => some (some (.int v4), h3)))
  else (xcI (xM 103 [.int l2, .int 0, .int 3] h1) fun v6 h5 => 
  if v6 = 0 then (xgu h5 l0 5 (xcI (xM 104 [.ref l0, .int (-2)] h5) fun v8 h7 => some (some (.int v8), h7)))
  else (xgu h5 l0 5 (xcI (xM 122 [.ref l0, .int l1] h5) fun v10 h9 => xcI (xM 118 [.int v10, .int l2, .int (-1)] h9) fun v12 h11 => some (some (.int v12), h11))))) := (xB [] 500 167 0 [some (.ref l0), some (.int l1), some (.int l2)] [] h).trans rfl
-- 168 XModel.isPoint
set_option maxRecDepth 100000 in
set_option maxHeartbeats 4000000 in
theorem xb168 (l0 : Int32) (l1 : Int32) (h : xH) : xM 168 [.int l0, .int l1] h = xcI (xM 103 [.int l0, .int 0, .int 63] h) fun v2 h1 => 
  if v2 = 0 then (some (some (.int 0), h1))
  else (xcI (xM 103 [.int l1, .int 0, .int 63] h1) fun v4 h3 => 
  if v4 = 0 then (some (some (.int 0), h3))
  else (some (some (.int 1), h3))) := (xB [] 500 168 0 [some (.int l0), some (.int l1)] [] h).trans rfl
-- 169 XModel.has
set_option maxRecDepth 100000 in
set_option maxHeartbeats 4000000 in
theorem xb169 (l0 : Int32) (l1 : Int32) (l2 : Int32) (h : xH) : xM 169 [.int l0, .int l1, .int l2] h = 
  if l0 = (-1) then (some (some (.int 0), h))
  else (xcI (xM 111 [.int l0, .int 0] h) fun v2 h1 => xcI (xM 111 [.int l0, .int 2] h1) fun v4 h3 => xcI (xM 103 [.int l1, .int v2, .int (v4 - 1)] h3) fun v6 h5 => 
  if v6 = 0 then (some (some (.int 0), h5))
  else (xcI (xM 111 [.int l0, .int 1] h5) fun v8 h7 => xcI (xM 111 [.int l0, .int 3] h7) fun v10 h9 => xcI (xM 103 [.int l2, .int v8, .int (v10 - 1)] h9) fun v12 h11 => 
  if v12 = 0 then (some (some (.int 0), h11))
  else (some (some (.int 1), h11)))) := (xB [] 500 169 0 [some (.int l0), some (.int l1), some (.int l2)] [] h).trans rfl
-- 170 XModel.isHit
set_option maxRecDepth 100000 in
set_option maxHeartbeats 4000000 in
theorem xb170 (l0 : Nat) (l1 : Int32) (l2 : Int32) (l3 : Int32) (h : xH) : xM 170 [.ref l0, .int l1, .int l2, .int l3] h = xgu h l0 5 (xcI (xM 120 [.ref l0, .int l1] h) fun v2 h1 => 
  if v2 = 0 then (some (some (.int 0), h1))
  else (xgu h1 l0 5 (xcI (xM 122 [.ref l0, .int l1] h1) fun v4 h3 => xcI (xM 169 [.int v4, .int l2, .int l3] h3) fun v6 h5 => 
  if v6 = 0 then (some (some (.int 0), h5))
  else (some (some (.int 1), h5))))) := (xB [] 500 170 0 [some (.ref l0), some (.int l1), some (.int l2), some (.int l3)] [] h).trans rfl
-- 171 XModel.hit
set_option maxRecDepth 100000 in
set_option maxHeartbeats 4000000 in
theorem xb171 (l0 : Nat) (l1 : Int32) (l2 : Int32) (l3 : Int32) (h : xH) : xM 171 [.ref l0, .int l1, .int l2, .int l3] h = xcI (xM 168 [.int l1, .int l2] h) fun v2 h1 => 
  if v2 = 0 then (xgu h1 l0 5 (xcI (xM 104 [.ref l0, .int (-2)] h1) fun v4 h3 => some (some (.int v4), h3)))
  else (
  if l3 < 0 then (xgu h1 l0 5 (xcI (xM 104 [.ref l0, .int (-2)] h1) fun v6 h5 => some (some (.int v6), h5)))
  else (xE 171 22 [some (.ref l0), some (.int l1), some (.int l2), some (.int l3), some (.int 0), none, none] [] h1)) := (xB [22, 35] 500 171 0 [some (.ref l0), some (.int l1), some (.int l2), some (.int l3), none, none, none] [] h).trans rfl
set_option maxRecDepth 100000 in
set_option maxHeartbeats 4000000 in
theorem xb171_22 (l0 : Nat) (l1 : Int32) (l2 : Int32) (l3 : Int32) (l4 : Int32) (l5 : Option Value) (l6 : Option Value) (h : xH) : xE 171 22 [some (.ref l0), some (.int l1), some (.int l2), some (.int l3), some (.int l4), l5, l6] [] h = 
  if l4 < 16 then (xE 171 35 [some (.ref l0), some (.int l1), some (.int l2), some (.int l3), some (.int l4), some (.int 0), some (.int 0)] [] h)
  else (some (some (.int (-1)), h)) := (xB [22, 35] 500 171 22 [some (.ref l0), some (.int l1), some (.int l2), some (.int l3), some (.int l4), l5, l6] [] h).trans rfl
set_option maxRecDepth 100000 in
set_option maxHeartbeats 4000000 in
theorem xb171_35 (l0 : Nat) (l1 : Int32) (l2 : Int32) (l3 : Int32) (l4 : Int32) (l5 : Int32) (l6 : Int32) (h : xH) : xE 171 35 [some (.ref l0), some (.int l1), some (.int l2), some (.int l3), some (.int l4), some (.int l5), some (.int l6)] [] h = 
  if l6 < 16 then (xgu h l0 5 (xcI (xM 170 [.ref l0, .int l6, .int l1, .int l2] h) fun v2 h1 => 
  if v2 = 0 then (xE 171 35 [some (.ref l0), some (.int l1), some (.int l2), some (.int l3), some (.int l4), some (.int (l5 + 0)), some (.int (l6 + 1))] [] h1)
  else (xgu h1 l0 5 (xcI (xM 125 [.ref l0, .int l6, .int l4] h1) fun v4 h3 => 
  if v4 = 0 then (xE 171 35 [some (.ref l0), some (.int l1), some (.int l2), some (.int l3), some (.int l4), some (.int (l5 + 0)), some (.int (l6 + 1))] [] h3)
  else (xE 171 35 [some (.ref l0), some (.int l1), some (.int l2), some (.int l3), some (.int l4), some (.int (l5 + 1)), some (.int (l6 + 1))] [] h3)))))
  else (xgu h l0 5 (xcI (xM 170 [.ref l0, .int l4, .int l1, .int l2] h) fun v6 h5 => 
  if v6 = 0 then (xE 171 22 [some (.ref l0), some (.int l1), some (.int l2), some (.int l3), some (.int (l4 + 1)), some (.int l5), some (.int l6)] [] h5)
  else (
  if l5 = l3 then (some (some (.int l4), h5))
  else (xE 171 22 [some (.ref l0), some (.int l1), some (.int l2), some (.int l3), some (.int (l4 + 1)), some (.int l5), some (.int l6)] [] h5)))) := (xB [22, 35] 500 171 35 [some (.ref l0), some (.int l1), some (.int l2), some (.int l3), some (.int l4), some (.int l5), some (.int l6)] [] h).trans rfl
-- 172 XModel.within
set_option maxRecDepth 100000 in
set_option maxHeartbeats 4000000 in
theorem xb172 (l0 : Nat) (l1 : Int32) (l2 : Int32) (l3 : Int32) (l4 : Int32) (h : xH) : xM 172 [.ref l0, .int l1, .int l2, .int l3, .int l4] h = xcI (xM 109 [.int l1, .int l2, .int l3, .int l4] h) fun v2 h1 => 
  if v2 = 0 then (xgu h1 l0 5 (xcI (xM 104 [.ref l0, .int (-2)] h1) fun v4 h3 => some (some (.int v4), h3)))
  else (xE 172 24 [some (.ref l0), some (.int l1), some (.int l2), some (.int l3), some (.int l4), some (.int 0), some (.int 0)] [] h1) := (xB [24] 500 172 0 [some (.ref l0), some (.int l1), some (.int l2), some (.int l3), some (.int l4), none, none] [] h).trans rfl
set_option maxRecDepth 100000 in
set_option maxHeartbeats 4000000 in
theorem xb172_24 (l0 : Nat) (l1 : Int32) (l2 : Int32) (l3 : Int32) (l4 : Int32) (l5 : Int32) (l6 : Int32) (h : xH) : xE 172 24 [some (.ref l0), some (.int l1), some (.int l2), some (.int l3), some (.int l4), some (.int l5), some (.int l6)] [] h = 
  if l6 < 16 then (xgu h l0 5 (xcI (xM 120 [.ref l0, .int l6] h) fun v2 h1 => 
  if v2 = 0 then (xE 172 24 [some (.ref l0), some (.int l1), some (.int l2), some (.int l3), some (.int l4), some (.int (l5 + 0)), some (.int (l6 + 1))] [] h1)
  else (xgu h1 l0 5 (xcI (xM 119 [.ref l0, .int l6, .int 1] h1) fun v4 h3 => xcI (xM 110 [.int l1, .int l2, .int (l1 + l3), .int (l2 + l4)] h3) fun v6 h5 => xcI (xM 116 [.int v4, .int v6] h5) fun v8 h7 => 
  if v8 = (-1) then (xE 172 24 [some (.ref l0), some (.int l1), some (.int l2), some (.int l3), some (.int l4), some (.int (l5 + 0)), some (.int (l6 + 1))] [] h7)
  else (xE 172 24 [some (.ref l0), some (.int l1), some (.int l2), some (.int l3), some (.int l4), some (.int (l5 + 1)), some (.int (l6 + 1))] [] h7)))))
  else (some (some (.int l5), h)) := (xB [24] 500 172 24 [some (.ref l0), some (.int l1), some (.int l2), some (.int l3), some (.int l4), some (.int l5), some (.int l6)] [] h).trans rfl
-- 173 XModel.off
set_option maxRecDepth 100000 in
set_option maxHeartbeats 4000000 in
theorem xb173 (l0 : Int32) (l1 : Int32) (l2 : Int32) (h : xH) : xM 173 [.int l0, .int l1, .int l2] h = 
  if l0 < l1 then (some (some (.int (l1 - l0)), h))
  else (
  if l2 < l0 then (some (some (.int (l0 - l2)), h))
  else (some (some (.int 0), h))) := (xB [] 500 173 0 [some (.int l0), some (.int l1), some (.int l2)] [] h).trans rfl
-- 174 XModel.farOf
set_option maxRecDepth 100000 in
set_option maxHeartbeats 4000000 in
theorem xb174 (l0 : Nat) (l1 : Int32) (l2 : Int32) (l3 : Int32) (h : xH) : xM 174 [.ref l0, .int l1, .int l2, .int l3] h = xgu h l0 5 (xcI (xM 119 [.ref l0, .int l1, .int 1] h) fun v2 h1 => xcI (xM 111 [.int v2, .int 0] h1) fun v4 h3 => xcI (xM 111 [.int v2, .int 2] h3) fun v6 h5 => xcI (xM 173 [.int l2, .int v4, .int (v6 - 1)] h5) fun v8 h7 => xcI (xM 111 [.int v2, .int 1] h7) fun v10 h9 => xcI (xM 111 [.int v2, .int 3] h9) fun v12 h11 => xcI (xM 173 [.int l3, .int v10, .int (v12 - 1)] h11) fun v14 h13 => some (some (.int ((v8 * v8) + (v14 * v14))), h13)) := (xB [] 500 174 0 [some (.ref l0), some (.int l1), some (.int l2), some (.int l3), none, none, none] [] h).trans rfl
-- 175 XModel.nearest
set_option maxRecDepth 100000 in
set_option maxHeartbeats 4000000 in
theorem xb175 (l0 : Nat) (l1 : Int32) (l2 : Int32) (h : xH) : xM 175 [.ref l0, .int l1, .int l2] h = xcI (xM 168 [.int l1, .int l2] h) fun v2 h1 => 
  if v2 = 0 then (xgu h1 l0 5 (xcI (xM 104 [.ref l0, .int (-2)] h1) fun v4 h3 => some (some (.int v4), h3)))
  else (xE 175 20 [some (.ref l0), some (.int l1), some (.int l2), some (.int (-1)), some (.int 0), none] [] h1) := (xB [20] 500 175 0 [some (.ref l0), some (.int l1), some (.int l2), none, none, none] [] h).trans rfl
set_option maxRecDepth 100000 in
set_option maxHeartbeats 4000000 in
theorem xb175_20 (l0 : Nat) (l1 : Int32) (l2 : Int32) (l3 : Int32) (l4 : Int32) (l5 : Option Value) (h : xH) : xE 175 20 [some (.ref l0), some (.int l1), some (.int l2), some (.int l3), some (.int l4), l5] [] h = 
  if l4 < 16 then (xgu h l0 5 (xcI (xM 120 [.ref l0, .int l4] h) fun v2 h1 => 
  if v2 = 0 then (xE 175 20 [some (.ref l0), some (.int l1), some (.int l2), some (.int l3), some (.int (l4 + 1)), l5] [] h1)
  else (
  if l3 = (-1) then (
  if (-1) < 0 then (xE 175 20 [some (.ref l0), some (.int l1), some (.int l2), some (.int l4), some (.int (l4 + 1)), some (.int (-1))] [] h1)
  else (
  if (-1) = 0 then (xgu h1 l0 5 (xcI (xM 125 [.ref l0, .int l4, .int l3] h1) fun v4 h3 => 
  if v4 = 0 then (xE 175 20 [some (.ref l0), some (.int l1), some (.int l2), some (.int l3), some (.int (l4 + 1)), some (.int (-1))] [] h3)
  else (xE 175 20 [some (.ref l0), some (.int l1), some (.int l2), some (.int l4), some (.int (l4 + 1)), some (.int (-1))] [] h3)))
  else (xE 175 20 [some (.ref l0), some (.int l1), some (.int l2), some (.int l3), some (.int (l4 + 1)), some (.int (-1))] [] h1)))
  else (xgu h1 l0 5 (xcI (xM 174 [.ref l0, .int l4, .int l1, .int l2] h1) fun v6 h5 => xgu h5 l0 5 (xcI (xM 174 [.ref l0, .int l3, .int l1, .int l2] h5) fun v8 h7 => 
  if (v6 - v8) < 0 then (xE 175 20 [some (.ref l0), some (.int l1), some (.int l2), some (.int l4), some (.int (l4 + 1)), some (.int (v6 - v8))] [] h7)
  else (
  if (v6 - v8) = 0 then (xgu h7 l0 5 (xcI (xM 125 [.ref l0, .int l4, .int l3] h7) fun v10 h9 => 
  if v10 = 0 then (xE 175 20 [some (.ref l0), some (.int l1), some (.int l2), some (.int l3), some (.int (l4 + 1)), some (.int (v6 - v8))] [] h9)
  else (xE 175 20 [some (.ref l0), some (.int l1), some (.int l2), some (.int l4), some (.int (l4 + 1)), some (.int (v6 - v8))] [] h9)))
  else (xE 175 20 [some (.ref l0), some (.int l1), some (.int l2), some (.int l3), some (.int (l4 + 1)), some (.int (v6 - v8))] [] h7))))))))
  else (some (some (.int l3), h)) := (xB [20] 500 175 20 [some (.ref l0), some (.int l1), some (.int l2), some (.int l3), some (.int l4), l5] [] h).trans rfl
-- 176 XModel.damage
set_option maxRecDepth 100000 in
set_option maxHeartbeats 4000000 in
theorem xb176 (l0 : Nat) (l1 : Int32) (l2 : Int32) (h : xH) : xM 176 [.ref l0, .int l1, .int l2] h = 
  if l1 < 0 then (xgu h l0 5 (xcI (xM 104 [.ref l0, .int (-2)] h) fun v2 h1 => some (some (.int v2), h1)))
  else (xcI (xM 103 [.int l2, .int 0, .int 3] h) fun v4 h3 => 
  if v4 = 0 then (xgu h3 l0 5 (xcI (xM 104 [.ref l0, .int (-2)] h3) fun v6 h5 => some (some (.int v6), h5)))
  else ((xfR h3 l0 5 0).bind fun v7 => (xri h3 0 v7 305).bind fun v8 => 
  if l1 < v8 then (xgu h3 l0 5 (xcI (xM 148 [.ref l0, .int l1] h3) fun v10 h9 => xcI (xM 118 [.int v10, .int l2, .int 0] h9) fun v12 h11 => some (some (.int v12), h11)))
  else (some (some (.int (-1)), h3)))) := (xB [] 500 176 0 [some (.ref l0), some (.int l1), some (.int l2)] [] h).trans rfl
-- 177 XModel.treeOf
set_option maxRecDepth 100000 in
set_option maxHeartbeats 4000000 in
theorem xb177 (l0 : Nat) (l1 : Int32) (h : xH) : xM 177 [.ref l0, .int l1] h = (xfR h l0 5 0).bind fun v1 => (xri h 0 v1 304).bind fun v2 => xgu h l0 5 (xcV (xM 143 [.ref l0, .int v2] h) fun h3 => xE 177 19 [some (.ref l0), some (.int l1), some (.int 0), some (.int 0), some (.int 0), none] [] h3) := (xB [19] 500 177 0 [some (.ref l0), some (.int l1), none, none, none, none] [] h).trans rfl
set_option maxRecDepth 100000 in
set_option maxHeartbeats 4000000 in
theorem xb177_19 (l0 : Nat) (l1 : Int32) (l2 : Int32) (l3 : Int32) (l4 : Int32) (l5 : Option Value) (h : xH) : xE 177 19 [some (.ref l0), some (.int l1), some (.int l2), some (.int l3), some (.int l4), l5] [] h = (xfI h l0 5 12).bind fun v1 => 
  if l4 < v1 then ((xfR h l0 5 10).bind fun v2 => (xri h 0 v2 l4).bind fun v3 => xgu h l0 5 (xcI (xM 127 [.ref l0, .int v3, .int 1] h) fun v5 h4 => 
  if v5 = 1 then (
  if 1 = 0 then (
  if 1 = 0 then (xE 177 19 [some (.ref l0), some (.int l1), some (.int (l2 + 0)), some (.int (l3 + 0)), some (.int (l4 + 1)), some (.int 1)] [] h4)
  else ((xfR h4 l0 5 10).bind fun v6 => (xri h4 0 v6 l4).bind fun v7 => xgu h4 l0 5 (xcI (xM 127 [.ref l0, .int v7, .int 4] h4) fun v9 h8 => xcI (xM 112 [.int v9] h8) fun v11 h10 => xE 177 19 [some (.ref l0), some (.int l1), some (.int (l2 + 0)), some (.int (l3 + v11)), some (.int (l4 + 1)), some (.int 1)] [] h10)))
  else (
  if 1 = 0 then (xE 177 19 [some (.ref l0), some (.int l1), some (.int (l2 + 1)), some (.int (l3 + 0)), some (.int (l4 + 1)), some (.int 1)] [] h4)
  else ((xfR h4 l0 5 10).bind fun v12 => (xri h4 0 v12 l4).bind fun v13 => xgu h4 l0 5 (xcI (xM 127 [.ref l0, .int v13, .int 4] h4) fun v15 h14 => xcI (xM 112 [.int v15] h14) fun v17 h16 => xE 177 19 [some (.ref l0), some (.int l1), some (.int (l2 + 1)), some (.int (l3 + v17)), some (.int (l4 + 1)), some (.int 1)] [] h16))))
  else (
  if 0 = 0 then (
  if 0 = 0 then (xE 177 19 [some (.ref l0), some (.int l1), some (.int (l2 + 0)), some (.int (l3 + 0)), some (.int (l4 + 1)), some (.int 0)] [] h4)
  else ((xfR h4 l0 5 10).bind fun v18 => (xri h4 0 v18 l4).bind fun v19 => xgu h4 l0 5 (xcI (xM 127 [.ref l0, .int v19, .int 4] h4) fun v21 h20 => xcI (xM 112 [.int v21] h20) fun v23 h22 => xE 177 19 [some (.ref l0), some (.int l1), some (.int (l2 + 0)), some (.int (l3 + v23)), some (.int (l4 + 1)), some (.int 0)] [] h22)))
  else (
  if 0 = 0 then (xE 177 19 [some (.ref l0), some (.int l1), some (.int (l2 + 1)), some (.int (l3 + 0)), some (.int (l4 + 1)), some (.int 0)] [] h4)
  else ((xfR h4 l0 5 10).bind fun v24 => (xri h4 0 v24 l4).bind fun v25 => xgu h4 l0 5 (xcI (xM 127 [.ref l0, .int v25, .int 4] h4) fun v27 h26 => xcI (xM 112 [.int v27] h26) fun v29 h28 => xE 177 19 [some (.ref l0), some (.int l1), some (.int (l2 + 1)), some (.int (l3 + v29)), some (.int (l4 + 1)), some (.int 0)] [] h28))))))
  else (
  if l1 = 0 then ((xfI h l0 5 12).bind fun v30 => some (some (.int v30), h))
  else (
  if l1 = 1 then (some (some (.int l2), h))
  else (
  if l1 = 2 then ((xfR h l0 5 11).bind fun v31 => (xfI h l0 5 12).bind fun v32 => (xri h 0 v31 (v32 - 1)).bind fun v33 => some (some (.int v33), h))
  else (some (some (.int l3), h))))) := (xB [19] 500 177 19 [some (.ref l0), some (.int l1), some (.int l2), some (.int l3), some (.int l4), l5] [] h).trans rfl
-- 178 XModel.tree
set_option maxRecDepth 100000 in
set_option maxHeartbeats 4000000 in
theorem xb178 (l0 : Nat) (l1 : Int32) (h : xH) : xM 178 [.ref l0, .int l1] h = xcI (xM 103 [.int l1, .int 0, .int 3] h) fun v2 h1 => 
  if v2 = 0 then (xgu h1 l0 5 (xcI (xM 104 [.ref l0, .int (-2)] h1) fun v4 h3 => some (some (.int v4), h3)))
  else (xgu h1 l0 5 (xcI (xM 177 [.ref l0, .int l1] h1) fun v6 h5 => some (some (.int v6), h5))) := (xB [] 500 178 0 [some (.ref l0), some (.int l1)] [] h).trans rfl
-- 179 XModel.walkedOf
set_option maxRecDepth 100000 in
set_option maxHeartbeats 4000000 in
theorem xb179 (l0 : Nat) (l1 : Int32) (l2 : Int32) (h : xH) : xM 179 [.ref l0, .int l1, .int l2] h = (xfR h l0 5 10).bind fun v1 => (xri h 0 v1 l1).bind fun v2 => 
  if l2 = 0 then ((xfR h l0 5 11).bind fun v3 => (xri h 0 v3 l1).bind fun v4 => some (some (.int v4), h))
  else (
  if l2 = 1 then (xgu h l0 5 (xcI (xM 127 [.ref l0, .int v2, .int 2] h) fun v6 h5 => some (some (.int v6), h5)))
  else (xgu h l0 5 (xcI (xM 127 [.ref l0, .int v2, .int 4] h) fun v8 h7 => xcI (xM 118 [.int v8, .int (l2 - 2), .int 0] h7) fun v10 h9 => some (some (.int v10), h9)))) := (xB [] 500 179 0 [some (.ref l0), some (.int l1), some (.int l2), none] [] h).trans rfl
-- 180 XModel.node
set_option maxRecDepth 100000 in
set_option maxHeartbeats 4000000 in
theorem xb180 (l0 : Nat) (l1 : Int32) (l2 : Int32) (h : xH) : xM 180 [.ref l0, .int l1, .int l2] h = 
  if l1 < 0 then (xgu h l0 5 (xcI (xM 104 [.ref l0, .int (-2)] h) fun v2 h1 => some (some (.int v2), h1)))
  else (xcI (xM 103 [.int l2, .int 0, .int 5] h) fun v4 h3 => 
  if v4 = 0 then (xgu h3 l0 5 (xcI (xM 104 [.ref l0, .int (-2)] h3) fun v6 h5 => some (some (.int v6), h5)))
  else ((xfR h3 l0 5 0).bind fun v7 => (xri h3 0 v7 304).bind fun v8 => xgu h3 l0 5 (xcV (xM 143 [.ref l0, .int v8] h3) fun h9 => (xfI h9 l0 5 12).bind fun v10 => 
  if l1 < v10 then (xgu h9 l0 5 (xcI (xM 179 [.ref l0, .int l1, .int l2] h9) fun v12 h11 => some (some (.int v12), h11)))
  else (some (some (.int (-5)), h9))))) := (xB [] 500 180 0 [some (.ref l0), some (.int l1), some (.int l2)] [] h).trans rfl
-- 181 XModel.walk
set_option maxRecDepth 100000 in
set_option maxHeartbeats 4000000 in
theorem xb181 (l0 : Nat) (l1 : Int32) (h : xH) : xM 181 [.ref l0, .int l1] h = 
  if l1 < 0 then (xgu h l0 5 (xcI (xM 104 [.ref l0, .int (-2)] h) fun v2 h1 => some (some (.int v2), h1)))
  else ((xfR h l0 5 0).bind fun v3 => (xri h 0 v3 304).bind fun v4 => xgu h l0 5 (xcV (xM 143 [.ref l0, .int v4] h) fun h5 => (xfI h5 l0 5 14).bind fun v6 => 
  if l1 < v6 then ((xfR h5 l0 5 13).bind fun v7 => (xri h5 0 v7 l1).bind fun v8 => some (some (.int v8), h5))
  else (some (some (.int (-1)), h5)))) := (xB [] 500 181 0 [some (.ref l0), some (.int l1)] [] h).trans rfl
-- 182 XModel.type
set_option maxRecDepth 100000 in
set_option maxHeartbeats 4000000 in
theorem xb182 (l0 : Nat) (l1 : Int32) (h : xH) : xM 182 [.ref l0, .int l1] h = xcI (xM 103 [.int l1, .int 0, .int 127] h) fun v2 h1 => 
  if v2 = 0 then (xgu h1 l0 5 (xcI (xM 104 [.ref l0, .int (-2)] h1) fun v4 h3 => some (some (.int v4), h3)))
  else ((xfI h1 l0 5 6).bind fun v5 => 
  if v5 = 120 then (xgu h1 l0 5 (xcI (xM 104 [.ref l0, .int (-4)] h1) fun v7 h6 => some (some (.int v7), h6)))
  else ((xfR h1 l0 5 5).bind fun v8 => (xfI h1 l0 5 6).bind fun v9 => (xwi h1 0 v8 v9 l1).bind fun h10 => (xfI h10 l0 5 6).bind fun v11 => (xpf h10 l0 5 6 (.int (v11 + 1))).bind fun h12 => (xfI h12 l0 5 6).bind fun v13 => some (some (.int v13), h12))) := (xB [] 500 182 0 [some (.ref l0), some (.int l1)] [] h).trans rfl
-- 183 XModel.clear
set_option maxRecDepth 100000 in
set_option maxHeartbeats 4000000 in
theorem xb183 (l0 : Nat) (h : xH) : xM 183 [.ref l0] h = (xfI h l0 5 6).bind fun v1 => (xpf h l0 5 6 (.int 0)).bind fun h2 => some (some (.int v1), h2) := (xB [] 500 183 0 [some (.ref l0), none] [] h).trans rfl
-- 184 XModel.isAt
set_option maxRecDepth 100000 in
set_option maxHeartbeats 4000000 in
theorem xb184 (l0 : Nat) (l1 : Int32) (l2 : Int32) (h : xH) : xM 184 [.ref l0, .int l1, .int l2] h = (xfI h l0 5 22).bind fun v1 => (xfI h l0 5 6).bind fun v2 => 
  if v1 < v2 then ((xfR h l0 5 5).bind fun v3 => (xfI h l0 5 22).bind fun v4 => (xri h 0 v3 v4).bind fun v5 => xcI (xM 103 [.int v5, .int l1, .int l2] h) fun v7 h6 => 
  if v7 = 0 then (some (some (.int 0), h6))
  else (some (some (.int 1), h6)))
  else (some (some (.int 0), h)) := (xB [] 500 184 0 [some (.ref l0), some (.int l1), some (.int l2)] [] h).trans rfl
-- 185 XModel.blanks
set_option maxRecDepth 100000 in
set_option maxHeartbeats 4000000 in
theorem xb185 (l0 : Nat) (h : xH) : xM 185 [.ref l0] h = xE 185 0 [some (.ref l0)] [] h := rfl
set_option maxRecDepth 100000 in
set_option maxHeartbeats 4000000 in
theorem xb185_0 (l0 : Nat) (h : xH) : xE 185 0 [some (.ref l0)] [] h = xgu h l0 5 (xcI (xM 184 [.ref l0, .int 32, .int 32] h) fun v2 h1 => 
  if v2 = 0 then (some (none, h1))
  else ((xfI h1 l0 5 22).bind fun v3 => (xpf h1 l0 5 22 (.int (v3 + 1))).bind fun h4 => xE 185 0 [some (.ref l0)] [] h4)) := (xB [0] 500 185 0 [some (.ref l0)] [] h).trans rfl
-- 186 XModel.fails
set_option maxRecDepth 100000 in
set_option maxHeartbeats 4000000 in
theorem xb186 (l0 : Nat) (h : xH) : xM 186 [.ref l0] h = (xfI h l0 5 22).bind fun v1 => (xpf h l0 5 23 (.int v1)).bind fun h2 => some (some (.int 0), h2) := (xB [] 500 186 0 [some (.ref l0)] [] h).trans rfl
-- 187 XModel.manyOf
set_option maxRecDepth 100000 in
set_option maxHeartbeats 4000000 in
theorem xb187 (l0 : Int32) (h : xH) : xM 187 [.int l0] h = 
  if l0 = 99 then (some (some (.int 2), h))
  else (
  if l0 = 100 then (some (some (.int 0), h))
  else (
  if l0 = 108 then (some (some (.int 2), h))
  else (
  if l0 = 109 then (some (some (.int 5), h))
  else (
  if l0 = 114 then (some (some (.int 1), h))
  else (
  if l0 = 115 then (some (some (.int 5), h))
  else (some (some (.int (-1)), h))))))) := (xB [] 500 187 0 [some (.int l0)] [] h).trans rfl
-- 188 XModel.takesNumber
set_option maxRecDepth 100000 in
set_option maxHeartbeats 4000000 in
theorem xb188 (l0 : Nat) (l1 : Int32) (h : xH) : xM 188 [.ref l0, .int l1] h = xgu h l0 5 (xcV (xM 185 [.ref l0] h) fun h1 => (xfI h1 l0 5 22).bind fun v2 => xE 188 11 [some (.ref l0), some (.int l1), some (.int v2), some (.int 0)] [] h1) := (xB [11] 500 188 0 [some (.ref l0), some (.int l1), none, none] [] h).trans rfl
set_option maxRecDepth 100000 in
set_option maxHeartbeats 4000000 in
theorem xb188_11 (l0 : Nat) (l1 : Int32) (l2 : Int32) (l3 : Int32) (h : xH) : xE 188 11 [some (.ref l0), some (.int l1), some (.int l2), some (.int l3)] [] h = xgu h l0 5 (xcI (xM 184 [.ref l0, .int 48, .int 57] h) fun v2 h1 => 
  if v2 = 0 then ((xfR h1 l0 5 20).bind fun v3 => (xwi h1 0 v3 l1 l3).bind fun h4 => (xfI h4 l0 5 22).bind fun v5 => 
  if l2 < v5 then (some (some (.int 1), h4))
  else (xgu h4 l0 5 (xcI (xM 186 [.ref l0] h4) fun v7 h6 => 
  if v7 = 0 then (some (some (.int 0), h6))
  else (some (some (.int 1), h6)))))
  else ((xfI h1 l0 5 22).bind fun v8 => 
  if v8 = (l2 + 2) then (xgu h1 l0 5 (xcI (xM 186 [.ref l0] h1) fun v10 h9 => bif xbz v10 then some (some (.int v10), h9) else none))
  else ((xfR h1 l0 5 5).bind fun v11 => (xfI h1 l0 5 22).bind fun v12 => (xri h1 0 v11 v12).bind fun v13 => (xfI h1 l0 5 22).bind fun v14 => (xpf h1 l0 5 22 (.int (v14 + 1))).bind fun h15 => xE 188 11 [some (.ref l0), some (.int l1), some (.int l2), some (.int (((10 * l3) + v13) - 48))] [] h15))) := (xB [11] 500 188 11 [some (.ref l0), some (.int l1), some (.int l2), some (.int l3)] [] h).trans rfl
-- 189 XModel.takesOrder
set_option maxRecDepth 100000 in
set_option maxHeartbeats 4000000 in
theorem xb189 (l0 : Nat) (h : xH) : xM 189 [.ref l0] h = (xfR h l0 5 5).bind fun v1 => (xfI h l0 5 22).bind fun v2 => (xri h 0 v1 v2).bind fun v3 => xcI (xM 187 [.int v3] h) fun v5 h4 => 
  if v5 = (-1) then (xgu h4 l0 5 (xcI (xM 186 [.ref l0] h4) fun v7 h6 => bif xbz v7 then some (some (.int v7), h6) else none))
  else ((xfR h4 l0 5 19).bind fun v8 => (xfI h4 l0 5 21).bind fun v9 => (xwi h4 0 v8 v9 v3).bind fun h10 => (xfI h10 l0 5 22).bind fun v11 => (xpf h10 l0 5 22 (.int (v11 + 1))).bind fun h12 => xE 189 47 [some (.ref l0), some (.int v3), some (.int v5), some (.int 0)] [] h12) := (xB [47] 500 189 0 [some (.ref l0), none, none, none] [] h).trans rfl
set_option maxRecDepth 100000 in
set_option maxHeartbeats 4000000 in
theorem xb189_47 (l0 : Nat) (l1 : Int32) (l2 : Int32) (l3 : Int32) (h : xH) : xE 189 47 [some (.ref l0), some (.int l1), some (.int l2), some (.int l3)] [] h = 
  if l3 < l2 then ((xfI h l0 5 21).bind fun v1 => xgu h l0 5 (xcI (xM 188 [.ref l0, .int ((5 * v1) + l3)] h) fun v3 h2 => 
  if v3 = 0 then (some (some (.int 0), h2))
  else (xE 189 47 [some (.ref l0), some (.int l1), some (.int l2), some (.int (l3 + 1))] [] h2)))
  else (xgu h l0 5 (xcV (xM 185 [.ref l0] h) fun h4 => xgu h4 l0 5 (xcI (xM 184 [.ref l0, .int 59, .int 59] h4) fun v6 h5 => 
  if v6 = 0 then (xgu h5 l0 5 (xcI (xM 186 [.ref l0] h5) fun v8 h7 => bif xbz v8 then some (some (.int v8), h7) else none))
  else ((xfI h5 l0 5 22).bind fun v9 => (xpf h5 l0 5 22 (.int (v9 + 1))).bind fun h10 => (xfI h10 l0 5 21).bind fun v11 => (xpf h10 l0 5 21 (.int (v11 + 1))).bind fun h12 => some (some (.int 1), h12))))) := (xB [47] 500 189 47 [some (.ref l0), some (.int l1), some (.int l2), some (.int l3)] [] h).trans rfl
-- 190 XModel.isRead
set_option maxRecDepth 100000 in
set_option maxHeartbeats 4000000 in
theorem xb190 (l0 : Nat) (h : xH) : xM 190 [.ref l0] h = (xpf h l0 5 22 (.int 0)).bind fun h1 => (xpf h1 l0 5 21 (.int 0)).bind fun h2 => xgu h2 l0 5 (xcV (xM 185 [.ref l0] h2) fun h3 => xE 190 14 [some (.ref l0)] [] h3) := (xB [14] 500 190 0 [some (.ref l0)] [] h).trans rfl
set_option maxRecDepth 100000 in
set_option maxHeartbeats 4000000 in
theorem xb190_14 (l0 : Nat) (h : xH) : xE 190 14 [some (.ref l0)] [] h = (xfI h l0 5 22).bind fun v1 => (xfI h l0 5 6).bind fun v2 => 
  if v1 < v2 then (xgu h l0 5 (xcI (xM 189 [.ref l0] h) fun v4 h3 => 
  if v4 = 0 then (some (some (.int 0), h3))
  else (xgu h3 l0 5 (xcV (xM 185 [.ref l0] h3) fun h5 => xE 190 14 [some (.ref l0)] [] h5))))
  else ((xfI h l0 5 21).bind fun v6 => 
  if 0 < v6 then (some (some (.int 1), h))
  else (xgu h l0 5 (xcI (xM 186 [.ref l0] h) fun v8 h7 => 
  if v8 = 0 then (some (some (.int 0), h7))
  else (some (some (.int 1), h7))))) := (xB [14] 500 190 14 [some (.ref l0)] [] h).trans rfl
-- 191 XModel.doneOne
set_option maxRecDepth 100000 in
set_option maxHeartbeats 4000000 in
theorem xb191 (l0 : Nat) (l1 : Int32) (h : xH) : xM 191 [.ref l0, .int l1] h = (xfR h l0 5 20).bind fun v1 => (xri h 0 v1 (5 * l1)).bind fun v2 => (xfR h l0 5 20).bind fun v3 => (xri h 0 v3 ((5 * l1) + 1)).bind fun v4 => (xfR h l0 5 20).bind fun v5 => (xri h 0 v5 ((5 * l1) + 2)).bind fun v6 => (xfR h l0 5 20).bind fun v7 => (xri h 0 v7 ((5 * l1) + 3)).bind fun v8 => (xfR h l0 5 19).bind fun v9 => (xri h 0 v9 l1).bind fun v10 => 
  if v10 = 99 then (xgu h l0 5 (xcI (xM 156 [.ref l0, .int v2, .int v4] h) fun v26 h25 => some (some (.int v26), h25)))
  else (
  if v10 = 108 then (xgu h l0 5 (xcI (xM 155 [.ref l0, .int v2, .int v4] h) fun v24 h23 => some (some (.int v24), h23)))
  else (
  if v10 = 109 then ((xfR h l0 5 20).bind fun v19 => (xri h 0 v19 ((5 * l1) + 4)).bind fun v20 => xgu h l0 5 (xcI (xM 154 [.ref l0, .int v2, .int v4, .int v6, .int v8, .int v20] h) fun v22 h21 => some (some (.int v22), h21)))
  else (
  if v10 = 114 then (xgu h l0 5 (xcI (xM 157 [.ref l0, .int v2] h) fun v18 h17 => some (some (.int v18), h17)))
  else (
  if v10 = 115 then ((xfR h l0 5 20).bind fun v13 => (xri h 0 v13 ((5 * l1) + 4)).bind fun v14 => xgu h l0 5 (xcI (xM 153 [.ref l0, .int v2, .int v4, .int v6, .int v8, .int v14] h) fun v16 h15 => some (some (.int v16), h15)))
  else (xgu h l0 5 (xcI (xM 158 [.ref l0] h) fun v12 h11 => some (some (.int v12), h11))))))) := (xB [] 500 191 0 [some (.ref l0), some (.int l1), none, none, none, none, none] [] h).trans rfl
-- 192 XModel.does
set_option maxRecDepth 100000 in
set_option maxHeartbeats 4000000 in
theorem xb192 (l0 : Nat) (h : xH) : xM 192 [.ref l0] h = xgu h l0 5 (xcI (xM 190 [.ref l0] h) fun v2 h1 => 
  if v2 = 0 then ((xfI h1 l0 5 23).bind fun v3 => some (some (.int ((-10) - v3)), h1))
  else (xgu h1 l0 5 (xcV (xM 105 [.ref l0] h1) fun h4 => xE 192 21 [some (.ref l0), some (.int 0), none] [] h4))) := (xB [21, 39] 500 192 0 [some (.ref l0), none, none] [] h).trans rfl
set_option maxRecDepth 100000 in
set_option maxHeartbeats 4000000 in
theorem xb192_21 (l0 : Nat) (l1 : Int32) (h : xH) : xE 192 21 [some (.ref l0), some (.int l1), none] [] h = (xfI h l0 5 21).bind fun v1 => 
  if l1 < v1 then (xgu h l0 5 (xcI (xM 191 [.ref l0, .int l1] h) fun v3 h2 => 
  if v3 < 0 then (xE 192 39 [some (.ref l0), some (.int l1), some (.int 0)] [] h2)
  else (xE 192 21 [some (.ref l0), some (.int (l1 + 1)), none] [] h2)))
  else (xgu h l0 5 (xcV (xM 106 [.ref l0] h) fun h4 => (xfI h4 l0 5 21).bind fun v5 => some (some (.int v5), h4))) := (xB [21, 39] 500 192 21 [some (.ref l0), some (.int l1), none] [] h).trans rfl
set_option maxRecDepth 100000 in
set_option maxHeartbeats 4000000 in
theorem xb192_39 (l0 : Nat) (l1 : Int32) (l2 : Int32) (h : xH) : xE 192 39 [some (.ref l0), some (.int l1), some (.int l2)] [] h = 
  if l2 < 311 then ((xfR h l0 5 0).bind fun v1 => (xfR h l0 5 1).bind fun v2 => (xri h 0 v2 l2).bind fun v3 => (xwi h 0 v1 l2 v3).bind fun h4 => xE 192 39 [some (.ref l0), some (.int l1), some (.int (l2 + 1))] [] h4)
  else (some (some (.int ((-1000) - l1)), h)) := (xB [21, 39] 500 192 39 [some (.ref l0), some (.int l1), some (.int l2)] [] h).trans rfl
-- 193 XModel.toldOf
set_option maxRecDepth 100000 in
set_option maxHeartbeats 4000000 in
theorem xb193 (l0 : Nat) (l1 : Int32) (h : xH) : xM 193 [.ref l0, .int l1] h = 
  if l1 = 3 then ((xfI h l0 5 6).bind fun v8 => some (some (.int v8), h))
  else (
  if l1 = 4 then ((xfI h l0 5 3).bind fun v7 => some (some (.int v7), h))
  else (
  if l1 = 5 then (xgu h l0 5 (xcI (xM 121 [.ref l0] h) fun v6 h5 => some (some (.int v6), h5)))
  else (
  if l1 = 6 then ((xfR h l0 5 0).bind fun v3 => (xri h 0 v3 305).bind fun v4 => some (some (.int v4), h))
  else ((xfR h l0 5 4).bind fun v1 => (xri h 0 v1 l1).bind fun v2 => some (some (.int v2), h))))) := (xB [] 500 193 0 [some (.ref l0), some (.int l1)] [] h).trans rfl
-- 194 XModel.told
set_option maxRecDepth 100000 in
set_option maxHeartbeats 4000000 in
theorem xb194 (l0 : Nat) (l1 : Int32) (h : xH) : xM 194 [.ref l0, .int l1] h = xcI (xM 103 [.int l1, .int 0, .int 6] h) fun v2 h1 => 
  if v2 = 0 then (xgu h1 l0 5 (xcI (xM 104 [.ref l0, .int (-2)] h1) fun v4 h3 => some (some (.int v4), h3)))
  else (xgu h1 l0 5 (xcI (xM 193 [.ref l0, .int l1] h1) fun v6 h5 => some (some (.int v6), h5))) := (xB [] 500 194 0 [some (.ref l0), some (.int l1)] [] h).trans rfl
-- 195 XModel.mix
set_option maxRecDepth 100000 in
set_option maxHeartbeats 4000000 in
theorem xb195 (l0 : Nat) (l1 : Int64) (h : xH) : xM 195 [.ref l0, .long l1] h = (xfL h l0 5 24).bind fun v1 => (xpf h l0 5 24 (.long ((((31 : Int32).toInt64) * v1) + l1))).bind fun h2 => some (none, h2) := (xB [] 500 195 0 [some (.ref l0), some (.long l1), none] [] h).trans rfl
-- 196 XModel.digest
set_option maxRecDepth 100000 in
set_option maxHeartbeats 4000000 in
theorem xb196 (l0 : Nat) (h : xH) : xM 196 [.ref l0] h = (xpf h l0 5 24 (.long ((1757 : Int32).toInt64))).bind fun h1 => xE 196 9 [some (.ref l0), some (.int 0), none, none] [] h1 := (xB [9, 33, 68, 78, 109, 132, 157, 191, 205] 500 196 0 [some (.ref l0), none, none, none] [] h).trans rfl
set_option maxRecDepth 100000 in
set_option maxHeartbeats 4000000 in
theorem xb196_9 (l0 : Nat) (l1 : Int32) (h : xH) : xE 196 9 [some (.ref l0), some (.int l1), none, none] [] h = 
  if l1 < 7 then (xgu h l0 5 (xcI (xM 193 [.ref l0, .int l1] h) fun v2 h1 => xgu h1 l0 5 (xcV (xM 195 [.ref l0, .long ((v2 : Int32).toInt64)] h1) fun h3 => xE 196 9 [some (.ref l0), some (.int (l1 + 1)), none, none] [] h3)))
  else (xE 196 33 [some (.ref l0), some (.int 0), none, none] [] h) := (xB [9, 33, 68, 78, 109, 132, 157, 191, 205] 500 196 9 [some (.ref l0), some (.int l1), none, none] [] h).trans rfl
set_option maxRecDepth 100000 in
set_option maxHeartbeats 4000000 in
theorem xb196_33 (l0 : Nat) (l1 : Int32) (h : xH) : xE 196 33 [some (.ref l0), some (.int l1), none, none] [] h = 
  if l1 < 4 then (xgu h l0 5 (xcI (xM 177 [.ref l0, .int l1] h) fun v2 h1 => xgu h1 l0 5 (xcV (xM 195 [.ref l0, .long ((v2 : Int32).toInt64)] h1) fun h3 => xE 196 33 [some (.ref l0), some (.int (l1 + 1)), none, none] [] h3)))
  else ((xfR h l0 5 0).bind fun v4 => (xri h 0 v4 304).bind fun v5 => xgu h l0 5 (xcV (xM 143 [.ref l0, .int v5] h) fun h6 => xE 196 68 [some (.ref l0), some (.int 0), none, none] [] h6)) := (xB [9, 33, 68, 78, 109, 132, 157, 191, 205] 500 196 33 [some (.ref l0), some (.int l1), none, none] [] h).trans rfl
set_option maxRecDepth 100000 in
set_option maxHeartbeats 4000000 in
theorem xb196_68 (l0 : Nat) (l1 : Int32) (l2 : Option Value) (h : xH) : xE 196 68 [some (.ref l0), some (.int l1), l2, none] [] h = (xfI h l0 5 12).bind fun v1 => 
  if l1 < v1 then (xE 196 78 [some (.ref l0), some (.int l1), some (.int 0), none] [] h)
  else (xE 196 109 [some (.ref l0), some (.int 0), l2, none] [] h) := (xB [9, 33, 68, 78, 109, 132, 157, 191, 205] 500 196 68 [some (.ref l0), some (.int l1), l2, none] [] h).trans rfl
set_option maxRecDepth 100000 in
set_option maxHeartbeats 4000000 in
theorem xb196_78 (l0 : Nat) (l1 : Int32) (l2 : Int32) (h : xH) : xE 196 78 [some (.ref l0), some (.int l1), some (.int l2), none] [] h = 
  if l2 < 6 then (xgu h l0 5 (xcI (xM 179 [.ref l0, .int l1, .int l2] h) fun v2 h1 => xgu h1 l0 5 (xcV (xM 195 [.ref l0, .long ((v2 : Int32).toInt64)] h1) fun h3 => xE 196 78 [some (.ref l0), some (.int l1), some (.int (l2 + 1)), none] [] h3)))
  else (xE 196 68 [some (.ref l0), some (.int (l1 + 1)), some (.int l2), none] [] h) := (xB [9, 33, 68, 78, 109, 132, 157, 191, 205] 500 196 78 [some (.ref l0), some (.int l1), some (.int l2), none] [] h).trans rfl
set_option maxRecDepth 100000 in
set_option maxHeartbeats 4000000 in
theorem xb196_109 (l0 : Nat) (l1 : Int32) (l2 : Option Value) (l3 : Option Value) (h : xH) : xE 196 109 [some (.ref l0), some (.int l1), l2, l3] [] h = (xfI h l0 5 14).bind fun v1 => 
  if l1 < v1 then ((xfR h l0 5 13).bind fun v2 => (xri h 0 v2 l1).bind fun v3 => xgu h l0 5 (xcV (xM 195 [.ref l0, .long ((v3 : Int32).toInt64)] h) fun h4 => xE 196 132 [some (.ref l0), some (.int l1), some (.int v3), some (.int 0)] [] h4))
  else (xE 196 191 [some (.ref l0), some (.int 0), l2, l3] [] h) := (xB [9, 33, 68, 78, 109, 132, 157, 191, 205] 500 196 109 [some (.ref l0), some (.int l1), l2, l3] [] h).trans rfl
set_option maxRecDepth 100000 in
set_option maxHeartbeats 4000000 in
theorem xb196_132 (l0 : Nat) (l1 : Int32) (l2 : Int32) (l3 : Int32) (h : xH) : xE 196 132 [some (.ref l0), some (.int l1), some (.int l2), some (.int l3)] [] h = 
  if l3 < 6 then (xgu h l0 5 (xcI (xM 165 [.ref l0, .int l2, .int l3] h) fun v2 h1 => xgu h1 l0 5 (xcV (xM 195 [.ref l0, .long ((v2 : Int32).toInt64)] h1) fun h3 => xE 196 132 [some (.ref l0), some (.int l1), some (.int l2), some (.int (l3 + 1))] [] h3)))
  else (xE 196 157 [some (.ref l0), some (.int l1), some (.int l2), some (.int 0)] [] h) := (xB [9, 33, 68, 78, 109, 132, 157, 191, 205] 500 196 132 [some (.ref l0), some (.int l1), some (.int l2), some (.int l3)] [] h).trans rfl
set_option maxRecDepth 100000 in
set_option maxHeartbeats 4000000 in
theorem xb196_157 (l0 : Nat) (l1 : Int32) (l2 : Int32) (l3 : Int32) (h : xH) : xE 196 157 [some (.ref l0), some (.int l1), some (.int l2), some (.int l3)] [] h = 
  if l3 < 4 then (xgu h l0 5 (xcI (xM 122 [.ref l0, .int l2] h) fun v2 h1 => xcI (xM 118 [.int v2, .int l3, .int (-1)] h1) fun v4 h3 => xgu h3 l0 5 (xcV (xM 195 [.ref l0, .long ((v4 : Int32).toInt64)] h3) fun h5 => xE 196 157 [some (.ref l0), some (.int l1), some (.int l2), some (.int (l3 + 1))] [] h5)))
  else (xE 196 109 [some (.ref l0), some (.int (l1 + 1)), some (.int l2), some (.int l3)] [] h) := (xB [9, 33, 68, 78, 109, 132, 157, 191, 205] 500 196 157 [some (.ref l0), some (.int l1), some (.int l2), some (.int l3)] [] h).trans rfl
set_option maxRecDepth 100000 in
set_option maxHeartbeats 4000000 in
theorem xb196_191 (l0 : Nat) (l1 : Int32) (l2 : Option Value) (l3 : Option Value) (h : xH) : xE 196 191 [some (.ref l0), some (.int l1), l2, l3] [] h = (xfR h l0 5 0).bind fun v1 => (xri h 0 v1 305).bind fun v2 => 
  if l1 < v2 then (xE 196 205 [some (.ref l0), some (.int l1), some (.int 0), l3] [] h)
  else ((xfL h l0 5 24).bind fun v3 => some (some (.long v3), h)) := (xB [9, 33, 68, 78, 109, 132, 157, 191, 205] 500 196 191 [some (.ref l0), some (.int l1), l2, l3] [] h).trans rfl
set_option maxRecDepth 100000 in
set_option maxHeartbeats 4000000 in
theorem xb196_205 (l0 : Nat) (l1 : Int32) (l2 : Int32) (l3 : Option Value) (h : xH) : xE 196 205 [some (.ref l0), some (.int l1), some (.int l2), l3] [] h = 
  if l2 < 4 then (xgu h l0 5 (xcI (xM 148 [.ref l0, .int l1] h) fun v2 h1 => xcI (xM 118 [.int v2, .int l2, .int 0] h1) fun v4 h3 => xgu h3 l0 5 (xcV (xM 195 [.ref l0, .long ((v4 : Int32).toInt64)] h3) fun h5 => xE 196 205 [some (.ref l0), some (.int l1), some (.int (l2 + 1)), l3] [] h5)))
  else (xE 196 191 [some (.ref l0), some (.int (l1 + 1)), some (.int l2), l3] [] h) := (xB [9, 33, 68, 78, 109, 132, 157, 191, 205] 500 196 205 [some (.ref l0), some (.int l1), some (.int l2), l3] [] h).trans rfl
