/-- a call of a method of the object o -/
def xgu (h : xH) (o ci : Nat) (z : Option xR) : Option xR := (xobj h o ci).bind fun _ => z
-- 0 X$Box.make
set_option maxRecDepth 100000 in
set_option maxHeartbeats 4000000 in
theorem xb0 (l0 : Int32) (l1 : Int32) (l2 : Int32) (l3 : Int32) (h : xH) : xM 0 [.int l0, .int l1, .int l2, .int l3] h = 
  if l0 < 0 then (some (some (.int 0), h))
  else (
  if l0 < 64 then (
  if l1 < 0 then (some (some (.int 0), h))
  else (
  if l1 < 64 then (
  if l2 < 1 then (some (some (.int 0), h))
  else (
  if (64 - l0) < l2 then (some (some (.int 0), h))
  else (
  if l3 < 1 then (some (some (.int 0), h))
  else (
  if (64 - l1) < l3 then (some (some (.int 0), h))
  else (xcI (xM 1 [.int l0, .int l1, .int (l0 + l2), .int (l1 + l3)] h) fun v2 h1 => some (some (.int v2), h1))))))
  else (some (some (.int 0), h))))
  else (some (some (.int 0), h))) := (xB [] 500 0 0 [some (.int l0), some (.int l1), some (.int l2), some (.int l3)] [] h).trans rfl
-- 1 X$Box.pack
set_option maxRecDepth 100000 in
set_option maxHeartbeats 4000000 in
theorem xb1 (l0 : Int32) (l1 : Int32) (l2 : Int32) (l3 : Int32) (h : xH) : xM 1 [.int l0, .int l1, .int l2, .int l3] h = some (some (.int (((l0 ||| (l1 <<< (7 &&& 31))) ||| (l2 <<< (14 &&& 31))) ||| (l3 <<< (21 &&& 31)))), h) := (xB [] 500 1 0 [some (.int l0), some (.int l1), some (.int l2), some (.int l3)] [] h).trans rfl
-- 2 X$Box.left
set_option maxRecDepth 100000 in
set_option maxHeartbeats 4000000 in
theorem xb2 (l0 : Int32) (h : xH) : xM 2 [.int l0] h = some (some (.int (l0 &&& 127)), h) := (xB [] 500 2 0 [some (.int l0)] [] h).trans rfl
-- 3 X$Box.top
set_option maxRecDepth 100000 in
set_option maxHeartbeats 4000000 in
theorem xb3 (l0 : Int32) (h : xH) : xM 3 [.int l0] h = some (some (.int ((l0 >>> (7 &&& 31)) &&& 127)), h) := (xB [] 500 3 0 [some (.int l0)] [] h).trans rfl
-- 4 X$Box.right
set_option maxRecDepth 100000 in
set_option maxHeartbeats 4000000 in
theorem xb4 (l0 : Int32) (h : xH) : xM 4 [.int l0] h = some (some (.int ((l0 >>> (14 &&& 31)) &&& 127)), h) := (xB [] 500 4 0 [some (.int l0)] [] h).trans rfl
-- 5 X$Box.bottom
set_option maxRecDepth 100000 in
set_option maxHeartbeats 4000000 in
theorem xb5 (l0 : Int32) (h : xH) : xM 5 [.int l0] h = some (some (.int ((l0 >>> (21 &&& 31)) &&& 127)), h) := (xB [] 500 5 0 [some (.int l0)] [] h).trans rfl
-- 6 X$Box.value
set_option maxRecDepth 100000 in
set_option maxHeartbeats 4000000 in
theorem xb6 (l0 : Int32) (l1 : Int32) (h : xH) : xM 6 [.int l0, .int l1] h = 
  if l1 = 0 then (xcI (xM 2 [.int l0] h) fun v12 h11 => some (some (.int v12), h11))
  else (
  if l1 = 1 then (xcI (xM 3 [.int l0] h) fun v10 h9 => some (some (.int v10), h9))
  else (
  if l1 = 2 then (xcI (xM 4 [.int l0] h) fun v6 h5 => xcI (xM 2 [.int l0] h5) fun v8 h7 => some (some (.int (v6 - v8)), h7))
  else (xcI (xM 5 [.int l0] h) fun v2 h1 => xcI (xM 3 [.int l0] h1) fun v4 h3 => some (some (.int (v2 - v4)), h3)))) := (xB [] 500 6 0 [some (.int l0), some (.int l1)] [] h).trans rfl
-- 7 X$Box.area
set_option maxRecDepth 100000 in
set_option maxHeartbeats 4000000 in
theorem xb7 (l0 : Int32) (h : xH) : xM 7 [.int l0] h = xcI (xM 4 [.int l0] h) fun v2 h1 => xcI (xM 2 [.int l0] h1) fun v4 h3 => xcI (xM 5 [.int l0] h3) fun v6 h5 => xcI (xM 3 [.int l0] h5) fun v8 h7 => some (some (.int ((v2 - v4) * (v6 - v8))), h7) := (xB [] 500 7 0 [some (.int l0)] [] h).trans rfl
-- 8 X$Box.union
set_option maxRecDepth 100000 in
set_option maxHeartbeats 4000000 in
theorem xb8 (l0 : Int32) (l1 : Int32) (h : xH) : xM 8 [.int l0, .int l1] h = 
  if l0 = 0 then (some (some (.int (l0 ||| l1)), h))
  else (
  if l1 = 0 then (some (some (.int (l0 ||| l1)), h))
  else (xcI (xM 2 [.int l0] h) fun v2 h1 => xcI (xM 2 [.int l1] h1) fun v4 h3 => xcI (xM 3 [.int l0] h3) fun v6 h5 => xcI (xM 3 [.int l1] h5) fun v8 h7 => xcI (xM 4 [.int l0] h7) fun v10 h9 => xcI (xM 4 [.int l1] h9) fun v12 h11 => xcI (xM 5 [.int l0] h11) fun v14 h13 => xcI (xM 5 [.int l1] h13) fun v16 h15 => xcI (xM 1 [.int (if v4 < v2 then v4 else v2), .int (if v8 < v6 then v8 else v6), .int (if v10 < v12 then v12 else v10), .int (if v14 < v16 then v16 else v14)] h15) fun v18 h17 => some (some (.int v18), h17))) := (xB [] 500 8 0 [some (.int l0), some (.int l1)] [] h).trans rfl
-- 9 X$Box.meet
set_option maxRecDepth 100000 in
set_option maxHeartbeats 4000000 in
theorem xb9 (l0 : Int32) (l1 : Int32) (h : xH) : xM 9 [.int l0, .int l1] h = xcI (xM 2 [.int l0] h) fun v2 h1 => xcI (xM 2 [.int l1] h1) fun v4 h3 => xcI (xM 3 [.int l0] h3) fun v6 h5 => xcI (xM 3 [.int l1] h5) fun v8 h7 => xcI (xM 4 [.int l0] h7) fun v10 h9 => xcI (xM 4 [.int l1] h9) fun v12 h11 => xcI (xM 5 [.int l0] h11) fun v14 h13 => xcI (xM 5 [.int l1] h13) fun v16 h15 => 
  if (if v2 < v4 then v4 else v2) < (if v12 < v10 then v12 else v10) then (
  if (if v6 < v8 then v8 else v6) < (if v16 < v14 then v16 else v14) then (xcI (xM 1 [.int (if v2 < v4 then v4 else v2), .int (if v6 < v8 then v8 else v6), .int (if v12 < v10 then v12 else v10), .int (if v16 < v14 then v16 else v14)] h15) fun v18 h17 => some (some (.int v18), h17))
  else (some (some (.int 0), h15)))
  else (some (some (.int 0), h15)) := (xB [] 500 9 0 [some (.int l0), some (.int l1), none, none, none, none] [] h).trans rfl
-- 10 X$Box.growth
set_option maxRecDepth 100000 in
set_option maxHeartbeats 4000000 in
theorem xb10 (l0 : Int32) (l1 : Int32) (h : xH) : xM 10 [.int l0, .int l1] h = xcI (xM 8 [.int l0, .int l1] h) fun v2 h1 => xcI (xM 7 [.int v2] h1) fun v4 h3 => xcI (xM 7 [.int l0] h3) fun v6 h5 => some (some (.int (v4 - v6)), h5) := (xB [] 500 10 0 [some (.int l0), some (.int l1)] [] h).trans rfl
-- 11 X$Box.waste
set_option maxRecDepth 100000 in
set_option maxHeartbeats 4000000 in
theorem xb11 (l0 : Int32) (l1 : Int32) (h : xH) : xM 11 [.int l0, .int l1] h = xcI (xM 8 [.int l0, .int l1] h) fun v2 h1 => xcI (xM 7 [.int v2] h1) fun v4 h3 => xcI (xM 7 [.int l0] h3) fun v6 h5 => xcI (xM 7 [.int l1] h5) fun v8 h7 => some (some (.int ((v4 - v6) - v8)), h7) := (xB [] 500 11 0 [some (.int l0), some (.int l1)] [] h).trans rfl
-- 12 X$Box.holds
set_option maxRecDepth 100000 in
set_option maxHeartbeats 4000000 in
theorem xb12 (l0 : Int32) (l1 : Int32) (l2 : Int32) (h : xH) : xM 12 [.int l0, .int l1, .int l2] h = xcI (xM 2 [.int l0] h) fun v2 h1 => 
  if l1 < v2 then (some (some (.int 0), h1))
  else (xcI (xM 4 [.int l0] h1) fun v4 h3 => 
  if l1 < v4 then (xcI (xM 3 [.int l0] h3) fun v6 h5 => 
  if l2 < v6 then (some (some (.int 0), h5))
  else (xcI (xM 5 [.int l0] h5) fun v8 h7 => 
  if l2 < v8 then (some (some (.int 1), h7))
  else (some (some (.int 0), h7))))
  else (some (some (.int 0), h3))) := (xB [] 500 12 0 [some (.int l0), some (.int l1), some (.int l2)] [] h).trans rfl
-- 13 X$Box.distance
set_option maxRecDepth 100000 in
set_option maxHeartbeats 4000000 in
theorem xb13 (l0 : Int32) (l1 : Int32) (l2 : Int32) (h : xH) : xM 13 [.int l0, .int l1, .int l2] h = xcI (xM 2 [.int l0] h) fun v2 h1 => xcI (xM 4 [.int l0] h1) fun v4 h3 => xcI (xM 3 [.int l0] h3) fun v6 h5 => xcI (xM 5 [.int l0] h5) fun v8 h7 => some (some (.int (((if 0 < (if (v2 - l1) < ((l1 - v4) + 1) then ((l1 - v4) + 1) else (v2 - l1)) then (if (v2 - l1) < ((l1 - v4) + 1) then ((l1 - v4) + 1) else (v2 - l1)) else 0) * (if 0 < (if (v2 - l1) < ((l1 - v4) + 1) then ((l1 - v4) + 1) else (v2 - l1)) then (if (v2 - l1) < ((l1 - v4) + 1) then ((l1 - v4) + 1) else (v2 - l1)) else 0)) + ((if 0 < (if (v6 - l2) < ((l2 - v8) + 1) then ((l2 - v8) + 1) else (v6 - l2)) then (if (v6 - l2) < ((l2 - v8) + 1) then ((l2 - v8) + 1) else (v6 - l2)) else 0) * (if 0 < (if (v6 - l2) < ((l2 - v8) + 1) then ((l2 - v8) + 1) else (v6 - l2)) then (if (v6 - l2) < ((l2 - v8) + 1) then ((l2 - v8) + 1) else (v6 - l2)) else 0)))), h7) := (xB [] 500 13 0 [some (.int l0), some (.int l1), some (.int l2), none, none] [] h).trans rfl
