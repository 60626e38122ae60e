-- 102 XModel.init
set_option maxRecDepth 100000 in
set_option maxHeartbeats 4000000 in
theorem xb102 (l0 : Nat) (h : xH) : xM 102 [.ref l0] h = (xpf (xnw h (.inl (0, 311, fun _ => 0)) 311) l0 5 0 (.ref h.1)).bind fun h1 => (xpf (xnw h1 (.inl (0, 311, fun _ => 0)) 311) l0 5 1 (.ref h1.1)).bind fun h2 => (xpf (xnw h2 (.inl (0, 1555, fun _ => 0)) 1555) l0 5 2 (.ref h2.1)).bind fun h3 => (xpf (xnw h3 (.inl (0, 3, fun _ => 0)) 3) l0 5 4 (.ref h3.1)).bind fun h4 => (xpf (xnw h4 (.inl (0, 120, fun _ => 0)) 120) l0 5 5 (.ref h4.1)).bind fun h5 => (xpf (xnw h5 (.inl (0, 5, fun _ => 0)) 5) l0 5 7 (.ref h5.1)).bind fun h6 => (xpf (xnw h6 (.inl (0, 24, fun _ => 0)) 24) l0 5 8 (.ref h6.1)).bind fun h7 => (xpf (xnw h7 (.inl (0, 24, fun _ => 0)) 24) l0 5 9 (.ref h7.1)).bind fun h8 => (xpf (xnw h8 (.inl (0, 24, fun _ => 0)) 24) l0 5 10 (.ref h8.1)).bind fun h9 => (xpf (xnw h9 (.inl (0, 24, fun _ => 0)) 24) l0 5 11 (.ref h9.1)).bind fun h10 => (xpf (xnw h10 (.inl (0, 16, fun _ => 0)) 16) l0 5 13 (.ref h10.1)).bind fun h11 => (xpf (xnw h11 (.inl (0, 16, fun _ => 0)) 16) l0 5 15 (.ref h11.1)).bind fun h12 => (xpf (xnw h12 (.inl (0, 16, fun _ => 0)) 16) l0 5 17 (.ref h12.1)).bind fun h13 => (xpf (xnw h13 (.inl (1, 16, fun _ => 0)) 16) l0 5 18 (.ref h13.1)).bind fun h14 => (xpf (xnw h14 (.inl (0, 60, fun _ => 0)) 60) l0 5 19 (.ref h14.1)).bind fun h15 => (xpf (xnw h15 (.inl (0, 300, fun _ => 0)) 300) l0 5 20 (.ref h15.1)).bind fun h16 => (xfR h16 l0 5 0).bind fun v17 => (xwi h16 0 v17 64 1).bind fun h18 => (xfR h18 l0 5 0).bind fun v19 => (xwi h18 0 v19 65 1).bind fun h20 => (xfR h20 l0 5 0).bind fun v21 => (xwi h20 0 v21 67 (-1)).bind fun h22 => (xfR h22 l0 5 0).bind fun v23 => (xwi h22 0 v23 68 (-1)).bind fun h24 => some (none, h24) := (xB [] 500 102 0 [some (.ref l0)] [] h).trans rfl
-- 103 XModel.in
set_option maxRecDepth 100000 in
set_option maxHeartbeats 4000000 in
theorem xb103 (l0 : Int32) (l1 : Int32) (l2 : Int32) (h : xH) : xM 103 [.int l0, .int l1, .int l2] h = 
  if l0 < l1 then (some (some (.int 0), h))
  else (
  if l2 < l0 then (some (some (.int 0), h))
  else (some (some (.int 1), h))) := (xB [] 500 103 0 [some (.int l0), some (.int l1), some (.int l2)] [] h).trans rfl
-- 104 XModel.refuses
set_option maxRecDepth 100000 in
set_option maxHeartbeats 4000000 in
theorem xb104 (l0 : Nat) (l1 : Int32) (h : xH) : xM 104 [.ref l0, .int l1] h = (xfR h l0 5 4).bind fun v1 => (xri h 0 v1 ((-l1) - 2)).bind fun v2 => (xwi h 0 v1 ((-l1) - 2) (v2 + 1)).bind fun h3 => some (some (.int l1), h3) := (xB [] 500 104 0 [some (.ref l0), some (.int l1)] [] h).trans rfl
-- 105 XModel.laysAside
set_option maxRecDepth 100000 in
set_option maxHeartbeats 4000000 in
theorem xb105 (l0 : Nat) (h : xH) : xM 105 [.ref l0] h = xE 105 2 [some (.ref l0), some (.int 0)] [] h := (xB [2] 500 105 0 [some (.ref l0), none] [] h).trans rfl
set_option maxRecDepth 100000 in
set_option maxHeartbeats 4000000 in
theorem xb105_2 (l0 : Nat) (l1 : Int32) (h : xH) : xE 105 2 [some (.ref l0), some (.int l1)] [] h = 
  if l1 < 311 then ((xfR h l0 5 1).bind fun v1 => (xfR h l0 5 0).bind fun v2 => (xri h 0 v2 l1).bind fun v3 => (xwi h 0 v1 l1 v3).bind fun h4 => xE 105 2 [some (.ref l0), some (.int (l1 + 1))] [] h4)
  else (some (none, h)) := (xB [2] 500 105 2 [some (.ref l0), some (.int l1)] [] h).trans rfl
-- 106 XModel.remembers
set_option maxRecDepth 100000 in
set_option maxHeartbeats 4000000 in
theorem xb106 (l0 : Nat) (h : xH) : xM 106 [.ref l0] h = (xfI h l0 5 3).bind fun v1 => 
  if v1 = 5 then (xE 106 10 [some (.ref l0), some (.int 0)] [] h)
  else (xE 106 51 [some (.ref l0), some (.int 0)] [] h) := (xB [10, 51] 500 106 0 [some (.ref l0), none] [] h).trans rfl
set_option maxRecDepth 100000 in
set_option maxHeartbeats 4000000 in
theorem xb106_10 (l0 : Nat) (l1 : Int32) (h : xH) : xE 106 10 [some (.ref l0), some (.int l1)] [] h = 
  if l1 < 1244 then ((xfR h l0 5 2).bind fun v1 => (xfR h l0 5 2).bind fun v2 => (xri h 0 v2 (l1 + 311)).bind fun v3 => (xwi h 0 v1 l1 v3).bind fun h4 => xE 106 10 [some (.ref l0), some (.int (l1 + 1))] [] h4)
  else ((xfI h l0 5 3).bind fun v5 => (xpf h l0 5 3 (.int (v5 - 1))).bind fun h6 => xE 106 51 [some (.ref l0), some (.int 0)] [] h6) := (xB [10, 51] 500 106 10 [some (.ref l0), some (.int l1)] [] h).trans rfl
set_option maxRecDepth 100000 in
set_option maxHeartbeats 4000000 in
theorem xb106_51 (l0 : Nat) (l1 : Int32) (h : xH) : xE 106 51 [some (.ref l0), some (.int l1)] [] h = 
  if l1 < 311 then ((xfR h l0 5 2).bind fun v1 => (xfI h l0 5 3).bind fun v2 => (xfR h l0 5 1).bind fun v3 => (xri h 0 v3 l1).bind fun v4 => (xwi h 0 v1 ((311 * v2) + l1) v4).bind fun h5 => xE 106 51 [some (.ref l0), some (.int (l1 + 1))] [] h5)
  else ((xfI h l0 5 3).bind fun v6 => (xpf h l0 5 3 (.int (v6 + 1))).bind fun h7 => some (none, h7)) := (xB [10, 51] 500 106 51 [some (.ref l0), some (.int l1)] [] h).trans rfl
-- 107 XModel.back
set_option maxRecDepth 100000 in
set_option maxHeartbeats 4000000 in
theorem xb107 (l0 : Nat) (h : xH) : xM 107 [.ref l0] h = (xfI h l0 5 3).bind fun v1 => 
  if v1 = 0 then (xgu h l0 5 (xcI (xM 104 [.ref l0, .int (-3)] h) fun v3 h2 => some (some (.int v3), h2)))
  else ((xfI h l0 5 3).bind fun v4 => (xpf h l0 5 3 (.int (v4 - 1))).bind fun h5 => xE 107 26 [some (.ref l0), some (.int 0)] [] h5) := (xB [26] 500 107 0 [some (.ref l0), none] [] h).trans rfl
set_option maxRecDepth 100000 in
set_option maxHeartbeats 4000000 in
theorem xb107_26 (l0 : Nat) (l1 : Int32) (h : xH) : xE 107 26 [some (.ref l0), some (.int l1)] [] h = 
  if l1 < 311 then ((xfR h l0 5 0).bind fun v1 => (xfR h l0 5 2).bind fun v2 => (xfI h l0 5 3).bind fun v3 => (xri h 0 v2 ((311 * v3) + l1)).bind fun v4 => (xwi h 0 v1 l1 v4).bind fun h5 => xE 107 26 [some (.ref l0), some (.int (l1 + 1))] [] h5)
  else ((xfI h l0 5 3).bind fun v6 => some (some (.int v6), h)) := (xB [26] 500 107 26 [some (.ref l0), some (.int l1)] [] h).trans rfl
-- 108 XModel.finished
set_option maxRecDepth 100000 in
set_option maxHeartbeats 4000000 in
theorem xb108 (l0 : Nat) (l1 : Int32) (h : xH) : xM 108 [.ref l0, .int l1] h = 
  if l1 < (-1) then (xgu h l0 5 (xcI (xM 104 [.ref l0, .int l1] h) fun v2 h1 => some (some (.int v2), h1)))
  else (xgu h l0 5 (xcV (xM 106 [.ref l0] h) fun h3 => some (some (.int l1), h3))) := (xB [] 500 108 0 [some (.ref l0), some (.int l1)] [] h).trans rfl
-- 109 XModel.isBox
set_option maxRecDepth 100000 in
set_option maxHeartbeats 4000000 in
theorem xb109 (l0 : Int32) (l1 : Int32) (l2 : Int32) (l3 : Int32) (h : xH) : xM 109 [.int l0, .int l1, .int l2, .int l3] h = xcI (xM 103 [.int l0, .int 0, .int 63] h) fun v2 h1 => 
  if v2 = 0 then (some (some (.int 0), h1))
  else (xcI (xM 103 [.int l1, .int 0, .int 63] h1) fun v4 h3 => 
  if v4 = 0 then (some (some (.int 0), h3))
  else (xcI (xM 103 [.int l2, .int 1, .int (64 - l0)] h3) fun v6 h5 => 
  if v6 = 0 then (some (some (.int 0), h5))
  else (xcI (xM 103 [.int l3, .int 1, .int (64 - l1)] h5) fun v8 h7 => 
  if v8 = 0 then (some (some (.int 0), h7))
  else (some (some (.int 1), h7))))) := (xB [] 500 109 0 [some (.int l0), some (.int l1), some (.int l2), some (.int l3)] [] h).trans rfl
-- 110 XModel.box
set_option maxRecDepth 100000 in
set_option maxHeartbeats 4000000 in
theorem xb110 (l0 : Int32) (l1 : Int32) (l2 : Int32) (l3 : Int32) (h : xH) : xM 110 [.int l0, .int l1, .int l2, .int l3] h = some (some (.int (((l0 ||| (l1 <<< (7 &&& 31))) ||| (l2 <<< (14 &&& 31))) ||| (l3 <<< (21 &&& 31)))), h) := (xB [] 500 110 0 [some (.int l0), some (.int l1), some (.int l2), some (.int l3)] [] h).trans rfl
-- 111 XModel.side
set_option maxRecDepth 100000 in
set_option maxHeartbeats 4000000 in
theorem xb111 (l0 : Int32) (l1 : Int32) (h : xH) : xM 111 [.int l0, .int l1] h = some (some (.int ((l0 >>> ((7 * l1) &&& 31)) &&& 127)), h) := (xB [] 500 111 0 [some (.int l0), some (.int l1)] [] h).trans rfl
-- 112 XModel.area
set_option maxRecDepth 100000 in
set_option maxHeartbeats 4000000 in
theorem xb112 (l0 : Int32) (h : xH) : xM 112 [.int l0] h = 
  if l0 = (-1) then (some (some (.int 0), h))
  else (xcI (xM 111 [.int l0, .int 2] h) fun v2 h1 => xcI (xM 111 [.int l0, .int 0] h1) fun v4 h3 => xcI (xM 111 [.int l0, .int 3] h3) fun v6 h5 => xcI (xM 111 [.int l0, .int 1] h5) fun v8 h7 => some (some (.int ((v2 - v4) * (v6 - v8))), h7)) := (xB [] 500 112 0 [some (.int l0)] [] h).trans rfl
-- 113 XModel.lesser
set_option maxRecDepth 100000 in
set_option maxHeartbeats 4000000 in
theorem xb113 (l0 : Int32) (l1 : Int32) (h : xH) : xM 113 [.int l0, .int l1] h = 
  if l0 < l1 then (some (some (.int l0), h))
  else (some (some (.int l1), h)) := (xB [] 500 113 0 [some (.int l0), some (.int l1)] [] h).trans rfl
-- 114 XModel.greater
set_option maxRecDepth 100000 in
set_option maxHeartbeats 4000000 in
theorem xb114 (l0 : Int32) (l1 : Int32) (h : xH) : xM 114 [.int l0, .int l1] h = 
  if l1 < l0 then (some (some (.int l0), h))
  else (some (some (.int l1), h)) := (xB [] 500 114 0 [some (.int l0), some (.int l1)] [] h).trans rfl
-- 115 XModel.union
set_option maxRecDepth 100000 in
set_option maxHeartbeats 4000000 in
theorem xb115 (l0 : Int32) (l1 : Int32) (h : xH) : xM 115 [.int l0, .int l1] h = 
  if l0 = (-1) then (
  if l0 = (-1) then (some (some (.int l1), h))
  else (some (some (.int l0), h)))
  else (
  if l1 = (-1) then (
  if l0 = (-1) then (some (some (.int l1), h))
  else (some (some (.int l0), h)))
  else (xcI (xM 111 [.int l0, .int 0] h) fun v2 h1 => xcI (xM 111 [.int l1, .int 0] h1) fun v4 h3 => xcI (xM 113 [.int v2, .int v4] h3) fun v6 h5 => xcI (xM 111 [.int l0, .int 1] h5) fun v8 h7 => xcI (xM 111 [.int l1, .int 1] h7) fun v10 h9 => xcI (xM 113 [.int v8, .int v10] h9) fun v12 h11 => xcI (xM 111 [.int l0, .int 2] h11) fun v14 h13 => xcI (xM 111 [.int l1, .int 2] h13) fun v16 h15 => xcI (xM 114 [.int v14, .int v16] h15) fun v18 h17 => xcI (xM 111 [.int l0, .int 3] h17) fun v20 h19 => xcI (xM 111 [.int l1, .int 3] h19) fun v22 h21 => xcI (xM 114 [.int v20, .int v22] h21) fun v24 h23 => xcI (xM 110 [.int v6, .int v12, .int v18, .int v24] h23) fun v26 h25 => some (some (.int v26), h25))) := (xB [] 500 115 0 [some (.int l0), some (.int l1), none, none] [] h).trans rfl
-- 116 XModel.common
set_option maxRecDepth 100000 in
set_option maxHeartbeats 4000000 in
theorem xb116 (l0 : Int32) (l1 : Int32) (h : xH) : xM 116 [.int l0, .int l1] h = 
  if l0 = (-1) then (some (some (.int (-1)), h))
  else (
  if l1 = (-1) then (some (some (.int (-1)), h))
  else (xcI (xM 111 [.int l0, .int 0] h) fun v2 h1 => xcI (xM 111 [.int l1, .int 0] h1) fun v4 h3 => xcI (xM 114 [.int v2, .int v4] h3) fun v6 h5 => xcI (xM 111 [.int l0, .int 1] h5) fun v8 h7 => xcI (xM 111 [.int l1, .int 1] h7) fun v10 h9 => xcI (xM 114 [.int v8, .int v10] h9) fun v12 h11 => xcI (xM 111 [.int l0, .int 2] h11) fun v14 h13 => xcI (xM 111 [.int l1, .int 2] h13) fun v16 h15 => xcI (xM 113 [.int v14, .int v16] h15) fun v18 h17 => xcI (xM 111 [.int l0, .int 3] h17) fun v20 h19 => xcI (xM 111 [.int l1, .int 3] h19) fun v22 h21 => xcI (xM 113 [.int v20, .int v22] h21) fun v24 h23 => 
  if v6 < v18 then (
  if v12 < v24 then (xcI (xM 110 [.int v6, .int v12, .int v18, .int v24] h23) fun v26 h25 => some (some (.int v26), h25))
  else (some (some (.int (-1)), h23)))
  else (some (some (.int (-1)), h23)))) := (xB [] 500 116 0 [some (.int l0), some (.int l1), none, none, none, none] [] h).trans rfl
-- 117 XModel.waste
set_option maxRecDepth 100000 in
set_option maxHeartbeats 4000000 in
theorem xb117 (l0 : Int32) (l1 : Int32) (h : xH) : xM 117 [.int l0, .int l1] h = xcI (xM 115 [.int l0, .int l1] h) fun v2 h1 => xcI (xM 112 [.int v2] h1) fun v4 h3 => xcI (xM 112 [.int l0] h3) fun v6 h5 => xcI (xM 112 [.int l1] h5) fun v8 h7 => some (some (.int ((v4 - v6) - v8)), h7) := (xB [] 500 117 0 [some (.int l0), some (.int l1)] [] h).trans rfl
-- 118 XModel.partOf
set_option maxRecDepth 100000 in
set_option maxHeartbeats 4000000 in
theorem xb118 (l0 : Int32) (l1 : Int32) (l2 : Int32) (h : xH) : xM 118 [.int l0, .int l1, .int l2] h = 
  if l0 = (-1) then (some (some (.int l2), h))
  else (
  if l1 < 2 then (xcI (xM 111 [.int l0, .int l1] h) fun v2 h1 => some (some (.int v2), h1))
  else (xcI (xM 111 [.int l0, .int l1] h) fun v4 h3 => xcI (xM 111 [.int l0, .int (l1 - 2)] h3) fun v6 h5 => some (some (.int (v4 - v6)), h5))) := (xB [] 500 118 0 [some (.int l0), some (.int l1), some (.int l2)] [] h).trans rfl
-- 119 XModel.of0
set_option maxRecDepth 100000 in
set_option maxHeartbeats 4000000 in
theorem xb119 (l0 : Nat) (l1 : Int32) (l2 : Int32) (h : xH) : xM 119 [.ref l0, .int l1, .int l2] h = (xfR h l0 5 0).bind fun v1 => (xri h 0 v1 ((4 * l1) + l2)).bind fun v2 => some (some (.int v2), h) := (xB [] 500 119 0 [some (.ref l0), some (.int l1), some (.int l2)] [] h).trans rfl
-- 120 XModel.isShape
set_option maxRecDepth 100000 in
set_option maxHeartbeats 4000000 in
theorem xb120 (l0 : Nat) (l1 : Int32) (h : xH) : xM 120 [.ref l0, .int l1] h = xcI (xM 103 [.int l1, .int 0, .int 15] h) fun v2 h1 => 
  if v2 = 0 then (some (some (.int 0), h1))
  else (xgu h1 l0 5 (xcI (xM 119 [.ref l0, .int l1, .int 0] h1) fun v4 h3 => 
  if v4 = 1 then (some (some (.int 1), h3))
  else (some (some (.int 0), h3)))) := (xB [] 500 120 0 [some (.ref l0), some (.int l1)] [] h).trans rfl
-- 121 XModel.shapes
set_option maxRecDepth 100000 in
set_option maxHeartbeats 4000000 in
theorem xb121 (l0 : Nat) (h : xH) : xM 121 [.ref l0] h = xE 121 4 [some (.ref l0), some (.int 0), some (.int 0)] [] h := (xB [4] 500 121 0 [some (.ref l0), none, none] [] h).trans rfl
set_option maxRecDepth 100000 in
set_option maxHeartbeats 4000000 in
theorem xb121_4 (l0 : Nat) (l1 : Int32) (l2 : Int32) (h : xH) : xE 121 4 [some (.ref l0), some (.int l1), some (.int l2)] [] h = 
  if l2 < 16 then (xgu h l0 5 (xcI (xM 119 [.ref l0, .int l2, .int 0] h) fun v2 h1 => xE 121 4 [some (.ref l0), some (.int (l1 + v2)), some (.int (l2 + 1))] [] h1))
  else (some (some (.int l1), h)) := (xB [4] 500 121 4 [some (.ref l0), some (.int l1), some (.int l2)] [] h).trans rfl
-- 122 XModel.viewOf
set_option maxRecDepth 100000 in
set_option maxHeartbeats 4000000 in
theorem xb122 (l0 : Nat) (l1 : Int32) (h : xH) : xM 122 [.ref l0, .int l1] h = xgu h l0 5 (xcI (xM 119 [.ref l0, .int l1, .int 1] h) fun v2 h1 => xgu h1 l0 5 (xcI (xM 119 [.ref l0, .int l1, .int 3] h1) fun v4 h3 => xE 122 14 [some (.ref l0), some (.int l1), some (.int v2), some (.int v4)] [] h3)) := (xB [14] 500 122 0 [some (.ref l0), some (.int l1), none, none] [] h).trans rfl
set_option maxRecDepth 100000 in
set_option maxHeartbeats 4000000 in
theorem xb122_14 (l0 : Nat) (l1 : Int32) (l2 : Int32) (l3 : Int32) (h : xH) : xE 122 14 [some (.ref l0), some (.int l1), some (.int l2), some (.int l3)] [] h = 
  if l3 = 16 then (some (some (.int l2), h))
  else (xgu h l0 5 (xcI (xM 119 [.ref l0, .int l3, .int 1] h) fun v2 h1 => xcI (xM 116 [.int l2, .int v2] h1) fun v4 h3 => xgu h3 l0 5 (xcI (xM 119 [.ref l0, .int l3, .int 3] h3) fun v6 h5 => xE 122 14 [some (.ref l0), some (.int l1), some (.int v4), some (.int v6)] [] h5))) := (xB [14] 500 122 14 [some (.ref l0), some (.int l1), some (.int l2), some (.int l3)] [] h).trans rfl
-- 123 XModel.dependsOn
set_option maxRecDepth 100000 in
set_option maxHeartbeats 4000000 in
theorem xb123 (l0 : Nat) (l1 : Int32) (l2 : Int32) (h : xH) : xM 123 [.ref l0, .int l1, .int l2] h = xE 123 2 [some (.ref l0), some (.int l1), some (.int l2), some (.int l1)] [] h := (xB [2] 500 123 0 [some (.ref l0), some (.int l1), some (.int l2), none] [] h).trans rfl
set_option maxRecDepth 100000 in
set_option maxHeartbeats 4000000 in
theorem xb123_2 (l0 : Nat) (l1 : Int32) (l2 : Int32) (l3 : Int32) (h : xH) : xE 123 2 [some (.ref l0), some (.int l1), some (.int l2), some (.int l3)] [] h = 
  if l3 = 16 then (
  if l3 = l2 then (some (some (.int 1), h))
  else (some (some (.int 0), h)))
  else (
  if l3 = l2 then (
  if l3 = l2 then (some (some (.int 1), h))
  else (some (some (.int 0), h)))
  else (xgu h l0 5 (xcI (xM 119 [.ref l0, .int l3, .int 3] h) fun v2 h1 => xE 123 2 [some (.ref l0), some (.int l1), some (.int l2), some (.int v2)] [] h1))) := (xB [2] 500 123 2 [some (.ref l0), some (.int l1), some (.int l2), some (.int l3)] [] h).trans rfl
-- 124 XModel.clippedBy
set_option maxRecDepth 100000 in
set_option maxHeartbeats 4000000 in
theorem xb124 (l0 : Nat) (l1 : Int32) (h : xH) : xM 124 [.ref l0, .int l1] h = xE 124 4 [some (.ref l0), some (.int l1), some (.int 0), some (.int 0)] [] h := (xB [4] 500 124 0 [some (.ref l0), some (.int l1), none, none] [] h).trans rfl
set_option maxRecDepth 100000 in
set_option maxHeartbeats 4000000 in
theorem xb124_4 (l0 : Nat) (l1 : Int32) (l2 : Int32) (l3 : Int32) (h : xH) : xE 124 4 [some (.ref l0), some (.int l1), some (.int l2), some (.int l3)] [] h = 
  if l3 < 16 then (xgu h l0 5 (xcI (xM 120 [.ref l0, .int l3] h) fun v2 h1 => 
  if v2 = 0 then (xE 124 4 [some (.ref l0), some (.int l1), some (.int (l2 + 0)), some (.int (l3 + 1))] [] h1)
  else (xgu h1 l0 5 (xcI (xM 119 [.ref l0, .int l3, .int 3] h1) fun v4 h3 => 
  if v4 = l1 then (xE 124 4 [some (.ref l0), some (.int l1), some (.int (l2 + 1)), some (.int (l3 + 1))] [] h3)
  else (xE 124 4 [some (.ref l0), some (.int l1), some (.int (l2 + 0)), some (.int (l3 + 1))] [] h3)))))
  else (some (some (.int l2), h)) := (xB [4] 500 124 4 [some (.ref l0), some (.int l1), some (.int l2), some (.int l3)] [] h).trans rfl
-- 125 XModel.isAbove
set_option maxRecDepth 100000 in
set_option maxHeartbeats 4000000 in
theorem xb125 (l0 : Nat) (l1 : Int32) (l2 : Int32) (h : xH) : xM 125 [.ref l0, .int l1, .int l2] h = xgu h l0 5 (xcI (xM 119 [.ref l0, .int l1, .int 2] h) fun v2 h1 => xgu h1 l0 5 (xcI (xM 119 [.ref l0, .int l2, .int 2] h1) fun v4 h3 => 
  if v4 < v2 then (some (some (.int 1), h3))
  else (xgu h3 l0 5 (xcI (xM 119 [.ref l0, .int l1, .int 2] h3) fun v6 h5 => xgu h5 l0 5 (xcI (xM 119 [.ref l0, .int l2, .int 2] h5) fun v8 h7 => 
  if v6 = v8 then (
  if l2 < l1 then (some (some (.int 1), h7))
  else (some (some (.int 0), h7)))
  else (some (some (.int 0), h7))))))) := (xB [] 500 125 0 [some (.ref l0), some (.int l1), some (.int l2)] [] h).trans rfl
-- 126 XModel.nodePlace
set_option maxRecDepth 100000 in
set_option maxHeartbeats 4000000 in
theorem xb126 (l0 : Int32) (h : xH) : xM 126 [.int l0] h = some (some (.int (64 + (10 * l0))), h) := (xB [] 500 126 0 [some (.int l0)] [] h).trans rfl
-- 127 XModel.ofNode
set_option maxRecDepth 100000 in
set_option maxHeartbeats 4000000 in
theorem xb127 (l0 : Nat) (l1 : Int32) (l2 : Int32) (h : xH) : xM 127 [.ref l0, .int l1, .int l2] h = (xfR h l0 5 0).bind fun v1 => xcI (xM 126 [.int l1] h) fun v3 h2 => (xri h2 0 v1 (v3 + l2)).bind fun v4 => some (some (.int v4), h2) := (xB [] 500 127 0 [some (.ref l0), some (.int l1), some (.int l2)] [] h).trans rfl
-- 128 XModel.tellNode
set_option maxRecDepth 100000 in
set_option maxHeartbeats 4000000 in
theorem xb128 (l0 : Nat) (l1 : Int32) (l2 : Int32) (l3 : Int32) (h : xH) : xM 128 [.ref l0, .int l1, .int l2, .int l3] h = (xfR h l0 5 0).bind fun v1 => xcI (xM 126 [.int l1] h) fun v3 h2 => (xwi h2 0 v1 (v3 + l2) l3).bind fun h4 => some (none, h4) := (xB [] 500 128 0 [some (.ref l0), some (.int l1), some (.int l2), some (.int l3)] [] h).trans rfl
-- 129 XModel.entryBox
set_option maxRecDepth 100000 in
set_option maxHeartbeats 4000000 in
theorem xb129 (l0 : Nat) (l1 : Int32) (l2 : Int32) (h : xH) : xM 129 [.ref l0, .int l1, .int l2] h = xgu h l0 5 (xcI (xM 127 [.ref l0, .int l1, .int 1] h) fun v2 h1 => 
  if v2 = 1 then (xgu h1 l0 5 (xcI (xM 119 [.ref l0, .int l2, .int 1] h1) fun v4 h3 => some (some (.int v4), h3)))
  else (xgu h1 l0 5 (xcI (xM 127 [.ref l0, .int l2, .int 4] h1) fun v6 h5 => some (some (.int v6), h5)))) := (xB [] 500 129 0 [some (.ref l0), some (.int l1), some (.int l2)] [] h).trans rfl
-- 130 XModel.boxes
set_option maxRecDepth 100000 in
set_option maxHeartbeats 4000000 in
theorem xb130 (l0 : Nat) (l1 : Int32) (h : xH) : xM 130 [.ref l0, .int l1] h = xE 130 4 [some (.ref l0), some (.int l1), some (.int (-1)), some (.int 0)] [] h := (xB [4] 500 130 0 [some (.ref l0), some (.int l1), none, none] [] h).trans rfl
set_option maxRecDepth 100000 in
set_option maxHeartbeats 4000000 in
theorem xb130_4 (l0 : Nat) (l1 : Int32) (l2 : Int32) (l3 : Int32) (h : xH) : xE 130 4 [some (.ref l0), some (.int l1), some (.int l2), some (.int l3)] [] h = xgu h l0 5 (xcI (xM 127 [.ref l0, .int l1, .int 2] h) fun v2 h1 => 
  if l3 < v2 then (xgu h1 l0 5 (xcI (xM 127 [.ref l0, .int l1, .int (5 + l3)] h1) fun v4 h3 => xgu h3 l0 5 (xcI (xM 129 [.ref l0, .int l1, .int v4] h3) fun v6 h5 => xcI (xM 115 [.int l2, .int v6] h5) fun v8 h7 => xE 130 4 [some (.ref l0), some (.int l1), some (.int v8), some (.int (l3 + 1))] [] h7)))
  else (xgu h1 l0 5 (xcV (xM 128 [.ref l0, .int l1, .int 4, .int l2] h1) fun h9 => some (none, h9)))) := (xB [4] 500 130 4 [some (.ref l0), some (.int l1), some (.int l2), some (.int l3)] [] h).trans rfl
-- 131 XModel.boxesUp
set_option maxRecDepth 100000 in
set_option maxHeartbeats 4000000 in
theorem xb131 (l0 : Nat) (l1 : Int32) (h : xH) : xM 131 [.ref l0, .int l1] h = xE 131 2 [some (.ref l0), some (.int l1), some (.int l1)] [] h := (xB [2] 500 131 0 [some (.ref l0), some (.int l1), none] [] h).trans rfl
set_option maxRecDepth 100000 in
set_option maxHeartbeats 4000000 in
theorem xb131_2 (l0 : Nat) (l1 : Int32) (l2 : Int32) (h : xH) : xE 131 2 [some (.ref l0), some (.int l1), some (.int l2)] [] h = 
  if l2 = (-1) then (some (none, h))
  else (xgu h l0 5 (xcV (xM 130 [.ref l0, .int l2] h) fun h1 => xgu h1 l0 5 (xcI (xM 127 [.ref l0, .int l2, .int 3] h1) fun v3 h2 => xE 131 2 [some (.ref l0), some (.int l1), some (.int v3)] [] h2))) := (xB [2] 500 131 2 [some (.ref l0), some (.int l1), some (.int l2)] [] h).trans rfl
-- 132 XModel.newNode
set_option maxRecDepth 100000 in
set_option maxHeartbeats 4000000 in
theorem xb132 (l0 : Nat) (l1 : Int32) (h : xH) : xM 132 [.ref l0, .int l1] h = xE 132 2 [some (.ref l0), some (.int l1), some (.int 0)] [] h := (xB [2] 500 132 0 [some (.ref l0), some (.int l1), none] [] h).trans rfl
set_option maxRecDepth 100000 in
set_option maxHeartbeats 4000000 in
theorem xb132_2 (l0 : Nat) (l1 : Int32) (l2 : Int32) (h : xH) : xE 132 2 [some (.ref l0), some (.int l1), some (.int l2)] [] h = xgu h l0 5 (xcI (xM 127 [.ref l0, .int l2, .int 0] h) fun v2 h1 => 
  if v2 = 1 then (xE 132 2 [some (.ref l0), some (.int l1), some (.int (l2 + 1))] [] h1)
  else (xgu h1 l0 5 (xcV (xM 128 [.ref l0, .int l2, .int 0, .int 1] h1) fun h3 => xgu h3 l0 5 (xcV (xM 128 [.ref l0, .int l2, .int 1, .int l1] h3) fun h4 => xgu h4 l0 5 (xcV (xM 128 [.ref l0, .int l2, .int 2, .int 0] h4) fun h5 => xgu h5 l0 5 (xcV (xM 128 [.ref l0, .int l2, .int 3, .int (-1)] h5) fun h6 => xgu h6 l0 5 (xcV (xM 128 [.ref l0, .int l2, .int 4, .int (-1)] h6) fun h7 => some (some (.int l2), h7)))))))) := (xB [2] 500 132 2 [some (.ref l0), some (.int l1), some (.int l2)] [] h).trans rfl
-- 133 XModel.inserts
set_option maxRecDepth 100000 in
set_option maxHeartbeats 4000000 in
theorem xb133 (l0 : Nat) (l1 : Int32) (l2 : Int32) (l3 : Int32) (h : xH) : xM 133 [.ref l0, .int l1, .int l2, .int l3] h = xgu h l0 5 (xcI (xM 127 [.ref l0, .int l1, .int 2] h) fun v2 h1 => xE 133 12 [some (.ref l0), some (.int l1), some (.int l2), some (.int l3), some (.int v2), some (.int v2)] [] h1) := (xB [12] 500 133 0 [some (.ref l0), some (.int l1), some (.int l2), some (.int l3), none, none] [] h).trans rfl
set_option maxRecDepth 100000 in
set_option maxHeartbeats 4000000 in
theorem xb133_12 (l0 : Nat) (l1 : Int32) (l2 : Int32) (l3 : Int32) (l4 : Int32) (l5 : Int32) (h : xH) : xE 133 12 [some (.ref l0), some (.int l1), some (.int l2), some (.int l3), some (.int l4), some (.int l5)] [] h = 
  if l2 < l5 then (xgu h l0 5 (xcI (xM 127 [.ref l0, .int l1, .int ((5 + l5) - 1)] h) fun v2 h1 => xgu h1 l0 5 (xcV (xM 128 [.ref l0, .int l1, .int (5 + l5), .int v2] h1) fun h3 => xE 133 12 [some (.ref l0), some (.int l1), some (.int l2), some (.int l3), some (.int l4), some (.int (l5 + (-1)))] [] h3)))
  else (xgu h l0 5 (xcV (xM 128 [.ref l0, .int l1, .int (5 + l2), .int l3] h) fun h4 => xgu h4 l0 5 (xcV (xM 128 [.ref l0, .int l1, .int 2, .int (l4 + 1)] h4) fun h5 => xgu h5 l0 5 (xcI (xM 127 [.ref l0, .int l1, .int 1] h5) fun v7 h6 => 
  if v7 = 0 then (xgu h6 l0 5 (xcV (xM 128 [.ref l0, .int l3, .int 3, .int l1] h6) fun h8 => some (none, h8)))
  else (some (none, h6)))))) := (xB [12] 500 133 12 [some (.ref l0), some (.int l1), some (.int l2), some (.int l3), some (.int l4), some (.int l5)] [] h).trans rfl
-- 134 XModel.indexOf
set_option maxRecDepth 100000 in
set_option maxHeartbeats 4000000 in
theorem xb134 (l0 : Nat) (l1 : Int32) (l2 : Int32) (h : xH) : xM 134 [.ref l0, .int l1, .int l2] h = xE 134 2 [some (.ref l0), some (.int l1), some (.int l2), some (.int 0)] [] h := (xB [2] 500 134 0 [some (.ref l0), some (.int l1), some (.int l2), none] [] h).trans rfl
set_option maxRecDepth 100000 in
set_option maxHeartbeats 4000000 in
theorem xb134_2 (l0 : Nat) (l1 : Int32) (l2 : Int32) (l3 : Int32) (h : xH) : xE 134 2 [some (.ref l0), some (.int l1), some (.int l2), some (.int l3)] [] h = xgu h l0 5 (xcI (xM 127 [.ref l0, .int l1, .int 2] h) fun v2 h1 => 
  if l3 < v2 then (xgu h1 l0 5 (xcI (xM 127 [.ref l0, .int l1, .int (5 + l3)] h1) fun v4 h3 => 
  if v4 = l2 then (some (some (.int l3), h3))
  else (xE 134 2 [some (.ref l0), some (.int l1), some (.int l2), some (.int (l3 + 1))] [] h3)))
  else (some (some (.int l3), h1))) := (xB [2] 500 134 2 [some (.ref l0), some (.int l1), some (.int l2), some (.int l3)] [] h).trans rfl
-- 135 XModel.takesOut
set_option maxRecDepth 100000 in
set_option maxHeartbeats 4000000 in
theorem xb135 (l0 : Nat) (l1 : Int32) (l2 : Int32) (h : xH) : xM 135 [.ref l0, .int l1, .int l2] h = xgu h l0 5 (xcI (xM 134 [.ref l0, .int l1, .int l2] h) fun v2 h1 => xgu h1 l0 5 (xcI (xM 127 [.ref l0, .int l1, .int 2] h1) fun v4 h3 => xE 135 18 [some (.ref l0), some (.int l1), some (.int l2), some (.int v2), some (.int v4), some (.int v2)] [] h3)) := (xB [18] 500 135 0 [some (.ref l0), some (.int l1), some (.int l2), none, none, none] [] h).trans rfl
set_option maxRecDepth 100000 in
set_option maxHeartbeats 4000000 in
theorem xb135_18 (l0 : Nat) (l1 : Int32) (l2 : Int32) (l3 : Int32) (l4 : Int32) (l5 : Int32) (h : xH) : xE 135 18 [some (.ref l0), some (.int l1), some (.int l2), some (.int l3), some (.int l4), some (.int l5)] [] h = 
  if l5 < (l4 - 1) then (xgu h l0 5 (xcI (xM 127 [.ref l0, .int l1, .int ((5 + l5) + 1)] h) fun v2 h1 => xgu h1 l0 5 (xcV (xM 128 [.ref l0, .int l1, .int (5 + l5), .int v2] h1) fun h3 => xE 135 18 [some (.ref l0), some (.int l1), some (.int l2), some (.int l3), some (.int l4), some (.int (l5 + 1))] [] h3)))
  else (xgu h l0 5 (xcV (xM 128 [.ref l0, .int l1, .int 2, .int (l4 - 1)] h) fun h4 => some (none, h4))) := (xB [18] 500 135 18 [some (.ref l0), some (.int l1), some (.int l2), some (.int l3), some (.int l4), some (.int l5)] [] h).trans rfl
-- 136 XModel.growth
set_option maxRecDepth 100000 in
set_option maxHeartbeats 4000000 in
theorem xb136 (l0 : Int32) (l1 : Int32) (h : xH) : xM 136 [.int l0, .int l1] h = xcI (xM 115 [.int l0, .int l1] h) fun v2 h1 => xcI (xM 112 [.int v2] h1) fun v4 h3 => xcI (xM 112 [.int l0] h3) fun v6 h5 => some (some (.int (v4 - v6)), h5) := (xB [] 500 136 0 [some (.int l0), some (.int l1)] [] h).trans rfl
