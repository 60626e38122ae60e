-- 50 X$Tree.init
set_option maxRecDepth 100000 in
set_option maxHeartbeats 4000000 in
theorem xb50 (l0 : Nat) (h : xH) : xM 50 [.ref l0] h = (xpf h l0 3 0 (.int 16)).bind fun h1 => (xpf (xnw h1 (.inl (0, 32, fun _ => 0)) 32) l0 3 1 (.ref h1.1)).bind fun h2 => (xpf (xnw h2 (.inl (0, 32, fun _ => 0)) 32) l0 3 2 (.ref h2.1)).bind fun h3 => (xpf (xnw h3 (.inl (0, 32, fun _ => 0)) 32) l0 3 3 (.ref h3.1)).bind fun h4 => (xpf (xnw h4 (.inl (0, 32, fun _ => 0)) 32) l0 3 4 (.ref h4.1)).bind fun h5 => (xpf (xnw h5 (.inl (0, 80, fun _ => 0)) 80) l0 3 5 (.ref h5.1)).bind fun h6 => (xpf (xnw h6 (.inl (0, 3, fun _ => 0)) 3) l0 3 6 (.ref h6.1)).bind fun h7 => (xpf (xnw h7 (.inl (0, 16, fun _ => 0)) 16) l0 3 7 (.ref h7.1)).bind fun h8 => (xpf (xnw h8 (.inl (0, 16, fun _ => 0)) 16) l0 3 8 (.ref h8.1)).bind fun h9 => (xpf h9 l0 3 9 (.int 0)).bind fun h10 => xE 50 80 [some (.ref l0), some (.int 0)] [] h10 := (xB [80] 500 50 0 [some (.ref l0), none] [] h).trans rfl
set_option maxRecDepth 100000 in
set_option maxHeartbeats 4000000 in
theorem xb50_80 (l0 : Nat) (l1 : Int32) (h : xH) : xE 50 80 [some (.ref l0), some (.int l1)] [] h = 
  if l1 < 32 then ((xfR h l0 3 2).bind fun v1 => (xwi h 0 v1 l1 (-1)).bind fun h2 => (xfR h2 l0 3 3).bind fun v3 => (xwi h2 0 v3 l1 (-1)).bind fun h4 => xE 50 80 [some (.ref l0), some (.int (l1 + 1))] [] h4)
  else ((xfR h l0 3 3).bind fun v5 => (xfI h l0 3 0).bind fun v6 => (xwi h 0 v5 v6 0).bind fun h7 => some (none, h7)) := (xB [80] 500 50 80 [some (.ref l0), some (.int l1)] [] h).trans rfl
-- 51 X$Tree.copyFrom
set_option maxRecDepth 100000 in
set_option maxHeartbeats 4000000 in
theorem xb51 (l0 : Nat) (l1 : Nat) (h : xH) : xM 51 [.ref l0, .ref l1] h = (xfI h l1 3 0).bind fun v1 => (xpf h l0 3 0 (.int v1)).bind fun h2 => (xfR h2 l1 3 1).bind fun v3 => (xfR h2 l0 3 1).bind fun v4 => (xcp h2 v3 0 v4 0 32).bind fun h5 => (xfR h5 l1 3 2).bind fun v6 => (xfR h5 l0 3 2).bind fun v7 => (xcp h5 v6 0 v7 0 32).bind fun h8 => (xfR h8 l1 3 3).bind fun v9 => (xfR h8 l0 3 3).bind fun v10 => (xcp h8 v9 0 v10 0 32).bind fun h11 => (xfR h11 l1 3 4).bind fun v12 => (xfR h11 l0 3 4).bind fun v13 => (xcp h11 v12 0 v13 0 32).bind fun h14 => (xfR h14 l1 3 5).bind fun v15 => (xfR h14 l0 3 5).bind fun v16 => (xcp h14 v15 0 v16 0 80).bind fun h17 => some (none, h17) := (xB [] 500 51 0 [some (.ref l0), some (.ref l1)] [] h).trans rfl
-- 52 X$Tree.place
set_option maxRecDepth 100000 in
set_option maxHeartbeats 4000000 in
theorem xb52 (l0 : Int32) (l1 : Int32) (h : xH) : xM 52 [.int l0, .int l1] h = some (some (.int (((l0 - 16) * 5) + l1)), h) := (xB [] 500 52 0 [some (.int l0), some (.int l1)] [] h).trans rfl
-- 53 X$Tree.put
set_option maxRecDepth 100000 in
set_option maxHeartbeats 4000000 in
theorem xb53 (l0 : Nat) (l1 : Int32) (h : xH) : xM 53 [.ref l0, .int l1] h = (xfI h l0 3 0).bind fun v1 => xE 53 7 [some (.ref l0), some (.int l1), some (.int v1), some (.int 0), none, none] [] h := (xB [7, 48, 111] 500 53 0 [some (.ref l0), some (.int l1), none, none, none, none] [] h).trans rfl
set_option maxRecDepth 100000 in
set_option maxHeartbeats 4000000 in
theorem xb53_7 (l0 : Nat) (l1 : Int32) (l2 : Int32) (l3 : Int32) (h : xH) : xE 53 7 [some (.ref l0), some (.int l1), some (.int l2), some (.int l3), none, none] [] h = 
  if l3 < 16 then ((xfR h l0 3 3).bind fun v1 => (xri h 0 v1 l2).bind fun v2 => 
  if 0 < v2 then ((xfR h l0 3 1).bind fun v3 => (xri h 0 v3 l1).bind fun v4 => xgu h l0 3 (xcI (xM 60 [.ref l0, .int l2, .int v4] h) fun v6 h5 => xE 53 7 [some (.ref l0), some (.int l1), some (.int v6), some (.int (l3 + 1)), none, none] [] h5))
  else (xgu h l0 3 (xcV (xM 61 [.ref l0, .int l2, .int l1] h) fun h7 => xE 53 48 [some (.ref l0), some (.int l1), some (.int l2), some (.int 0), none, none] [] h7)))
  else (xgu h l0 3 (xcV (xM 61 [.ref l0, .int l2, .int l1] h) fun h8 => xE 53 48 [some (.ref l0), some (.int l1), some (.int l2), some (.int 0), none, none] [] h8)) := (xB [7, 48, 111] 500 53 7 [some (.ref l0), some (.int l1), some (.int l2), some (.int l3), none, none] [] h).trans rfl
set_option maxRecDepth 100000 in
set_option maxHeartbeats 4000000 in
theorem xb53_48 (l0 : Nat) (l1 : Int32) (l2 : Int32) (l3 : Int32) (l4 : Option Value) (l5 : Option Value) (h : xH) : xE 53 48 [some (.ref l0), some (.int l1), some (.int l2), some (.int l3), l4, l5] [] h = 
  if l3 < 16 then (
  if l2 = (-1) then (some (none, h))
  else ((xfR h l0 3 4).bind fun v1 => (xri h 0 v1 l2).bind fun v2 => 
  if v2 < 5 then (xgu h l0 3 (xcV (xM 63 [.ref l0, .int l2] h) fun h3 => (xfR h3 l0 3 2).bind fun v4 => (xri h3 0 v4 l2).bind fun v5 => xE 53 48 [some (.ref l0), some (.int l1), some (.int v5), some (.int (l3 + 1)), l4, l5] [] h3))
  else ((xfR h l0 3 3).bind fun v6 => (xri h 0 v6 l2).bind fun v7 => xgu h l0 3 (xcI (xM 64 [.ref l0, .int v7] h) fun v9 h8 => 
  if v9 = (-1) then (some (none, h8))
  else (xgu h8 l0 3 (xcI (xM 66 [.ref l0, .int l2] h8) fun v11 h10 => xgu h10 l0 3 (xcV (xM 67 [.ref l0, .int l2, .int v9, .int v11] h10) fun h12 => xE 53 111 [some (.ref l0), some (.int l1), some (.int l2), some (.int l3), some (.int v9), some (.int 0)] [] h12)))))))
  else (some (none, h)) := (xB [7, 48, 111] 500 53 48 [some (.ref l0), some (.int l1), some (.int l2), some (.int l3), l4, l5] [] h).trans rfl
set_option maxRecDepth 100000 in
set_option maxHeartbeats 4000000 in
theorem xb53_111 (l0 : Nat) (l1 : Int32) (l2 : Int32) (l3 : Int32) (l4 : Int32) (l5 : Int32) (h : xH) : xE 53 111 [some (.ref l0), some (.int l1), some (.int l2), some (.int l3), some (.int l4), some (.int l5)] [] h = 
  if l5 < 3 then (xgu h l0 3 (xcI (xM 68 [.ref l0, .int l2, .int l4, .int l5] h) fun v2 h1 => (xfR h1 l0 3 6).bind fun v3 => (xri h1 0 v3 l5).bind fun v4 => xgu h1 l0 3 (xcV (xM 61 [.ref l0, .int v2, .int v4] h1) fun h5 => xE 53 111 [some (.ref l0), some (.int l1), some (.int l2), some (.int l3), some (.int l4), some (.int (l5 + 1))] [] h5)))
  else (xgu h l0 3 (xcV (xM 69 [.ref l0, .int l2, .int l4] h) fun h6 => (xfR h6 l0 3 2).bind fun v7 => (xri h6 0 v7 l2).bind fun v8 => xE 53 48 [some (.ref l0), some (.int l1), some (.int v8), some (.int (l3 + 1)), some (.int l4), some (.int l5)] [] h6)) := (xB [7, 48, 111] 500 53 111 [some (.ref l0), some (.int l1), some (.int l2), some (.int l3), some (.int l4), some (.int l5)] [] h).trans rfl
-- 54 X$Tree.takeOut
set_option maxRecDepth 100000 in
set_option maxHeartbeats 4000000 in
theorem xb54 (l0 : Nat) (l1 : Int32) (h : xH) : xM 54 [.ref l0, .int l1] h = (xpf h l0 3 9 (.int 0)).bind fun h1 => (xfR h1 l0 3 2).bind fun v2 => (xri h1 0 v2 l1).bind fun v3 => 
  if v3 = (-1) then (some (none, h1))
  else (xgu h1 l0 3 (xcV (xM 62 [.ref l0, .int v3, .int l1] h1) fun h4 => xE 54 26 [some (.ref l0), some (.int l1), some (.int v3), some (.int 0), none] [] h4)) := (xB [26] 500 54 0 [some (.ref l0), some (.int l1), none, none, none] [] h).trans rfl
set_option maxRecDepth 100000 in
set_option maxHeartbeats 4000000 in
theorem xb54_26 (l0 : Nat) (l1 : Int32) (l2 : Int32) (l3 : Int32) (l4 : Option Value) (h : xH) : xE 54 26 [some (.ref l0), some (.int l1), some (.int l2), some (.int l3), l4] [] h = 
  if l3 < 16 then ((xfR h l0 3 2).bind fun v1 => (xri h 0 v1 l2).bind fun v2 => 
  if v2 = (-1) then ((xfI h l0 3 0).bind fun v3 => xgu h l0 3 (xcV (xM 63 [.ref l0, .int v3] h) fun h4 => xgu h4 l0 3 (xcV (xM 72 [.ref l0] h4) fun h5 => some (none, h5))))
  else ((xfR h l0 3 2).bind fun v6 => (xri h 0 v6 l2).bind fun v7 => (xfR h l0 3 4).bind fun v8 => (xri h 0 v8 l2).bind fun v9 => 
  if v9 < 2 then (xgu h l0 3 (xcV (xM 62 [.ref l0, .int v7, .int l2] h) fun h10 => xgu h10 l0 3 (xcV (xM 71 [.ref l0, .int l2] h10) fun h11 => xE 54 26 [some (.ref l0), some (.int l1), some (.int v7), some (.int (l3 + 1)), some (.int v7)] [] h11)))
  else (xgu h l0 3 (xcV (xM 63 [.ref l0, .int l2] h) fun h12 => xE 54 26 [some (.ref l0), some (.int l1), some (.int v7), some (.int (l3 + 1)), some (.int v7)] [] h12))))
  else ((xfI h l0 3 0).bind fun v13 => xgu h l0 3 (xcV (xM 63 [.ref l0, .int v13] h) fun h14 => xgu h14 l0 3 (xcV (xM 72 [.ref l0] h14) fun h15 => some (none, h15)))) := (xB [26] 500 54 26 [some (.ref l0), some (.int l1), some (.int l2), some (.int l3), l4] [] h).trans rfl
-- 55 X$Tree.lineUp
set_option maxRecDepth 100000 in
set_option maxHeartbeats 4000000 in
theorem xb55 (l0 : Nat) (l1 : Int32) (h : xH) : xM 55 [.ref l0, .int l1] h = (xfR h l0 3 7).bind fun v1 => (xwi h 0 v1 0 l1).bind fun h2 => xE 55 11 [some (.ref l0), some (.int l1), some (.int 1), some (.int 0), none, none] [] h2 := (xB [11, 59] 500 55 0 [some (.ref l0), some (.int l1), none, none, none, none] [] h).trans rfl
set_option maxRecDepth 100000 in
set_option maxHeartbeats 4000000 in
theorem xb55_11 (l0 : Nat) (l1 : Int32) (l2 : Int32) (l3 : Int32) (l4 : Option Value) (l5 : Option Value) (h : xH) : xE 55 11 [some (.ref l0), some (.int l1), some (.int l2), some (.int l3), l4, l5] [] h = 
  if l3 < l2 then (
  if l3 < 16 then ((xfR h l0 3 7).bind fun v1 => (xri h 0 v1 l3).bind fun v2 => (xfR h l0 3 3).bind fun v3 => (xri h 0 v3 v2).bind fun v4 => 
  if 0 < v4 then ((xfR h l0 3 4).bind fun v5 => (xri h 0 v5 v2).bind fun v6 => 
  if 16 < (l2 + v6) then (xE 55 11 [some (.ref l0), some (.int l1), some (.int l2), some (.int (l3 + 1)), some (.int v2), l5] [] h)
  else (xE 55 59 [some (.ref l0), some (.int l1), some (.int l2), some (.int l3), some (.int v2), some (.int (l2 - 1))] [] h))
  else (xE 55 11 [some (.ref l0), some (.int l1), some (.int l2), some (.int (l3 + 1)), some (.int v2), l5] [] h))
  else (some (some (.int l2), h)))
  else (some (some (.int l2), h)) := (xB [11, 59] 500 55 11 [some (.ref l0), some (.int l1), some (.int l2), some (.int l3), l4, l5] [] h).trans rfl
set_option maxRecDepth 100000 in
set_option maxHeartbeats 4000000 in
theorem xb55_59 (l0 : Nat) (l1 : Int32) (l2 : Int32) (l3 : Int32) (l4 : Int32) (l5 : Int32) (h : xH) : xE 55 59 [some (.ref l0), some (.int l1), some (.int l2), some (.int l3), some (.int l4), some (.int l5)] [] h = 
  if l3 < l5 then ((xfR h l0 3 7).bind fun v1 => (xfR h l0 3 4).bind fun v2 => (xri h 0 v2 l4).bind fun v3 => (xfR h l0 3 7).bind fun v4 => (xri h 0 v4 l5).bind fun v5 => (xwi h 0 v1 (l5 + v3) v5).bind fun h6 => xE 55 59 [some (.ref l0), some (.int l1), some (.int l2), some (.int l3), some (.int l4), some (.int (l5 + (-1)))] [] h6)
  else ((xfR h l0 3 5).bind fun v7 => xcI (xM 52 [.int l4, .int 0] h) fun v9 h8 => (xfR h8 l0 3 7).bind fun v10 => (xfR h8 l0 3 4).bind fun v11 => (xri h8 0 v11 l4).bind fun v12 => (xcp h8 v7 v9 v10 (l3 + 1) v12).bind fun h13 => (xfR h13 l0 3 4).bind fun v14 => (xri h13 0 v14 l4).bind fun v15 => xE 55 11 [some (.ref l0), some (.int l1), some (.int (l2 + v15)), some (.int (l3 + 1)), some (.int l4), some (.int l5)] [] h13) := (xB [11, 59] 500 55 59 [some (.ref l0), some (.int l1), some (.int l2), some (.int l3), some (.int l4), some (.int l5)] [] h).trans rfl
-- 56 X$Tree.noteAll
set_option maxRecDepth 100000 in
set_option maxHeartbeats 4000000 in
theorem xb56 (l0 : Nat) (h : xH) : xM 56 [.ref l0] h = (xpf h l0 3 9 (.int 0)).bind fun h1 => (xfI h1 l0 3 0).bind fun v2 => xgu h1 l0 3 (xcI (xM 55 [.ref l0, .int v2] h1) fun v4 h3 => xgu h3 l0 3 (xcV (xM 70 [.ref l0, .int v4] h3) fun h5 => (xfI h5 l0 3 9).bind fun v6 => some (some (.int v6), h5))) := (xB [] 500 56 0 [some (.ref l0)] [] h).trans rfl
-- 57 X$Tree.summary
set_option maxRecDepth 100000 in
set_option maxHeartbeats 4000000 in
theorem xb57 (l0 : Nat) (l1 : Int32) (h : xH) : xM 57 [.ref l0, .int l1] h = xE 57 11 [some (.ref l0), some (.int l1), some (.int 0), some (.int 0), some (.int 0), some (.int 16)] [] h := (xB [11, 32] 500 57 0 [some (.ref l0), some (.int l1), none, none, none, none] [] h).trans rfl
set_option maxRecDepth 100000 in
set_option maxHeartbeats 4000000 in
theorem xb57_11 (l0 : Nat) (l1 : Int32) (l2 : Int32) (l3 : Int32) (l4 : Int32) (l5 : Int32) (h : xH) : xE 57 11 [some (.ref l0), some (.int l1), some (.int l2), some (.int l3), some (.int l4), some (.int l5)] [] h = 
  if l5 < 32 then ((xfR h l0 3 3).bind fun v1 => (xri h 0 v1 l5).bind fun v2 => 
  if v2 = (-1) then (xE 57 32 [some (.ref l0), some (.int l1), some (.int l2), some (.int l3), some (.int l4), some (.int l5)] [] h)
  else (xE 57 32 [some (.ref l0), some (.int l1), some (.int (l2 + 1)), some (.int l3), some (.int l4), some (.int l5)] [] h))
  else (
  if l1 = 0 then (some (some (.int l2), h))
  else (
  if l1 = 1 then (some (some (.int l3), h))
  else (
  if l1 = 2 then ((xfR h l0 3 3).bind fun v3 => (xfI h l0 3 0).bind fun v4 => (xri h 0 v3 v4).bind fun v5 => some (some (.int v5), h))
  else (some (some (.int l4), h))))) := (xB [11, 32] 500 57 11 [some (.ref l0), some (.int l1), some (.int l2), some (.int l3), some (.int l4), some (.int l5)] [] h).trans rfl
set_option maxRecDepth 100000 in
set_option maxHeartbeats 4000000 in
theorem xb57_32 (l0 : Nat) (l1 : Int32) (l2 : Int32) (l3 : Int32) (l4 : Int32) (l5 : Int32) (h : xH) : xE 57 32 [some (.ref l0), some (.int l1), some (.int l2), some (.int l3), some (.int l4), some (.int l5)] [] h = (xfR h l0 3 3).bind fun v1 => (xri h 0 v1 l5).bind fun v2 => 
  if v2 = 0 then ((xfR h l0 3 1).bind fun v3 => (xri h 0 v3 l5).bind fun v4 => xcI (xM 7 [.int v4] h) fun v6 h5 => xE 57 11 [some (.ref l0), some (.int l1), some (.int l2), some (.int (l3 + 1)), some (.int (l4 + v6)), some (.int (l5 + 1))] [] h5)
  else (xE 57 11 [some (.ref l0), some (.int l1), some (.int l2), some (.int l3), some (.int l4), some (.int (l5 + 1))] [] h) := (xB [11, 32] 500 57 32 [some (.ref l0), some (.int l1), some (.int l2), some (.int l3), some (.int l4), some (.int l5)] [] h).trans rfl
-- 58 X$Tree.lineValue
set_option maxRecDepth 100000 in
set_option maxHeartbeats 4000000 in
theorem xb58 (l0 : Nat) (l1 : Int32) (l2 : Int32) (h : xH) : xM 58 [.ref l0, .int l1, .int l2] h = (xfR h l0 3 7).bind fun v1 => (xri h 0 v1 l1).bind fun v2 => 
  if l2 = 0 then ((xfR h l0 3 3).bind fun v9 => (xfI h l0 3 0).bind fun v10 => (xri h 0 v9 v10).bind fun v11 => (xfR h l0 3 3).bind fun v12 => (xri h 0 v12 v2).bind fun v13 => some (some (.int (v11 - v13)), h))
  else (
  if l2 = 1 then ((xfR h l0 3 4).bind fun v7 => (xri h 0 v7 v2).bind fun v8 => some (some (.int v8), h))
  else ((xfR h l0 3 1).bind fun v3 => (xri h 0 v3 v2).bind fun v4 => xcI (xM 6 [.int v4, .int (l2 - 2)] h) fun v6 h5 => some (some (.int v6), h5))) := (xB [] 500 58 0 [some (.ref l0), some (.int l1), some (.int l2), none] [] h).trans rfl
-- 59 X$Tree.digestOn
set_option maxRecDepth 100000 in
set_option maxHeartbeats 4000000 in
theorem xb59 (l0 : Nat) (l1 : Int64) (h : xH) : xM 59 [.ref l0, .long l1] h = xE 59 5 [some (.ref l0), some (.long l1), none, some (.long l1), none, some (.int 0), none, none] [] h := (xB [5, 44, 54] 500 59 0 [some (.ref l0), some (.long l1), none, none, none, none, none, none] [] h).trans rfl
set_option maxRecDepth 100000 in
set_option maxHeartbeats 4000000 in
theorem xb59_5 (l0 : Nat) (l1 : Int64) (l3 : Int64) (l5 : Int32) (h : xH) : xE 59 5 [some (.ref l0), some (.long l1), none, some (.long l3), none, some (.int l5), none, none] [] h = 
  if l5 < 4 then (xgu h l0 3 (xcI (xM 57 [.ref l0, .int l5] h) fun v2 h1 => xE 59 5 [some (.ref l0), some (.long l1), none, some (.long ((((31 : Int32).toInt64) * l3) + ((v2 : Int32).toInt64))), none, some (.int (l5 + 1)), none, none] [] h1))
  else ((xfI h l0 3 0).bind fun v3 => xgu h l0 3 (xcI (xM 55 [.ref l0, .int v3] h) fun v5 h4 => xE 59 44 [some (.ref l0), some (.long l1), none, some (.long l3), none, some (.int v5), some (.int 0), none] [] h4)) := (xB [5, 44, 54] 500 59 5 [some (.ref l0), some (.long l1), none, some (.long l3), none, some (.int l5), none, none] [] h).trans rfl
set_option maxRecDepth 100000 in
set_option maxHeartbeats 4000000 in
theorem xb59_44 (l0 : Nat) (l1 : Int64) (l3 : Int64) (l5 : Int32) (l6 : Int32) (l7 : Option Value) (h : xH) : xE 59 44 [some (.ref l0), some (.long l1), none, some (.long l3), none, some (.int l5), some (.int l6), l7] [] h = 
  if l6 < l5 then (xE 59 54 [some (.ref l0), some (.long l1), none, some (.long l3), none, some (.int l5), some (.int l6), some (.int 0)] [] h)
  else (some (some (.long l3), h)) := (xB [5, 44, 54] 500 59 44 [some (.ref l0), some (.long l1), none, some (.long l3), none, some (.int l5), some (.int l6), l7] [] h).trans rfl
set_option maxRecDepth 100000 in
set_option maxHeartbeats 4000000 in
theorem xb59_54 (l0 : Nat) (l1 : Int64) (l3 : Int64) (l5 : Int32) (l6 : Int32) (l7 : Int32) (h : xH) : xE 59 54 [some (.ref l0), some (.long l1), none, some (.long l3), none, some (.int l5), some (.int l6), some (.int l7)] [] h = 
  if l7 < 6 then (xgu h l0 3 (xcI (xM 58 [.ref l0, .int l6, .int l7] h) fun v2 h1 => xE 59 54 [some (.ref l0), some (.long l1), none, some (.long ((((31 : Int32).toInt64) * l3) + ((v2 : Int32).toInt64))), none, some (.int l5), some (.int l6), some (.int (l7 + 1))] [] h1))
  else (xE 59 44 [some (.ref l0), some (.long l1), none, some (.long l3), none, some (.int l5), some (.int (l6 + 1)), some (.int l7)] [] h) := (xB [5, 44, 54] 500 59 54 [some (.ref l0), some (.long l1), none, some (.long l3), none, some (.int l5), some (.int l6), some (.int l7)] [] h).trans rfl
-- 60 X$Tree.cheapestEntry
set_option maxRecDepth 100000 in
set_option maxHeartbeats 4000000 in
theorem xb60 (l0 : Nat) (l1 : Int32) (l2 : Int32) (h : xH) : xM 60 [.ref l0, .int l1, .int l2] h = (xfR h l0 3 5).bind fun v1 => xcI (xM 52 [.int l1, .int 0] h) fun v3 h2 => (xri h2 0 v1 v3).bind fun v4 => (xfR h2 l0 3 1).bind fun v5 => (xri h2 0 v5 v4).bind fun v6 => xcI (xM 10 [.int v6, .int l2] h2) fun v8 h7 => xE 60 26 [some (.ref l0), some (.int l1), some (.int l2), some (.int v4), some (.int v8), some (.int 1), none, none, none] [] h7 := (xB [26] 500 60 0 [some (.ref l0), some (.int l1), some (.int l2), none, none, none, none, none, none] [] h).trans rfl
set_option maxRecDepth 100000 in
set_option maxHeartbeats 4000000 in
theorem xb60_26 (l0 : Nat) (l1 : Int32) (l2 : Int32) (l3 : Int32) (l4 : Int32) (l5 : Int32) (l6 : Option Value) (l7 : Option Value) (l8 : Option Value) (h : xH) : xE 60 26 [some (.ref l0), some (.int l1), some (.int l2), some (.int l3), some (.int l4), some (.int l5), l6, l7, l8] [] h = (xfR h l0 3 4).bind fun v1 => (xri h 0 v1 l1).bind fun v2 => 
  if l5 < v2 then ((xfR h l0 3 5).bind fun v3 => xcI (xM 52 [.int l1, .int l5] h) fun v5 h4 => (xri h4 0 v3 v5).bind fun v6 => (xfR h4 l0 3 1).bind fun v7 => (xri h4 0 v7 v6).bind fun v8 => xcI (xM 10 [.int v8, .int l2] h4) fun v10 h9 => 
  if v10 = l4 then ((xfR h9 l0 3 1).bind fun v11 => (xri h9 0 v11 v6).bind fun v12 => xcI (xM 7 [.int v12] h9) fun v14 h13 => (xfR h13 l0 3 1).bind fun v15 => (xri h13 0 v15 l3).bind fun v16 => xcI (xM 7 [.int v16] h13) fun v18 h17 => 
  if v14 < v18 then (
  if 1 = 0 then (xE 60 26 [some (.ref l0), some (.int l1), some (.int l2), some (.int l3), some (.int l4), some (.int (l5 + 1)), some (.int v6), some (.int v10), some (.int 1)] [] h17)
  else (xE 60 26 [some (.ref l0), some (.int l1), some (.int l2), some (.int v6), some (.int v10), some (.int (l5 + 1)), some (.int v6), some (.int v10), some (.int 1)] [] h17))
  else (
  if 0 = 0 then (xE 60 26 [some (.ref l0), some (.int l1), some (.int l2), some (.int l3), some (.int l4), some (.int (l5 + 1)), some (.int v6), some (.int v10), some (.int 0)] [] h17)
  else (xE 60 26 [some (.ref l0), some (.int l1), some (.int l2), some (.int v6), some (.int v10), some (.int (l5 + 1)), some (.int v6), some (.int v10), some (.int 0)] [] h17)))
  else (
  if v10 < l4 then (
  if 1 = 0 then (xE 60 26 [some (.ref l0), some (.int l1), some (.int l2), some (.int l3), some (.int l4), some (.int (l5 + 1)), some (.int v6), some (.int v10), some (.int 1)] [] h9)
  else (xE 60 26 [some (.ref l0), some (.int l1), some (.int l2), some (.int v6), some (.int v10), some (.int (l5 + 1)), some (.int v6), some (.int v10), some (.int 1)] [] h9))
  else (
  if 0 = 0 then (xE 60 26 [some (.ref l0), some (.int l1), some (.int l2), some (.int l3), some (.int l4), some (.int (l5 + 1)), some (.int v6), some (.int v10), some (.int 0)] [] h9)
  else (xE 60 26 [some (.ref l0), some (.int l1), some (.int l2), some (.int v6), some (.int v10), some (.int (l5 + 1)), some (.int v6), some (.int v10), some (.int 0)] [] h9))))
  else (some (some (.int l3), h)) := (xB [26] 500 60 26 [some (.ref l0), some (.int l1), some (.int l2), some (.int l3), some (.int l4), some (.int l5), l6, l7, l8] [] h).trans rfl
-- 61 X$Tree.append
set_option maxRecDepth 100000 in
set_option maxHeartbeats 4000000 in
theorem xb61 (l0 : Nat) (l1 : Int32) (l2 : Int32) (h : xH) : xM 61 [.ref l0, .int l1, .int l2] h = (xfR h l0 3 4).bind fun v1 => (xri h 0 v1 l1).bind fun v2 => 
  if v2 < 5 then ((xfR h l0 3 5).bind fun v3 => (xfR h l0 3 4).bind fun v4 => (xri h 0 v4 l1).bind fun v5 => xcI (xM 52 [.int l1, .int v5] h) fun v7 h6 => (xwi h6 0 v3 v7 l2).bind fun h8 => (xfR h8 l0 3 4).bind fun v9 => (xri h8 0 v9 l1).bind fun v10 => (xwi h8 0 v9 l1 (v10 + 1)).bind fun h11 => (xfR h11 l0 3 2).bind fun v12 => (xwi h11 0 v12 l2 l1).bind fun h13 => (xfR h13 l0 3 1).bind fun v14 => (xfR h13 l0 3 1).bind fun v15 => (xri h13 0 v15 l1).bind fun v16 => (xfR h13 l0 3 1).bind fun v17 => (xri h13 0 v17 l2).bind fun v18 => xcI (xM 8 [.int v16, .int v18] h13) fun v20 h19 => (xwi h19 0 v14 l1 v20).bind fun h21 => some (none, h21))
  else (some (none, h)) := (xB [] 500 61 0 [some (.ref l0), some (.int l1), some (.int l2)] [] h).trans rfl
-- 62 X$Tree.cut
set_option maxRecDepth 100000 in
set_option maxHeartbeats 4000000 in
theorem xb62 (l0 : Nat) (l1 : Int32) (l2 : Int32) (h : xH) : xM 62 [.ref l0, .int l1, .int l2] h = xE 62 5 [some (.ref l0), some (.int l1), some (.int l2), some (.int 0), some (.int 0), none] [] h := (xB [5] 500 62 0 [some (.ref l0), some (.int l1), some (.int l2), none, none, none] [] h).trans rfl
set_option maxRecDepth 100000 in
set_option maxHeartbeats 4000000 in
theorem xb62_5 (l0 : Nat) (l1 : Int32) (l2 : Int32) (l3 : Int32) (l4 : Int32) (l5 : Option Value) (h : xH) : xE 62 5 [some (.ref l0), some (.int l1), some (.int l2), some (.int l3), some (.int l4), l5] [] h = (xfR h l0 3 4).bind fun v1 => (xri h 0 v1 l1).bind fun v2 => 
  if l4 < v2 then ((xfR h l0 3 5).bind fun v3 => xcI (xM 52 [.int l1, .int l4] h) fun v5 h4 => (xri h4 0 v3 v5).bind fun v6 => 
  if v6 = l2 then (xE 62 5 [some (.ref l0), some (.int l1), some (.int l2), some (.int l3), some (.int (l4 + 1)), some (.int v6)] [] h4)
  else ((xfR h4 l0 3 5).bind fun v7 => xcI (xM 52 [.int l1, .int l3] h4) fun v9 h8 => (xwi h8 0 v7 v9 v6).bind fun h10 => xE 62 5 [some (.ref l0), some (.int l1), some (.int l2), some (.int (l3 + 1)), some (.int (l4 + 1)), some (.int v6)] [] h10))
  else ((xfR h l0 3 4).bind fun v11 => (xwi h 0 v11 l1 l3).bind fun h12 => (xfR h12 l0 3 2).bind fun v13 => (xwi h12 0 v13 l2 (-1)).bind fun h14 => some (none, h14)) := (xB [5] 500 62 5 [some (.ref l0), some (.int l1), some (.int l2), some (.int l3), some (.int l4), l5] [] h).trans rfl
-- 63 X$Tree.fit
set_option maxRecDepth 100000 in
set_option maxHeartbeats 4000000 in
theorem xb63 (l0 : Nat) (l1 : Int32) (h : xH) : xM 63 [.ref l0, .int l1] h = xE 63 4 [some (.ref l0), some (.int l1), some (.int 0), some (.int 0)] [] h := (xB [4] 500 63 0 [some (.ref l0), some (.int l1), none, none] [] h).trans rfl
set_option maxRecDepth 100000 in
set_option maxHeartbeats 4000000 in
theorem xb63_4 (l0 : Nat) (l1 : Int32) (l2 : Int32) (l3 : Int32) (h : xH) : xE 63 4 [some (.ref l0), some (.int l1), some (.int l2), some (.int l3)] [] h = (xfR h l0 3 4).bind fun v1 => (xri h 0 v1 l1).bind fun v2 => 
  if l3 < v2 then ((xfR h l0 3 1).bind fun v3 => (xfR h l0 3 5).bind fun v4 => xcI (xM 52 [.int l1, .int l3] h) fun v6 h5 => (xri h5 0 v4 v6).bind fun v7 => (xri h5 0 v3 v7).bind fun v8 => xcI (xM 8 [.int l2, .int v8] h5) fun v10 h9 => xE 63 4 [some (.ref l0), some (.int l1), some (.int v10), some (.int (l3 + 1))] [] h9)
  else ((xfR h l0 3 1).bind fun v11 => (xwi h 0 v11 l1 l2).bind fun h12 => some (none, h12)) := (xB [4] 500 63 4 [some (.ref l0), some (.int l1), some (.int l2), some (.int l3)] [] h).trans rfl
-- 64 X$Tree.newNode
set_option maxRecDepth 100000 in
set_option maxHeartbeats 4000000 in
theorem xb64 (l0 : Nat) (l1 : Int32) (h : xH) : xM 64 [.ref l0, .int l1] h = xE 64 3 [some (.ref l0), some (.int l1), some (.int 16)] [] h := (xB [3] 500 64 0 [some (.ref l0), some (.int l1), none] [] h).trans rfl
set_option maxRecDepth 100000 in
set_option maxHeartbeats 4000000 in
theorem xb64_3 (l0 : Nat) (l1 : Int32) (l2 : Int32) (h : xH) : xE 64 3 [some (.ref l0), some (.int l1), some (.int l2)] [] h = 
  if l2 < 32 then ((xfR h l0 3 3).bind fun v1 => (xri h 0 v1 l2).bind fun v2 => 
  if v2 = (-1) then ((xfR h l0 3 3).bind fun v3 => (xwi h 0 v3 l2 l1).bind fun h4 => (xfR h4 l0 3 2).bind fun v5 => (xwi h4 0 v5 l2 (-1)).bind fun h6 => xgu h6 l0 3 (xcV (xM 65 [.ref l0, .int l2] h6) fun h7 => some (some (.int l2), h7)))
  else (xE 64 3 [some (.ref l0), some (.int l1), some (.int (l2 + 1))] [] h))
  else (some (some (.int (-1)), h)) := (xB [3] 500 64 3 [some (.ref l0), some (.int l1), some (.int l2)] [] h).trans rfl
-- 65 X$Tree.empty
set_option maxRecDepth 100000 in
set_option maxHeartbeats 4000000 in
theorem xb65 (l0 : Nat) (l1 : Int32) (h : xH) : xM 65 [.ref l0, .int l1] h = (xfR h l0 3 4).bind fun v1 => (xwi h 0 v1 l1 0).bind fun h2 => (xfR h2 l0 3 1).bind fun v3 => (xwi h2 0 v3 l1 0).bind fun h4 => some (none, h4) := (xB [] 500 65 0 [some (.ref l0), some (.int l1)] [] h).trans rfl
-- 66 X$Tree.worstPair
set_option maxRecDepth 100000 in
set_option maxHeartbeats 4000000 in
theorem xb66 (l0 : Nat) (l1 : Int32) (h : xH) : xM 66 [.ref l0, .int l1] h = xE 66 7 [some (.ref l0), some (.int l1), some (.int 0), some (.int 0), some (.int 0), none, none] [] h := (xB [7, 19, 72] 500 66 0 [some (.ref l0), some (.int l1), none, none, none, none, none] [] h).trans rfl
set_option maxRecDepth 100000 in
set_option maxHeartbeats 4000000 in
theorem xb66_7 (l0 : Nat) (l1 : Int32) (l2 : Int32) (l3 : Int32) (l4 : Int32) (l5 : Option Value) (l6 : Option Value) (h : xH) : xE 66 7 [some (.ref l0), some (.int l1), some (.int l2), some (.int l3), some (.int l4), l5, l6] [] h = 
  if l4 < 5 then (xE 66 19 [some (.ref l0), some (.int l1), some (.int l2), some (.int l3), some (.int l4), some (.int (l4 + 1)), l6] [] h)
  else (some (some (.int l2), h)) := (xB [7, 19, 72] 500 66 7 [some (.ref l0), some (.int l1), some (.int l2), some (.int l3), some (.int l4), l5, l6] [] h).trans rfl
set_option maxRecDepth 100000 in
set_option maxHeartbeats 4000000 in
theorem xb66_19 (l0 : Nat) (l1 : Int32) (l2 : Int32) (l3 : Int32) (l4 : Int32) (l5 : Int32) (l6 : Option Value) (h : xH) : xE 66 19 [some (.ref l0), some (.int l1), some (.int l2), some (.int l3), some (.int l4), some (.int l5), l6] [] h = 
  if l5 < 5 then ((xfR h l0 3 1).bind fun v1 => (xfR h l0 3 5).bind fun v2 => xcI (xM 52 [.int l1, .int l4] h) fun v4 h3 => (xri h3 0 v2 v4).bind fun v5 => (xri h3 0 v1 v5).bind fun v6 => (xfR h3 l0 3 1).bind fun v7 => (xfR h3 l0 3 5).bind fun v8 => xcI (xM 52 [.int l1, .int l5] h3) fun v10 h9 => (xri h9 0 v8 v10).bind fun v11 => (xri h9 0 v7 v11).bind fun v12 => xcI (xM 11 [.int v6, .int v12] h9) fun v14 h13 => 
  if l2 = 0 then (xE 66 72 [some (.ref l0), some (.int l1), some (.int l2), some (.int l3), some (.int l4), some (.int l5), some (.int v14)] [] h13)
  else (
  if l3 < v14 then (xE 66 72 [some (.ref l0), some (.int l1), some (.int l2), some (.int l3), some (.int l4), some (.int l5), some (.int v14)] [] h13)
  else (xE 66 19 [some (.ref l0), some (.int l1), some (.int l2), some (.int l3), some (.int l4), some (.int (l5 + 1)), some (.int v14)] [] h13)))
  else (xE 66 7 [some (.ref l0), some (.int l1), some (.int l2), some (.int l3), some (.int (l4 + 1)), some (.int l5), l6] [] h) := (xB [7, 19, 72] 500 66 19 [some (.ref l0), some (.int l1), some (.int l2), some (.int l3), some (.int l4), some (.int l5), l6] [] h).trans rfl
set_option maxRecDepth 100000 in
set_option maxHeartbeats 4000000 in
theorem xb66_72 (l0 : Nat) (l1 : Int32) (l2 : Int32) (l3 : Int32) (l4 : Int32) (l5 : Int32) (l6 : Int32) (h : xH) : xE 66 72 [some (.ref l0), some (.int l1), some (.int l2), some (.int l3), some (.int l4), some (.int l5), some (.int l6)] [] h = xE 66 19 [some (.ref l0), some (.int l1), some (.int ((5 * l4) + l5)), some (.int l6), some (.int l4), some (.int (l5 + 1)), some (.int l6)] [] h := (xB [7, 19, 72] 500 66 72 [some (.ref l0), some (.int l1), some (.int l2), some (.int l3), some (.int l4), some (.int l5), some (.int l6)] [] h).trans rfl
-- 67 X$Tree.seed
set_option maxRecDepth 100000 in
set_option maxHeartbeats 4000000 in
theorem xb67 (l0 : Nat) (l1 : Int32) (l2 : Int32) (l3 : Int32) (h : xH) : xM 67 [.ref l0, .int l1, .int l2, .int l3] h = (xfR h l0 3 5).bind fun v1 => xcI (xM 52 [.int l1, .int (l3 / 5)] h) fun v3 h2 => (xri h2 0 v1 v3).bind fun v4 => (xfR h2 l0 3 5).bind fun v5 => xcI (xM 52 [.int l1, .int (l3 - l3 / 5 * 5)] h2) fun v7 h6 => (xri h6 0 v5 v7).bind fun v8 => xE 67 34 [some (.ref l0), some (.int l1), some (.int l2), some (.int l3), some (.int v4), some (.int v8), some (.int 0), some (.int 0), none] [] h6 := (xB [34] 500 67 0 [some (.ref l0), some (.int l1), some (.int l2), some (.int l3), none, none, none, none, none] [] h).trans rfl
set_option maxRecDepth 100000 in
set_option maxHeartbeats 4000000 in
theorem xb67_34 (l0 : Nat) (l1 : Int32) (l2 : Int32) (l3 : Int32) (l4 : Int32) (l5 : Int32) (l6 : Int32) (l7 : Int32) (l8 : Option Value) (h : xH) : xE 67 34 [some (.ref l0), some (.int l1), some (.int l2), some (.int l3), some (.int l4), some (.int l5), some (.int l6), some (.int l7), l8] [] h = 
  if l7 < 5 then ((xfR h l0 3 5).bind fun v1 => xcI (xM 52 [.int l1, .int l7] h) fun v3 h2 => (xri h2 0 v1 v3).bind fun v4 => 
  if v4 = l4 then (xE 67 34 [some (.ref l0), some (.int l1), some (.int l2), some (.int l3), some (.int l4), some (.int l5), some (.int l6), some (.int (l7 + 1)), some (.int v4)] [] h2)
  else (
  if v4 = l5 then (xE 67 34 [some (.ref l0), some (.int l1), some (.int l2), some (.int l3), some (.int l4), some (.int l5), some (.int l6), some (.int (l7 + 1)), some (.int v4)] [] h2)
  else (
  if l6 < 3 then ((xfR h2 l0 3 6).bind fun v5 => (xwi h2 0 v5 l6 v4).bind fun h6 => xE 67 34 [some (.ref l0), some (.int l1), some (.int l2), some (.int l3), some (.int l4), some (.int l5), some (.int (l6 + 1)), some (.int (l7 + 1)), some (.int v4)] [] h6)
  else (xE 67 34 [some (.ref l0), some (.int l1), some (.int l2), some (.int l3), some (.int l4), some (.int l5), some (.int l6), some (.int (l7 + 1)), some (.int v4)] [] h2))))
  else (xgu h l0 3 (xcV (xM 65 [.ref l0, .int l1] h) fun h7 => xgu h7 l0 3 (xcV (xM 61 [.ref l0, .int l1, .int l4] h7) fun h8 => xgu h8 l0 3 (xcV (xM 61 [.ref l0, .int l2, .int l5] h8) fun h9 => some (none, h9))))) := (xB [34] 500 67 34 [some (.ref l0), some (.int l1), some (.int l2), some (.int l3), some (.int l4), some (.int l5), some (.int l6), some (.int l7), l8] [] h).trans rfl
-- 68 X$Tree.chosen
set_option maxRecDepth 100000 in
set_option maxHeartbeats 4000000 in
theorem xb68 (l0 : Nat) (l1 : Int32) (l2 : Int32) (l3 : Int32) (h : xH) : xM 68 [.ref l0, .int l1, .int l2, .int l3] h = (xfR h l0 3 4).bind fun v1 => (xri h 0 v1 l1).bind fun v2 => 
  if (v2 + (3 - l3)) = 2 then (some (some (.int l1), h))
  else ((xfR h l0 3 4).bind fun v3 => (xri h 0 v3 l2).bind fun v4 => 
  if (v4 + (3 - l3)) = 2 then (some (some (.int l2), h))
  else ((xfR h l0 3 1).bind fun v5 => (xfR h l0 3 6).bind fun v6 => (xri h 0 v6 l3).bind fun v7 => (xri h 0 v5 v7).bind fun v8 => (xfR h l0 3 1).bind fun v9 => (xri h 0 v9 l1).bind fun v10 => xcI (xM 10 [.int v10, .int v8] h) fun v12 h11 => (xfR h11 l0 3 1).bind fun v13 => (xri h11 0 v13 l2).bind fun v14 => xcI (xM 10 [.int v14, .int v8] h11) fun v16 h15 => 
  if (v12 - v16) = 0 then ((xfR h15 l0 3 1).bind fun v17 => (xri h15 0 v17 l1).bind fun v18 => xcI (xM 7 [.int v18] h15) fun v20 h19 => (xfR h19 l0 3 1).bind fun v21 => (xri h19 0 v21 l2).bind fun v22 => xcI (xM 7 [.int v22] h19) fun v24 h23 => xE 68 99 [some (.ref l0), some (.int l1), some (.int l2), some (.int l3), some (.int (3 - l3)), some (.int v8), some (.int (v20 - v24))] [] h23)
  else (xE 68 99 [some (.ref l0), some (.int l1), some (.int l2), some (.int l3), some (.int (3 - l3)), some (.int v8), some (.int (v12 - v16))] [] h15))) := (xB [99] 500 68 0 [some (.ref l0), some (.int l1), some (.int l2), some (.int l3), none, none, none] [] h).trans rfl
set_option maxRecDepth 100000 in
set_option maxHeartbeats 4000000 in
theorem xb68_99 (l0 : Nat) (l1 : Int32) (l2 : Int32) (l3 : Int32) (l4 : Int32) (l5 : Int32) (l6 : Int32) (h : xH) : xE 68 99 [some (.ref l0), some (.int l1), some (.int l2), some (.int l3), some (.int l4), some (.int l5), some (.int l6)] [] h = 
  if l6 = 0 then ((xfR h l0 3 4).bind fun v1 => (xri h 0 v1 l1).bind fun v2 => (xfR h l0 3 4).bind fun v3 => (xri h 0 v3 l2).bind fun v4 => 
  if 0 < (v2 - v4) then (some (some (.int l2), h))
  else (some (some (.int l1), h)))
  else (
  if 0 < l6 then (some (some (.int l2), h))
  else (some (some (.int l1), h))) := (xB [99] 500 68 99 [some (.ref l0), some (.int l1), some (.int l2), some (.int l3), some (.int l4), some (.int l5), some (.int l6)] [] h).trans rfl
-- 69 X$Tree.hang
set_option maxRecDepth 100000 in
set_option maxHeartbeats 4000000 in
theorem xb69 (l0 : Nat) (l1 : Int32) (l2 : Int32) (h : xH) : xM 69 [.ref l0, .int l1, .int l2] h = (xfR h l0 3 2).bind fun v1 => (xri h 0 v1 l1).bind fun v2 => 
  if v2 = (-1) then ((xfR h l0 3 3).bind fun v3 => (xri h 0 v3 l1).bind fun v4 => xgu h l0 3 (xcI (xM 64 [.ref l0, .int (v4 + 1)] h) fun v6 h5 => 
  if v6 = (-1) then (some (none, h5))
  else ((xpf h5 l0 3 0 (.int v6)).bind fun h7 => xgu h7 l0 3 (xcV (xM 61 [.ref l0, .int v6, .int l1] h7) fun h8 => xE 69 42 [some (.ref l0), some (.int l1), some (.int l2), some (.int v6), none] [] h8))))
  else (xE 69 42 [some (.ref l0), some (.int l1), some (.int l2), some (.int v2), none] [] h) := (xB [42, 58] 500 69 0 [some (.ref l0), some (.int l1), some (.int l2), none, none] [] h).trans rfl
set_option maxRecDepth 100000 in
set_option maxHeartbeats 4000000 in
theorem xb69_42 (l0 : Nat) (l1 : Int32) (l2 : Int32) (l3 : Int32) (h : xH) : xE 69 42 [some (.ref l0), some (.int l1), some (.int l2), some (.int l3), none] [] h = xgu h l0 3 (xcV (xM 61 [.ref l0, .int l3, .int l2] h) fun h1 => (xfR h1 l0 3 4).bind fun v2 => (xri h1 0 v2 l3).bind fun v3 => xE 69 58 [some (.ref l0), some (.int l1), some (.int l2), some (.int l3), some (.int (v3 - 1))] [] h1) := (xB [42, 58] 500 69 42 [some (.ref l0), some (.int l1), some (.int l2), some (.int l3), none] [] h).trans rfl
set_option maxRecDepth 100000 in
set_option maxHeartbeats 4000000 in
theorem xb69_58 (l0 : Nat) (l1 : Int32) (l2 : Int32) (l3 : Int32) (l4 : Int32) (h : xH) : xE 69 58 [some (.ref l0), some (.int l1), some (.int l2), some (.int l3), some (.int l4)] [] h = 
  if 0 < l4 then ((xfR h l0 3 5).bind fun v1 => xcI (xM 52 [.int l3, .int (l4 - 1)] h) fun v3 h2 => (xri h2 0 v1 v3).bind fun v4 => 
  if v4 = l1 then (some (none, h2))
  else ((xfR h2 l0 3 5).bind fun v5 => xcI (xM 52 [.int l3, .int l4] h2) fun v7 h6 => (xfR h6 l0 3 5).bind fun v8 => xcI (xM 52 [.int l3, .int (l4 - 1)] h6) fun v10 h9 => (xri h9 0 v8 v10).bind fun v11 => (xwi h9 0 v5 v7 v11).bind fun h12 => (xfR h12 l0 3 5).bind fun v13 => xcI (xM 52 [.int l3, .int (l4 - 1)] h12) fun v15 h14 => (xwi h14 0 v13 v15 l2).bind fun h16 => xE 69 58 [some (.ref l0), some (.int l1), some (.int l2), some (.int l3), some (.int (l4 + (-1)))] [] h16))
  else (some (none, h)) := (xB [42, 58] 500 69 58 [some (.ref l0), some (.int l1), some (.int l2), some (.int l3), some (.int l4)] [] h).trans rfl
-- 70 X$Tree.noteLine
set_option maxRecDepth 100000 in
set_option maxHeartbeats 4000000 in
theorem xb70 (l0 : Nat) (l1 : Int32) (h : xH) : xM 70 [.ref l0, .int l1] h = xE 70 2 [some (.ref l0), some (.int l1), some (.int 0), none] [] h := (xB [2] 500 70 0 [some (.ref l0), some (.int l1), none, none] [] h).trans rfl
set_option maxRecDepth 100000 in
set_option maxHeartbeats 4000000 in
theorem xb70_2 (l0 : Nat) (l1 : Int32) (l2 : Int32) (l3 : Option Value) (h : xH) : xE 70 2 [some (.ref l0), some (.int l1), some (.int l2), l3] [] h = 
  if l2 < l1 then ((xfR h l0 3 7).bind fun v1 => (xri h 0 v1 l2).bind fun v2 => (xfR h l0 3 3).bind fun v3 => (xri h 0 v3 v2).bind fun v4 => 
  if v4 = 0 then ((xfI h l0 3 9).bind fun v5 => (xfR h l0 3 4).bind fun v6 => (xri h 0 v6 v2).bind fun v7 => 
  if 16 < (v5 + v7) then (xE 70 2 [some (.ref l0), some (.int l1), some (.int (l2 + 1)), some (.int v2)] [] h)
  else ((xfR h l0 3 5).bind fun v8 => xcI (xM 52 [.int v2, .int 0] h) fun v10 h9 => (xfR h9 l0 3 8).bind fun v11 => (xfI h9 l0 3 9).bind fun v12 => (xfR h9 l0 3 4).bind fun v13 => (xri h9 0 v13 v2).bind fun v14 => (xcp h9 v8 v10 v11 v12 v14).bind fun h15 => (xfI h15 l0 3 9).bind fun v16 => (xfR h15 l0 3 4).bind fun v17 => (xri h15 0 v17 v2).bind fun v18 => (xpf h15 l0 3 9 (.int (v16 + v18))).bind fun h19 => xE 70 2 [some (.ref l0), some (.int l1), some (.int (l2 + 1)), some (.int v2)] [] h19))
  else (xE 70 2 [some (.ref l0), some (.int l1), some (.int (l2 + 1)), some (.int v2)] [] h))
  else (some (none, h)) := (xB [2] 500 70 2 [some (.ref l0), some (.int l1), some (.int l2), l3] [] h).trans rfl
-- 71 X$Tree.dissolve
set_option maxRecDepth 100000 in
set_option maxHeartbeats 4000000 in
theorem xb71 (l0 : Nat) (l1 : Int32) (h : xH) : xM 71 [.ref l0, .int l1] h = xgu h l0 3 (xcI (xM 55 [.ref l0, .int l1] h) fun v2 h1 => xgu h1 l0 3 (xcV (xM 70 [.ref l0, .int v2] h1) fun h3 => xE 71 13 [some (.ref l0), some (.int l1), some (.int v2), some (.int 0)] [] h3)) := (xB [13] 500 71 0 [some (.ref l0), some (.int l1), none, none] [] h).trans rfl
set_option maxRecDepth 100000 in
set_option maxHeartbeats 4000000 in
theorem xb71_13 (l0 : Nat) (l1 : Int32) (l2 : Int32) (l3 : Int32) (h : xH) : xE 71 13 [some (.ref l0), some (.int l1), some (.int l2), some (.int l3)] [] h = 
  if l3 < l2 then ((xfR h l0 3 3).bind fun v1 => (xfR h l0 3 7).bind fun v2 => (xri h 0 v2 l3).bind fun v3 => (xwi h 0 v1 v3 (-1)).bind fun h4 => xE 71 13 [some (.ref l0), some (.int l1), some (.int l2), some (.int (l3 + 1))] [] h4)
  else (some (none, h)) := (xB [13] 500 71 13 [some (.ref l0), some (.int l1), some (.int l2), some (.int l3)] [] h).trans rfl
-- 72 X$Tree.lowerRoot
set_option maxRecDepth 100000 in
set_option maxHeartbeats 4000000 in
theorem xb72 (l0 : Nat) (h : xH) : xM 72 [.ref l0] h = xE 72 2 [some (.ref l0), some (.int 0), none] [] h := (xB [2, 75] 500 72 0 [some (.ref l0), none, none] [] h).trans rfl
set_option maxRecDepth 100000 in
set_option maxHeartbeats 4000000 in
theorem xb72_2 (l0 : Nat) (l1 : Int32) (l2 : Option Value) (h : xH) : xE 72 2 [some (.ref l0), some (.int l1), l2] [] h = 
  if l1 < 16 then ((xfR h l0 3 3).bind fun v1 => (xfI h l0 3 0).bind fun v2 => (xri h 0 v1 v2).bind fun v3 => 
  if 0 < v3 then ((xfR h l0 3 4).bind fun v4 => (xfI h l0 3 0).bind fun v5 => (xri h 0 v4 v5).bind fun v6 => 
  if v6 = 1 then ((xfR h l0 3 5).bind fun v7 => (xfI h l0 3 0).bind fun v8 => xcI (xM 52 [.int v8, .int 0] h) fun v10 h9 => (xri h9 0 v7 v10).bind fun v11 => (xfR h9 l0 3 3).bind fun v12 => (xfI h9 l0 3 0).bind fun v13 => (xwi h9 0 v12 v13 (-1)).bind fun h14 => (xfR h14 l0 3 2).bind fun v15 => (xwi h14 0 v15 v11 (-1)).bind fun h16 => (xpf h16 l0 3 0 (.int v11)).bind fun h17 => xE 72 2 [some (.ref l0), some (.int (l1 + 1)), some (.int v11)] [] h17)
  else (xE 72 75 [some (.ref l0), some (.int l1), l2] [] h))
  else (xE 72 75 [some (.ref l0), some (.int l1), l2] [] h))
  else (xE 72 75 [some (.ref l0), some (.int l1), l2] [] h) := (xB [2, 75] 500 72 2 [some (.ref l0), some (.int l1), l2] [] h).trans rfl
set_option maxRecDepth 100000 in
set_option maxHeartbeats 4000000 in
theorem xb72_75 (l0 : Nat) (l1 : Int32) (l2 : Option Value) (h : xH) : xE 72 75 [some (.ref l0), some (.int l1), l2] [] h = (xfR h l0 3 4).bind fun v1 => (xfI h l0 3 0).bind fun v2 => (xri h 0 v1 v2).bind fun v3 => 
  if v3 = 0 then ((xfR h l0 3 3).bind fun v4 => (xfI h l0 3 0).bind fun v5 => (xwi h 0 v4 v5 0).bind fun h6 => some (none, h6))
  else (some (none, h)) := (xB [2, 75] 500 72 75 [some (.ref l0), some (.int l1), l2] [] h).trans rfl
