-- 73 X.init
set_option maxRecDepth 100000 in
set_option maxHeartbeats 4000000 in
theorem xb73 (l0 : Nat) (h : xH) : xM 73 [.ref l0] h = xgu (xnw h (.inr (.inr (2, xdef 2))) 5) h.1 2 (xcV (xM 30 [.ref h.1] (xnw h (.inr (.inr (2, xdef 2))) 5)) fun h1 => (xpf h1 l0 4 0 (.ref h.1)).bind fun h2 => xgu (xnw h2 (.inr (.inr (2, xdef 2))) 5) h2.1 2 (xcV (xM 30 [.ref h2.1] (xnw h2 (.inr (.inr (2, xdef 2))) 5)) fun h3 => (xpf h3 l0 4 1 (.ref h2.1)).bind fun h4 => (xpf (xnw h4 (.inr (.inl (5, fun _ => none))) 5) l0 4 2 (.ref h4.1)).bind fun h5 => (xpf h5 l0 4 3 (.int 0)).bind fun h6 => (xpf (xnw h6 (.inl (0, 120, fun _ => 0)) 120) l0 4 4 (.ref h6.1)).bind fun h7 => (xpf h7 l0 4 5 (.int 0)).bind fun h8 => xgu (xnw h8 (.inr (.inr (1, xdef 1))) 6) h8.1 1 (xcV (xM 22 [.ref h8.1] (xnw h8 (.inr (.inr (1, xdef 1))) 6)) fun h9 => (xpf h9 l0 4 6 (.ref h8.1)).bind fun h10 => (xpf h10 l0 4 7 (.int 0)).bind fun h11 => (xpf h11 l0 4 8 (.int 0)).bind fun h12 => (xpf h12 l0 4 9 (.int 0)).bind fun h13 => xE 73 80 [some (.ref l0), some (.int 0)] [] h13))) := (xB [80] 500 73 0 [some (.ref l0), none] [] h).trans rfl
set_option maxRecDepth 100000 in
set_option maxHeartbeats 4000000 in
theorem xb73_80 (l0 : Nat) (l1 : Int32) (h : xH) : xE 73 80 [some (.ref l0), some (.int l1)] [] h = 
  if l1 < 5 then ((xfR h l0 4 2).bind fun v1 => xgu (xnw h (.inr (.inr (2, xdef 2))) 5) h.1 2 (xcV (xM 30 [.ref h.1] (xnw h (.inr (.inr (2, xdef 2))) 5)) fun h2 => (xwr h2 v1 l1 h.1 2).bind fun h3 => xE 73 80 [some (.ref l0), some (.int (l1 + 1))] [] h3))
  else (some (none, h)) := (xB [80] 500 73 80 [some (.ref l0), some (.int l1)] [] h).trans rfl
-- 74 X.shape
set_option maxRecDepth 100000 in
set_option maxHeartbeats 4000000 in
theorem xb74 (l0 : Nat) (l1 : Int32) (l2 : Int32) (l3 : Int32) (l4 : Int32) (l5 : Int32) (h : xH) : xM 74 [.ref l0, .int l1, .int l2, .int l3, .int l4, .int l5] h = (xfR h l0 4 1).bind fun v1 => (xfR h l0 4 0).bind fun v2 => xgu h v1 2 (xcV (xM 31 [.ref v1, .ref v2] h) fun h3 => (xfR h3 l0 4 0).bind fun v4 => xgu h3 v4 2 (xcI (xM 34 [.ref v4, .int l1, .int l2, .int l3, .int l4, .int l5] h3) fun v6 h5 => xgu h5 l0 4 (xcI (xM 98 [.ref l0, .int v6] h5) fun v8 h7 => some (some (.int v8), h7)))) := (xB [] 500 74 0 [some (.ref l0), some (.int l1), some (.int l2), some (.int l3), some (.int l4), some (.int l5)] [] h).trans rfl
-- 75 X.moves
set_option maxRecDepth 100000 in
set_option maxHeartbeats 4000000 in
theorem xb75 (l0 : Nat) (l1 : Int32) (l2 : Int32) (l3 : Int32) (l4 : Int32) (l5 : Int32) (h : xH) : xM 75 [.ref l0, .int l1, .int l2, .int l3, .int l4, .int l5] h = (xfR h l0 4 1).bind fun v1 => (xfR h l0 4 0).bind fun v2 => xgu h v1 2 (xcV (xM 31 [.ref v1, .ref v2] h) fun h3 => (xfR h3 l0 4 0).bind fun v4 => xgu h3 v4 2 (xcI (xM 35 [.ref v4, .int l1, .int l2, .int l3, .int l4, .int l5] h3) fun v6 h5 => xgu h5 l0 4 (xcI (xM 98 [.ref l0, .int v6] h5) fun v8 h7 => some (some (.int v8), h7)))) := (xB [] 500 75 0 [some (.ref l0), some (.int l1), some (.int l2), some (.int l3), some (.int l4), some (.int l5)] [] h).trans rfl
-- 76 X.lifts
set_option maxRecDepth 100000 in
set_option maxHeartbeats 4000000 in
theorem xb76 (l0 : Nat) (l1 : Int32) (l2 : Int32) (h : xH) : xM 76 [.ref l0, .int l1, .int l2] h = (xfR h l0 4 1).bind fun v1 => (xfR h l0 4 0).bind fun v2 => xgu h v1 2 (xcV (xM 31 [.ref v1, .ref v2] h) fun h3 => (xfR h3 l0 4 0).bind fun v4 => xgu h3 v4 2 (xcI (xM 36 [.ref v4, .int l1, .int l2] h3) fun v6 h5 => xgu h5 l0 4 (xcI (xM 98 [.ref l0, .int v6] h5) fun v8 h7 => some (some (.int v8), h7)))) := (xB [] 500 76 0 [some (.ref l0), some (.int l1), some (.int l2)] [] h).trans rfl
-- 77 X.clips
set_option maxRecDepth 100000 in
set_option maxHeartbeats 4000000 in
theorem xb77 (l0 : Nat) (l1 : Int32) (l2 : Int32) (h : xH) : xM 77 [.ref l0, .int l1, .int l2] h = (xfR h l0 4 1).bind fun v1 => (xfR h l0 4 0).bind fun v2 => xgu h v1 2 (xcV (xM 31 [.ref v1, .ref v2] h) fun h3 => (xfR h3 l0 4 0).bind fun v4 => xgu h3 v4 2 (xcI (xM 37 [.ref v4, .int l1, .int l2] h3) fun v6 h5 => xgu h5 l0 4 (xcI (xM 98 [.ref l0, .int v6] h5) fun v8 h7 => some (some (.int v8), h7)))) := (xB [] 500 77 0 [some (.ref l0), some (.int l1), some (.int l2)] [] h).trans rfl
-- 78 X.removes
set_option maxRecDepth 100000 in
set_option maxHeartbeats 4000000 in
theorem xb78 (l0 : Nat) (l1 : Int32) (h : xH) : xM 78 [.ref l0, .int l1] h = (xfR h l0 4 1).bind fun v1 => (xfR h l0 4 0).bind fun v2 => xgu h v1 2 (xcV (xM 31 [.ref v1, .ref v2] h) fun h3 => (xfR h3 l0 4 0).bind fun v4 => xgu h3 v4 2 (xcI (xM 38 [.ref v4, .int l1] h3) fun v6 h5 => xgu h5 l0 4 (xcI (xM 98 [.ref l0, .int v6] h5) fun v8 h7 => some (some (.int v8), h7)))) := (xB [] 500 78 0 [some (.ref l0), some (.int l1)] [] h).trans rfl
-- 79 X.drawn
set_option maxRecDepth 100000 in
set_option maxHeartbeats 4000000 in
theorem xb79 (l0 : Nat) (h : xH) : xM 79 [.ref l0] h = (xfR h l0 4 1).bind fun v1 => (xfR h l0 4 0).bind fun v2 => xgu h v1 2 (xcV (xM 31 [.ref v1, .ref v2] h) fun h3 => (xfR h3 l0 4 0).bind fun v4 => (xfR h3 v4 2 1).bind fun v5 => xgu h3 v5 0 (xcI (xM 16 [.ref v5] h3) fun v7 h6 => xgu h6 l0 4 (xcI (xM 98 [.ref l0, .int v7] h6) fun v9 h8 => some (some (.int v9), h8)))) := (xB [] 500 79 0 [some (.ref l0)] [] h).trans rfl
-- 80 X.of
set_option maxRecDepth 100000 in
set_option maxHeartbeats 4000000 in
theorem xb80 (l0 : Nat) (l1 : Int32) (l2 : Int32) (h : xH) : xM 80 [.ref l0, .int l1, .int l2] h = (xfR h l0 4 0).bind fun v1 => xgu h v1 2 (xcI (xM 32 [.ref v1, .int l1] h) fun v3 h2 => 
  if v3 = 0 then (xgu h2 l0 4 (xcI (xM 97 [.ref l0, .int (-2)] h2) fun v5 h4 => some (some (.int v5), h4)))
  else (xcI (xM 95 [.int l2, .int 7] h2) fun v7 h6 => 
  if v7 = 0 then (xgu h6 l0 4 (xcI (xM 97 [.ref l0, .int (-2)] h6) fun v9 h8 => some (some (.int v9), h8)))
  else ((xfR h6 l0 4 0).bind fun v10 => xgu h6 v10 2 (xcI (xM 39 [.ref v10, .int l1, .int l2] h6) fun v12 h11 => some (some (.int v12), h11))))) := (xB [] 500 80 0 [some (.ref l0), some (.int l1), some (.int l2)] [] h).trans rfl
-- 81 X.view
set_option maxRecDepth 100000 in
set_option maxHeartbeats 4000000 in
theorem xb81 (l0 : Nat) (l1 : Int32) (l2 : Int32) (h : xH) : xM 81 [.ref l0, .int l1, .int l2] h = (xfR h l0 4 0).bind fun v1 => xgu h v1 2 (xcI (xM 32 [.ref v1, .int l1] h) fun v3 h2 => 
  if v3 = 0 then (xgu h2 l0 4 (xcI (xM 97 [.ref l0, .int (-2)] h2) fun v5 h4 => some (some (.int v5), h4)))
  else (xcI (xM 95 [.int l2, .int 4] h2) fun v7 h6 => 
  if v7 = 0 then (xgu h6 l0 4 (xcI (xM 97 [.ref l0, .int (-2)] h6) fun v9 h8 => some (some (.int v9), h8)))
  else ((xfR h6 l0 4 0).bind fun v10 => xgu h6 v10 2 (xcI (xM 40 [.ref v10, .int l1, .int l2] h6) fun v12 h11 => some (some (.int v12), h11))))) := (xB [] 500 81 0 [some (.ref l0), some (.int l1), some (.int l2)] [] h).trans rfl
-- 82 X.hit
set_option maxRecDepth 100000 in
set_option maxHeartbeats 4000000 in
theorem xb82 (l0 : Nat) (l1 : Int32) (l2 : Int32) (l3 : Int32) (h : xH) : xM 82 [.ref l0, .int l1, .int l2, .int l3] h = xcI (xM 95 [.int l1, .int 64] h) fun v2 h1 => 
  if v2 = 0 then (xgu h1 l0 4 (xcI (xM 97 [.ref l0, .int (-2)] h1) fun v4 h3 => some (some (.int v4), h3)))
  else (xcI (xM 95 [.int l2, .int 64] h1) fun v6 h5 => 
  if v6 = 0 then (xgu h5 l0 4 (xcI (xM 97 [.ref l0, .int (-2)] h5) fun v8 h7 => some (some (.int v8), h7)))
  else (
  if l3 < 0 then (xgu h5 l0 4 (xcI (xM 97 [.ref l0, .int (-2)] h5) fun v10 h9 => some (some (.int v10), h9)))
  else ((xfR h5 l0 4 0).bind fun v11 => xgu h5 v11 2 (xcI (xM 41 [.ref v11, .int l1, .int l2, .int l3] h5) fun v13 h12 => some (some (.int v13), h12))))) := (xB [] 500 82 0 [some (.ref l0), some (.int l1), some (.int l2), some (.int l3)] [] h).trans rfl
-- 83 X.within
set_option maxRecDepth 100000 in
set_option maxHeartbeats 4000000 in
theorem xb83 (l0 : Nat) (l1 : Int32) (l2 : Int32) (l3 : Int32) (l4 : Int32) (h : xH) : xM 83 [.ref l0, .int l1, .int l2, .int l3, .int l4] h = xcI (xM 0 [.int l1, .int l2, .int l3, .int l4] h) fun v2 h1 => 
  if v2 = 0 then (xgu h1 l0 4 (xcI (xM 97 [.ref l0, .int (-2)] h1) fun v4 h3 => some (some (.int v4), h3)))
  else ((xfR h1 l0 4 0).bind fun v5 => xgu h1 v5 2 (xcI (xM 42 [.ref v5, .int v2] h1) fun v7 h6 => some (some (.int v7), h6))) := (xB [] 500 83 0 [some (.ref l0), some (.int l1), some (.int l2), some (.int l3), some (.int l4), none] [] h).trans rfl
-- 84 X.nearest
set_option maxRecDepth 100000 in
set_option maxHeartbeats 4000000 in
theorem xb84 (l0 : Nat) (l1 : Int32) (l2 : Int32) (h : xH) : xM 84 [.ref l0, .int l1, .int l2] h = xcI (xM 95 [.int l1, .int 64] h) fun v2 h1 => 
  if v2 = 0 then (xgu h1 l0 4 (xcI (xM 97 [.ref l0, .int (-2)] h1) fun v4 h3 => some (some (.int v4), h3)))
  else (xcI (xM 95 [.int l2, .int 64] h1) fun v6 h5 => 
  if v6 = 0 then (xgu h5 l0 4 (xcI (xM 97 [.ref l0, .int (-2)] h5) fun v8 h7 => some (some (.int v8), h7)))
  else ((xfR h5 l0 4 0).bind fun v9 => xgu h5 v9 2 (xcI (xM 43 [.ref v9, .int l1, .int l2] h5) fun v11 h10 => some (some (.int v11), h10)))) := (xB [] 500 84 0 [some (.ref l0), some (.int l1), some (.int l2)] [] h).trans rfl
-- 85 X.damage
set_option maxRecDepth 100000 in
set_option maxHeartbeats 4000000 in
theorem xb85 (l0 : Nat) (l1 : Int32) (l2 : Int32) (h : xH) : xM 85 [.ref l0, .int l1, .int l2] h = 
  if l1 < 0 then (xgu h l0 4 (xcI (xM 97 [.ref l0, .int (-2)] h) fun v2 h1 => some (some (.int v2), h1)))
  else (xcI (xM 95 [.int l2, .int 4] h) fun v4 h3 => 
  if v4 = 0 then (xgu h3 l0 4 (xcI (xM 97 [.ref l0, .int (-2)] h3) fun v6 h5 => some (some (.int v6), h5)))
  else ((xfR h3 l0 4 0).bind fun v7 => (xfR h3 v7 2 1).bind fun v8 => xgu h3 v8 0 (xcI (xM 17 [.ref v8, .int l1, .int l2] h3) fun v10 h9 => some (some (.int v10), h9)))) := (xB [] 500 85 0 [some (.ref l0), some (.int l1), some (.int l2)] [] h).trans rfl
-- 86 X.tree
set_option maxRecDepth 100000 in
set_option maxHeartbeats 4000000 in
theorem xb86 (l0 : Nat) (l1 : Int32) (h : xH) : xM 86 [.ref l0, .int l1] h = xcI (xM 95 [.int l1, .int 4] h) fun v2 h1 => 
  if v2 = 0 then (xgu h1 l0 4 (xcI (xM 97 [.ref l0, .int (-2)] h1) fun v4 h3 => some (some (.int v4), h3)))
  else ((xfR h1 l0 4 0).bind fun v5 => (xfR h1 v5 2 0).bind fun v6 => xgu h1 v6 3 (xcI (xM 57 [.ref v6, .int l1] h1) fun v8 h7 => some (some (.int v8), h7))) := (xB [] 500 86 0 [some (.ref l0), some (.int l1)] [] h).trans rfl
-- 87 X.node
set_option maxRecDepth 100000 in
set_option maxHeartbeats 4000000 in
theorem xb87 (l0 : Nat) (l1 : Int32) (l2 : Int32) (h : xH) : xM 87 [.ref l0, .int l1, .int l2] h = 
  if l1 < 0 then (xgu h l0 4 (xcI (xM 97 [.ref l0, .int (-2)] h) fun v2 h1 => some (some (.int v2), h1)))
  else (xcI (xM 95 [.int l2, .int 6] h) fun v4 h3 => 
  if v4 = 0 then (xgu h3 l0 4 (xcI (xM 97 [.ref l0, .int (-2)] h3) fun v6 h5 => some (some (.int v6), h5)))
  else ((xfR h3 l0 4 0).bind fun v7 => (xfR h3 v7 2 0).bind fun v8 => (xfR h3 l0 4 0).bind fun v9 => (xfR h3 v9 2 0).bind fun v10 => (xfI h3 v10 3 0).bind fun v11 => xgu h3 v8 3 (xcI (xM 55 [.ref v8, .int v11] h3) fun v13 h12 => 
  if l1 < v13 then ((xfR h12 l0 4 0).bind fun v14 => (xfR h12 v14 2 0).bind fun v15 => xgu h12 v15 3 (xcI (xM 58 [.ref v15, .int l1, .int l2] h12) fun v17 h16 => some (some (.int v17), h16)))
  else (some (some (.int (-5)), h12))))) := (xB [] 500 87 0 [some (.ref l0), some (.int l1), some (.int l2), none] [] h).trans rfl
-- 88 X.walk
set_option maxRecDepth 100000 in
set_option maxHeartbeats 4000000 in
theorem xb88 (l0 : Nat) (l1 : Int32) (h : xH) : xM 88 [.ref l0, .int l1] h = 
  if l1 < 0 then (xgu h l0 4 (xcI (xM 97 [.ref l0, .int (-2)] h) fun v2 h1 => some (some (.int v2), h1)))
  else ((xfR h l0 4 0).bind fun v3 => (xfR h v3 2 0).bind fun v4 => xgu h v4 3 (xcI (xM 56 [.ref v4] h) fun v6 h5 => 
  if l1 < v6 then ((xfR h5 l0 4 0).bind fun v7 => (xfR h5 v7 2 0).bind fun v8 => (xfR h5 v8 3 8).bind fun v9 => (xri h5 0 v9 l1).bind fun v10 => some (some (.int v10), h5))
  else (some (some (.int (-1)), h5)))) := (xB [] 500 88 0 [some (.ref l0), some (.int l1), none] [] h).trans rfl
-- 89 X.type
set_option maxRecDepth 100000 in
set_option maxHeartbeats 4000000 in
theorem xb89 (l0 : Nat) (l1 : Int32) (h : xH) : xM 89 [.ref l0, .int l1] h = xcI (xM 95 [.int l1, .int 128] h) fun v2 h1 => 
  if v2 = 0 then (xgu h1 l0 4 (xcI (xM 97 [.ref l0, .int (-2)] h1) fun v4 h3 => some (some (.int v4), h3)))
  else ((xfI h1 l0 4 5).bind fun v5 => 
  if v5 < 120 then ((xfR h1 l0 4 4).bind fun v6 => (xfI h1 l0 4 5).bind fun v7 => (xwi h1 0 v6 v7 l1).bind fun h8 => (xfI h8 l0 4 5).bind fun v9 => (xpf h8 l0 4 5 (.int (v9 + 1))).bind fun h10 => (xfI h10 l0 4 5).bind fun v11 => some (some (.int v11), h10))
  else (xgu h1 l0 4 (xcI (xM 97 [.ref l0, .int (-4)] h1) fun v13 h12 => some (some (.int v13), h12)))) := (xB [] 500 89 0 [some (.ref l0), some (.int l1)] [] h).trans rfl
-- 90 X.clear
set_option maxRecDepth 100000 in
set_option maxHeartbeats 4000000 in
theorem xb90 (l0 : Nat) (h : xH) : xM 90 [.ref l0] h = (xfI h l0 4 5).bind fun v1 => (xpf h l0 4 5 (.int 0)).bind fun h2 => some (some (.int v1), h2) := (xB [] 500 90 0 [some (.ref l0), none] [] h).trans rfl
-- 91 X.does
set_option maxRecDepth 100000 in
set_option maxHeartbeats 4000000 in
theorem xb91 (l0 : Nat) (h : xH) : xM 91 [.ref l0] h = (xfR h l0 4 6).bind fun v1 => (xfR h l0 4 4).bind fun v2 => (xfI h l0 4 5).bind fun v3 => xgu h v1 1 (xcI (xM 25 [.ref v1, .ref v2, .int v3] h) fun v5 h4 => 
  if v5 = (-1) then ((xfR h4 l0 4 1).bind fun v6 => (xfR h4 l0 4 0).bind fun v7 => xgu h4 v6 2 (xcV (xM 31 [.ref v6, .ref v7] h4) fun h8 => xE 91 41 [some (.ref l0), some (.int v5), some (.int 0), some (.int 0)] [] h8))
  else (some (some (.int ((-10) - v5)), h4))) := (xB [41] 500 91 0 [some (.ref l0), none, none, none] [] h).trans rfl
set_option maxRecDepth 100000 in
set_option maxHeartbeats 4000000 in
theorem xb91_41 (l0 : Nat) (l1 : Int32) (l2 : Int32) (l3 : Int32) (h : xH) : xE 91 41 [some (.ref l0), some (.int l1), some (.int l2), some (.int l3)] [] h = (xfR h l0 4 6).bind fun v1 => (xfI h v1 1 2).bind fun v2 => 
  if l3 < v2 then ((xfR h l0 4 6).bind fun v3 => (xfR h v3 1 0).bind fun v4 => (xri h 0 v4 l3).bind fun v5 => xgu h l0 4 (xcI (xM 101 [.ref l0, .int v5, .int l2] h) fun v7 h6 => 
  if v7 < 0 then (xgu h6 l0 4 (xcV (xM 100 [.ref l0] h6) fun h8 => some (some (.int ((-1000) - l3)), h8)))
  else ((xfR h6 l0 4 6).bind fun v9 => (xfR h6 v9 1 0).bind fun v10 => (xri h6 0 v10 l3).bind fun v11 => xcI (xM 23 [.int v11] h6) fun v13 h12 => xE 91 41 [some (.ref l0), some (.int l1), some (.int (l2 + v13)), some (.int (l3 + 1))] [] h12)))
  else (xgu h l0 4 (xcV (xM 99 [.ref l0] h) fun h14 => (xfR h14 l0 4 6).bind fun v15 => (xfI h14 v15 1 2).bind fun v16 => some (some (.int v16), h14))) := (xB [41] 500 91 41 [some (.ref l0), some (.int l1), some (.int l2), some (.int l3)] [] h).trans rfl
-- 92 X.back
set_option maxRecDepth 100000 in
set_option maxHeartbeats 4000000 in
theorem xb92 (l0 : Nat) (h : xH) : xM 92 [.ref l0] h = (xfI h l0 4 3).bind fun v1 => 
  if v1 = 0 then (xgu h l0 4 (xcI (xM 97 [.ref l0, .int (-3)] h) fun v3 h2 => some (some (.int v3), h2)))
  else ((xfI h l0 4 3).bind fun v4 => (xpf h l0 4 3 (.int (v4 - 1))).bind fun h5 => (xfR h5 l0 4 0).bind fun v6 => (xfR h5 l0 4 2).bind fun v7 => (xfI h5 l0 4 3).bind fun v8 => (xrr h5 v7 v8).bind fun v9 => (xpf h5 l0 4 0 (.ref v9)).bind fun h10 => (xfR h10 l0 4 2).bind fun v11 => (xfI h10 l0 4 3).bind fun v12 => (xwr h10 v11 v12 v6 2).bind fun h13 => (xfI h13 l0 4 3).bind fun v14 => some (some (.int v14), h13)) := (xB [] 500 92 0 [some (.ref l0), none] [] h).trans rfl
-- 93 X.told
set_option maxRecDepth 100000 in
set_option maxHeartbeats 4000000 in
theorem xb93 (l0 : Nat) (l1 : Int32) (h : xH) : xM 93 [.ref l0, .int l1] h = xcI (xM 95 [.int l1, .int 7] h) fun v2 h1 => 
  if v2 = 0 then (xgu h1 l0 4 (xcI (xM 97 [.ref l0, .int (-2)] h1) fun v4 h3 => some (some (.int v4), h3)))
  else (xgu h1 l0 4 (xcI (xM 96 [.ref l0, .int l1] h1) fun v6 h5 => some (some (.int v6), h5))) := (xB [] 500 93 0 [some (.ref l0), some (.int l1)] [] h).trans rfl
-- 94 X.digest
set_option maxRecDepth 100000 in
set_option maxHeartbeats 4000000 in
theorem xb94 (l0 : Nat) (h : xH) : xM 94 [.ref l0] h = xE 94 6 [some (.ref l0), some (.long ((1757 : Int32).toInt64)), none, some (.int 0), none] [] h := (xB [6, 57] 500 94 0 [some (.ref l0), none, none, none, none] [] h).trans rfl
set_option maxRecDepth 100000 in
set_option maxHeartbeats 4000000 in
theorem xb94_6 (l0 : Nat) (l1 : Int64) (l3 : Int32) (h : xH) : xE 94 6 [some (.ref l0), some (.long l1), none, some (.int l3), none] [] h = 
  if l3 < 7 then (xgu h l0 4 (xcI (xM 96 [.ref l0, .int l3] h) fun v2 h1 => xE 94 6 [some (.ref l0), some (.long ((((31 : Int32).toInt64) * l1) + ((v2 : Int32).toInt64))), none, some (.int (l3 + 1)), none] [] h1))
  else ((xfR h l0 4 0).bind fun v3 => (xfR h v3 2 0).bind fun v4 => xgu h v4 3 (xcL (xM 59 [.ref v4, .long l1] h) fun v6 h5 => (xfR h5 l0 4 0).bind fun v7 => (xfR h5 v7 2 0).bind fun v8 => xgu h5 v8 3 (xcI (xM 56 [.ref v8] h5) fun v10 h9 => xE 94 57 [some (.ref l0), some (.long v6), none, some (.int v10), some (.int 0)] [] h9))) := (xB [6, 57] 500 94 6 [some (.ref l0), some (.long l1), none, some (.int l3), none] [] h).trans rfl
set_option maxRecDepth 100000 in
set_option maxHeartbeats 4000000 in
theorem xb94_57 (l0 : Nat) (l1 : Int64) (l3 : Int32) (l4 : Int32) (h : xH) : xE 94 57 [some (.ref l0), some (.long l1), none, some (.int l3), some (.int l4)] [] h = 
  if l4 < l3 then ((xfR h l0 4 0).bind fun v1 => (xfR h l0 4 0).bind fun v2 => (xfR h v2 2 0).bind fun v3 => (xfR h v3 3 8).bind fun v4 => (xri h 0 v4 l4).bind fun v5 => xgu h v1 2 (xcL (xM 44 [.ref v1, .int v5, .long l1] h) fun v7 h6 => xE 94 57 [some (.ref l0), some (.long v7), none, some (.int l3), some (.int (l4 + 1))] [] h6))
  else ((xfR h l0 4 0).bind fun v8 => (xfR h v8 2 1).bind fun v9 => xgu h v9 0 (xcL (xM 19 [.ref v9, .long l1] h) fun v11 h10 => some (some (.long v11), h10))) := (xB [6, 57] 500 94 57 [some (.ref l0), some (.long l1), none, some (.int l3), some (.int l4)] [] h).trans rfl
-- 95 X.inRange
set_option maxRecDepth 100000 in
set_option maxHeartbeats 4000000 in
theorem xb95 (l0 : Int32) (l1 : Int32) (h : xH) : xM 95 [.int l0, .int l1] h = 
  if l0 < 0 then (some (some (.int 0), h))
  else (
  if l0 < l1 then (some (some (.int 1), h))
  else (some (some (.int 0), h))) := (xB [] 500 95 0 [some (.int l0), some (.int l1)] [] h).trans rfl
-- 96 X.countOf
set_option maxRecDepth 100000 in
set_option maxHeartbeats 4000000 in
theorem xb96 (l0 : Nat) (l1 : Int32) (h : xH) : xM 96 [.ref l0, .int l1] h = 
  if l1 = 0 then ((xfI h l0 4 7).bind fun v11 => some (some (.int v11), h))
  else (
  if l1 = 1 then ((xfI h l0 4 8).bind fun v10 => some (some (.int v10), h))
  else (
  if l1 = 2 then ((xfI h l0 4 9).bind fun v9 => some (some (.int v9), h))
  else (
  if l1 = 3 then ((xfI h l0 4 5).bind fun v8 => some (some (.int v8), h))
  else (
  if l1 = 4 then ((xfI h l0 4 3).bind fun v7 => some (some (.int v7), h))
  else (
  if l1 = 5 then ((xfR h l0 4 0).bind fun v4 => xgu h v4 2 (xcI (xM 33 [.ref v4] h) fun v6 h5 => some (some (.int v6), h5)))
  else ((xfR h l0 4 0).bind fun v1 => (xfR h v1 2 1).bind fun v2 => (xfI h v2 0 1).bind fun v3 => some (some (.int v3), h))))))) := (xB [] 500 96 0 [some (.ref l0), some (.int l1)] [] h).trans rfl
-- 97 X.counted
set_option maxRecDepth 100000 in
set_option maxHeartbeats 4000000 in
theorem xb97 (l0 : Nat) (l1 : Int32) (h : xH) : xM 97 [.ref l0, .int l1] h = 
  if l1 = (-2) then ((xfI h l0 4 7).bind fun v1 => (xpf h l0 4 7 (.int (v1 + 1))).bind fun h2 => some (some (.int l1), h2))
  else (
  if l1 = (-3) then ((xfI h l0 4 8).bind fun v3 => (xpf h l0 4 8 (.int (v3 + 1))).bind fun h4 => some (some (.int l1), h4))
  else (
  if l1 = (-4) then ((xfI h l0 4 9).bind fun v5 => (xpf h l0 4 9 (.int (v5 + 1))).bind fun h6 => some (some (.int l1), h6))
  else (some (some (.int l1), h)))) := (xB [] 500 97 0 [some (.ref l0), some (.int l1)] [] h).trans rfl
-- 98 X.settled
set_option maxRecDepth 100000 in
set_option maxHeartbeats 4000000 in
theorem xb98 (l0 : Nat) (l1 : Int32) (h : xH) : xM 98 [.ref l0, .int l1] h = 
  if l1 < 0 then (xgu h l0 4 (xcI (xM 97 [.ref l0, .int l1] h) fun v2 h1 => some (some (.int v2), h1)))
  else (xgu h l0 4 (xcV (xM 99 [.ref l0] h) fun h3 => xgu h3 l0 4 (xcI (xM 97 [.ref l0, .int l1] h3) fun v5 h4 => some (some (.int v5), h4)))) := (xB [] 500 98 0 [some (.ref l0), some (.int l1)] [] h).trans rfl
-- 99 X.remember
set_option maxRecDepth 100000 in
set_option maxHeartbeats 4000000 in
theorem xb99 (l0 : Nat) (h : xH) : xM 99 [.ref l0] h = (xfI h l0 4 3).bind fun v1 => 
  if v1 = 5 then ((xfR h l0 4 2).bind fun v2 => (xrr h v2 0).bind fun v3 => xE 99 17 [some (.ref l0), some (.ref v3), some (.int 0)] [] h)
  else ((xfR h l0 4 2).bind fun v4 => (xfI h l0 4 3).bind fun v5 => (xrr h v4 v5).bind fun v6 => (xfR h l0 4 2).bind fun v7 => (xfI h l0 4 3).bind fun v8 => (xfR h l0 4 1).bind fun v9 => (xwr h v7 v8 v9 2).bind fun h10 => (xpf h10 l0 4 1 (.ref v6)).bind fun h11 => (xfI h11 l0 4 3).bind fun v12 => (xpf h11 l0 4 3 (.int (v12 + 1))).bind fun h13 => some (none, h13)) := (xB [17] 500 99 0 [some (.ref l0), none, none] [] h).trans rfl
set_option maxRecDepth 100000 in
set_option maxHeartbeats 4000000 in
theorem xb99_17 (l0 : Nat) (l1 : Nat) (l2 : Int32) (h : xH) : xE 99 17 [some (.ref l0), some (.ref l1), some (.int l2)] [] h = 
  if (l2 + 1) < 5 then ((xfR h l0 4 2).bind fun v1 => (xfR h l0 4 2).bind fun v2 => (xrr h v2 (l2 + 1)).bind fun v3 => (xwr h v1 l2 v3 2).bind fun h4 => xE 99 17 [some (.ref l0), some (.ref l1), some (.int (l2 + 1))] [] h4)
  else ((xfR h l0 4 2).bind fun v5 => (xfR h l0 4 1).bind fun v6 => (xwr h v5 4 v6 2).bind fun h7 => (xpf h7 l0 4 1 (.ref l1)).bind fun h8 => some (none, h8)) := (xB [17] 500 99 17 [some (.ref l0), some (.ref l1), some (.int l2)] [] h).trans rfl
-- 100 X.swapNowAndSpare
set_option maxRecDepth 100000 in
set_option maxHeartbeats 4000000 in
theorem xb100 (l0 : Nat) (h : xH) : xM 100 [.ref l0] h = (xfR h l0 4 0).bind fun v1 => (xfR h l0 4 1).bind fun v2 => (xpf h l0 4 0 (.ref v2)).bind fun h3 => (xpf h3 l0 4 1 (.ref v1)).bind fun h4 => some (none, h4) := (xB [] 500 100 0 [some (.ref l0), none] [] h).trans rfl
-- 101 X.carryOut
set_option maxRecDepth 100000 in
set_option maxHeartbeats 4000000 in
theorem xb101 (l0 : Nat) (l1 : Int32) (l2 : Int32) (h : xH) : xM 101 [.ref l0, .int l1, .int l2] h = (xfR h l0 4 6).bind fun v1 => xgu h v1 1 (xcI (xM 24 [.ref v1, .int l2] h) fun v3 h2 => (xfR h2 l0 4 6).bind fun v4 => xgu h2 v4 1 (xcI (xM 24 [.ref v4, .int (l2 + 1)] h2) fun v6 h5 => (xfR h5 l0 4 6).bind fun v7 => xgu h5 v7 1 (xcI (xM 24 [.ref v7, .int (l2 + 2)] h5) fun v9 h8 => (xfR h8 l0 4 6).bind fun v10 => xgu h8 v10 1 (xcI (xM 24 [.ref v10, .int (l2 + 3)] h8) fun v12 h11 => (xfR h11 l0 4 6).bind fun v13 => xgu h11 v13 1 (xcI (xM 24 [.ref v13, .int (l2 + 4)] h11) fun v15 h14 => 
  if l1 = 99 then ((xfR h14 l0 4 0).bind fun v32 => xgu h14 v32 2 (xcI (xM 37 [.ref v32, .int v3, .int v6] h14) fun v34 h33 => some (some (.int v34), h33)))
  else (
  if l1 = 108 then ((xfR h14 l0 4 0).bind fun v29 => xgu h14 v29 2 (xcI (xM 36 [.ref v29, .int v3, .int v6] h14) fun v31 h30 => some (some (.int v31), h30)))
  else (
  if l1 = 109 then ((xfR h14 l0 4 0).bind fun v26 => xgu h14 v26 2 (xcI (xM 35 [.ref v26, .int v3, .int v6, .int v9, .int v12, .int v15] h14) fun v28 h27 => some (some (.int v28), h27)))
  else (
  if l1 = 114 then ((xfR h14 l0 4 0).bind fun v23 => xgu h14 v23 2 (xcI (xM 38 [.ref v23, .int v3] h14) fun v25 h24 => some (some (.int v25), h24)))
  else (
  if l1 = 115 then ((xfR h14 l0 4 0).bind fun v20 => xgu h14 v20 2 (xcI (xM 34 [.ref v20, .int v3, .int v6, .int v9, .int v12, .int v15] h14) fun v22 h21 => some (some (.int v22), h21)))
  else ((xfR h14 l0 4 0).bind fun v16 => (xfR h14 v16 2 1).bind fun v17 => xgu h14 v17 0 (xcI (xM 16 [.ref v17] h14) fun v19 h18 => some (some (.int v19), h18)))))))))))) := (xB [] 500 101 0 [some (.ref l0), some (.int l1), some (.int l2), none, none, none, none, none] [] h).trans rfl
