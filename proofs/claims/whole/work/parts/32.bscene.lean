-- 30 X$Scene.init
set_option maxRecDepth 100000 in
set_option maxHeartbeats 4000000 in
theorem xb30 (l0 : Nat) (h : xH) : xM 30 [.ref l0] h = xgu (xnw h (.inr (.inr (3, xdef 3))) 10) h.1 3 (xcV (xM 50 [.ref h.1] (xnw h (.inr (.inr (3, xdef 3))) 10)) fun h1 => (xpf h1 l0 2 0 (.ref h.1)).bind fun h2 => xgu (xnw h2 (.inr (.inr (0, xdef 0))) 2) h2.1 0 (xcV (xM 14 [.ref h2.1] (xnw h2 (.inr (.inr (0, xdef 0))) 2)) fun h3 => (xpf h3 l0 2 1 (.ref h2.1)).bind fun h4 => (xfR h4 l0 2 0).bind fun v5 => (xfR h4 v5 3 1).bind fun v6 => (xpf h4 l0 2 2 (.ref v6)).bind fun h7 => (xpf (xnw h7 (.inl (0, 16, fun _ => 0)) 16) l0 2 3 (.ref h7.1)).bind fun h8 => (xpf (xnw h8 (.inl (0, 16, fun _ => 0)) 16) l0 2 4 (.ref h8.1)).bind fun h9 => some (none, h9))) := (xB [] 500 30 0 [some (.ref l0)] [] h).trans rfl
-- 31 X$Scene.copyFrom
set_option maxRecDepth 100000 in
set_option maxHeartbeats 4000000 in
theorem xb31 (l0 : Nat) (l1 : Nat) (h : xH) : xM 31 [.ref l0, .ref l1] h = (xfR h l0 2 0).bind fun v1 => (xfR h l1 2 0).bind fun v2 => xgu h v1 3 (xcV (xM 51 [.ref v1, .ref v2] h) fun h3 => (xfR h3 l0 2 1).bind fun v4 => (xfR h3 l1 2 1).bind fun v5 => xgu h3 v4 0 (xcV (xM 15 [.ref v4, .ref v5] h3) fun h6 => (xfR h6 l1 2 3).bind fun v7 => (xfR h6 l0 2 3).bind fun v8 => (xcp h6 v7 0 v8 0 16).bind fun h9 => (xfR h9 l1 2 4).bind fun v10 => (xfR h9 l0 2 4).bind fun v11 => (xcp h9 v10 0 v11 0 16).bind fun h12 => some (none, h12))) := (xB [] 500 31 0 [some (.ref l0), some (.ref l1)] [] h).trans rfl
-- 32 X$Scene.has
set_option maxRecDepth 100000 in
set_option maxHeartbeats 4000000 in
theorem xb32 (l0 : Nat) (l1 : Int32) (h : xH) : xM 32 [.ref l0, .int l1] h = 
  if l1 < 0 then (some (some (.int 0), h))
  else (
  if l1 < 16 then ((xfR h l0 2 2).bind fun v1 => (xri h 0 v1 l1).bind fun v2 => 
  if v2 = 0 then (some (some (.int 0), h))
  else (some (some (.int 1), h)))
  else (some (some (.int 0), h))) := (xB [] 500 32 0 [some (.ref l0), some (.int l1)] [] h).trans rfl
-- 33 X$Scene.shapeCount
set_option maxRecDepth 100000 in
set_option maxHeartbeats 4000000 in
theorem xb33 (l0 : Nat) (h : xH) : xM 33 [.ref l0] h = xE 33 4 [some (.ref l0), some (.int 0), some (.int 0)] [] h := (xB [4] 500 33 0 [some (.ref l0), none, none] [] h).trans rfl
set_option maxRecDepth 100000 in
set_option maxHeartbeats 4000000 in
theorem xb33_4 (l0 : Nat) (l1 : Int32) (l2 : Int32) (h : xH) : xE 33 4 [some (.ref l0), some (.int l1), some (.int l2)] [] h = 
  if l2 < 16 then ((xfR h l0 2 2).bind fun v1 => (xri h 0 v1 l2).bind fun v2 => 
  if v2 = 0 then (xE 33 4 [some (.ref l0), some (.int l1), some (.int (l2 + 1))] [] h)
  else (xE 33 4 [some (.ref l0), some (.int (l1 + 1)), some (.int (l2 + 1))] [] h))
  else (some (some (.int l1), h)) := (xB [4] 500 33 4 [some (.ref l0), some (.int l1), some (.int l2)] [] h).trans rfl
-- 34 X$Scene.addShape
set_option maxRecDepth 100000 in
set_option maxHeartbeats 4000000 in
theorem xb34 (l0 : Nat) (l1 : Int32) (l2 : Int32) (l3 : Int32) (l4 : Int32) (l5 : Int32) (h : xH) : xM 34 [.ref l0, .int l1, .int l2, .int l3, .int l4, .int l5] h = xcI (xM 0 [.int l1, .int l2, .int l3, .int l4] h) fun v2 h1 => 
  if v2 = 0 then (some (some (.int (-2)), h1))
  else (
  if l5 < 0 then (some (some (.int (-2)), h1))
  else (
  if 99 < l5 then (some (some (.int (-2)), h1))
  else (xE 34 33 [some (.ref l0), some (.int l1), some (.int l2), some (.int l3), some (.int l4), some (.int l5), some (.int v2), some (.int 0)] [] h1))) := (xB [33, 56] 500 34 0 [some (.ref l0), some (.int l1), some (.int l2), some (.int l3), some (.int l4), some (.int l5), none, none] [] h).trans rfl
set_option maxRecDepth 100000 in
set_option maxHeartbeats 4000000 in
theorem xb34_33 (l0 : Nat) (l1 : Int32) (l2 : Int32) (l3 : Int32) (l4 : Int32) (l5 : Int32) (l6 : Int32) (l7 : Int32) (h : xH) : xE 34 33 [some (.ref l0), some (.int l1), some (.int l2), some (.int l3), some (.int l4), some (.int l5), some (.int l6), some (.int l7)] [] h = 
  if l7 < 16 then ((xfR h l0 2 2).bind fun v1 => (xri h 0 v1 l7).bind fun v2 => 
  if v2 = 0 then (xE 34 56 [some (.ref l0), some (.int l1), some (.int l2), some (.int l3), some (.int l4), some (.int l5), some (.int l6), some (.int l7)] [] h)
  else (xE 34 33 [some (.ref l0), some (.int l1), some (.int l2), some (.int l3), some (.int l4), some (.int l5), some (.int l6), some (.int (l7 + 1))] [] h))
  else (xE 34 56 [some (.ref l0), some (.int l1), some (.int l2), some (.int l3), some (.int l4), some (.int l5), some (.int l6), some (.int l7)] [] h) := (xB [33, 56] 500 34 33 [some (.ref l0), some (.int l1), some (.int l2), some (.int l3), some (.int l4), some (.int l5), some (.int l6), some (.int l7)] [] h).trans rfl
set_option maxRecDepth 100000 in
set_option maxHeartbeats 4000000 in
theorem xb34_56 (l0 : Nat) (l1 : Int32) (l2 : Int32) (l3 : Int32) (l4 : Int32) (l5 : Int32) (l6 : Int32) (l7 : Int32) (h : xH) : xE 34 56 [some (.ref l0), some (.int l1), some (.int l2), some (.int l3), some (.int l4), some (.int l5), some (.int l6), some (.int l7)] [] h = 
  if l7 = 16 then (some (some (.int (-4)), h))
  else ((xfR h l0 2 2).bind fun v1 => (xwi h 0 v1 l7 l6).bind fun h2 => (xfR h2 l0 2 3).bind fun v3 => (xwi h2 0 v3 l7 l5).bind fun h4 => (xfR h4 l0 2 4).bind fun v5 => (xwi h4 0 v5 l7 16).bind fun h6 => (xfR h6 l0 2 0).bind fun v7 => xgu h6 v7 3 (xcV (xM 53 [.ref v7, .int l7] h6) fun h8 => (xfR h8 l0 2 1).bind fun v9 => xgu h8 v9 0 (xcV (xM 18 [.ref v9, .int l6] h8) fun h10 => some (some (.int l7), h10)))) := (xB [33, 56] 500 34 56 [some (.ref l0), some (.int l1), some (.int l2), some (.int l3), some (.int l4), some (.int l5), some (.int l6), some (.int l7)] [] h).trans rfl
-- 35 X$Scene.moveShape
set_option maxRecDepth 100000 in
set_option maxHeartbeats 4000000 in
theorem xb35 (l0 : Nat) (l1 : Int32) (l2 : Int32) (l3 : Int32) (l4 : Int32) (l5 : Int32) (h : xH) : xM 35 [.ref l0, .int l1, .int l2, .int l3, .int l4, .int l5] h = xcI (xM 0 [.int l2, .int l3, .int l4, .int l5] h) fun v2 h1 => xgu h1 l0 2 (xcI (xM 32 [.ref l0, .int l1] h1) fun v4 h3 => 
  if v4 = 0 then (some (some (.int (-2)), h3))
  else (
  if v2 = 0 then (some (some (.int (-2)), h3))
  else (xgu h3 l0 2 (xcI (xM 48 [.ref l0, .int l1] h3) fun v6 h5 => xgu h5 l0 2 (xcV (xM 49 [.ref l0, .int v6] h5) fun h7 => (xfR h7 l0 2 0).bind fun v8 => xgu h7 v8 3 (xcV (xM 54 [.ref v8, .int l1] h7) fun h9 => xE 35 51 [some (.ref l0), some (.int l1), some (.int l2), some (.int l3), some (.int l4), some (.int l5), some (.int v2), some (.int v6), some (.int 0)] [] h9)))))) := (xB [51] 500 35 0 [some (.ref l0), some (.int l1), some (.int l2), some (.int l3), some (.int l4), some (.int l5), none, none, none] [] h).trans rfl
set_option maxRecDepth 100000 in
set_option maxHeartbeats 4000000 in
theorem xb35_51 (l0 : Nat) (l1 : Int32) (l2 : Int32) (l3 : Int32) (l4 : Int32) (l5 : Int32) (l6 : Int32) (l7 : Int32) (l8 : Int32) (h : xH) : xE 35 51 [some (.ref l0), some (.int l1), some (.int l2), some (.int l3), some (.int l4), some (.int l5), some (.int l6), some (.int l7), some (.int l8)] [] h = (xfR h l0 2 0).bind fun v1 => (xfI h v1 3 9).bind fun v2 => 
  if l8 < v2 then ((xfR h l0 2 0).bind fun v3 => (xfR h l0 2 0).bind fun v4 => (xfR h v4 3 8).bind fun v5 => (xri h 0 v5 l8).bind fun v6 => xgu h v3 3 (xcV (xM 53 [.ref v3, .int v6] h) fun h7 => xE 35 51 [some (.ref l0), some (.int l1), some (.int l2), some (.int l3), some (.int l4), some (.int l5), some (.int l6), some (.int l7), some (.int (l8 + 1))] [] h7))
  else ((xfR h l0 2 2).bind fun v8 => (xwi h 0 v8 l1 l6).bind fun h9 => (xfR h9 l0 2 0).bind fun v10 => xgu h9 v10 3 (xcV (xM 53 [.ref v10, .int l1] h9) fun h11 => xgu h11 l0 2 (xcV (xM 49 [.ref l0, .int l7] h11) fun h12 => (xfR h12 l0 2 0).bind fun v13 => xgu h12 v13 3 (xcI (xM 57 [.ref v13, .int 0] h12) fun v15 h14 => some (some (.int v15), h14))))) := (xB [51] 500 35 51 [some (.ref l0), some (.int l1), some (.int l2), some (.int l3), some (.int l4), some (.int l5), some (.int l6), some (.int l7), some (.int l8)] [] h).trans rfl
-- 36 X$Scene.liftShape
set_option maxRecDepth 100000 in
set_option maxHeartbeats 4000000 in
theorem xb36 (l0 : Nat) (l1 : Int32) (l2 : Int32) (h : xH) : xM 36 [.ref l0, .int l1, .int l2] h = xgu h l0 2 (xcI (xM 32 [.ref l0, .int l1] h) fun v2 h1 => 
  if v2 = 0 then (some (some (.int (-2)), h1))
  else (
  if l2 < 0 then (some (some (.int (-2)), h1))
  else (
  if 99 < l2 then (some (some (.int (-2)), h1))
  else ((xfR h1 l0 2 3).bind fun v3 => (xri h1 0 v3 l1).bind fun v4 => xgu h1 l0 2 (xcI (xM 48 [.ref l0, .int l1] h1) fun v6 h5 => xgu h5 l0 2 (xcV (xM 49 [.ref l0, .int v6] h5) fun h7 => (xfR h7 l0 2 3).bind fun v8 => (xwi h7 0 v8 l1 l2).bind fun h9 => xgu h9 l0 2 (xcV (xM 49 [.ref l0, .int v6] h9) fun h10 => some (some (.int v4), h10)))))))) := (xB [] 500 36 0 [some (.ref l0), some (.int l1), some (.int l2), none, none] [] h).trans rfl
-- 37 X$Scene.clipShape
set_option maxRecDepth 100000 in
set_option maxHeartbeats 4000000 in
theorem xb37 (l0 : Nat) (l1 : Int32) (l2 : Int32) (h : xH) : xM 37 [.ref l0, .int l1, .int l2] h = xgu h l0 2 (xcI (xM 32 [.ref l0, .int l1] h) fun v2 h1 => 
  if v2 = 0 then (some (some (.int (-2)), h1))
  else (
  if l2 = 16 then (xE 37 25 [some (.ref l0), some (.int l1), some (.int l2), none, none] [] h1)
  else (xgu h1 l0 2 (xcI (xM 32 [.ref l0, .int l2] h1) fun v4 h3 => 
  if v4 = 0 then (some (some (.int (-2)), h3))
  else (xE 37 25 [some (.ref l0), some (.int l1), some (.int l2), none, none] [] h3))))) := (xB [25, 49] 500 37 0 [some (.ref l0), some (.int l1), some (.int l2), none, none] [] h).trans rfl
set_option maxRecDepth 100000 in
set_option maxHeartbeats 4000000 in
theorem xb37_25 (l0 : Nat) (l1 : Int32) (l2 : Int32) (h : xH) : xE 37 25 [some (.ref l0), some (.int l1), some (.int l2), none, none] [] h = xgu h l0 2 (xcI (xM 48 [.ref l0, .int l1] h) fun v2 h1 => 
  if l2 = 16 then (xE 37 49 [some (.ref l0), some (.int l1), some (.int l2), some (.int v2), none] [] h1)
  else (
  if ((v2 >>> (l2 &&& 31)) &&& 1) = 1 then (some (some (.int (-3)), h1))
  else (xE 37 49 [some (.ref l0), some (.int l1), some (.int l2), some (.int v2), none] [] h1))) := (xB [25, 49] 500 37 25 [some (.ref l0), some (.int l1), some (.int l2), none, none] [] h).trans rfl
set_option maxRecDepth 100000 in
set_option maxHeartbeats 4000000 in
theorem xb37_49 (l0 : Nat) (l1 : Int32) (l2 : Int32) (l3 : Int32) (h : xH) : xE 37 49 [some (.ref l0), some (.int l1), some (.int l2), some (.int l3), none] [] h = (xfR h l0 2 4).bind fun v1 => (xri h 0 v1 l1).bind fun v2 => xgu h l0 2 (xcV (xM 49 [.ref l0, .int l3] h) fun h3 => (xfR h3 l0 2 4).bind fun v4 => (xwi h3 0 v4 l1 l2).bind fun h5 => xgu h5 l0 2 (xcV (xM 49 [.ref l0, .int l3] h5) fun h6 => some (some (.int v2), h6))) := (xB [25, 49] 500 37 49 [some (.ref l0), some (.int l1), some (.int l2), some (.int l3), none] [] h).trans rfl
-- 38 X$Scene.removeShape
set_option maxRecDepth 100000 in
set_option maxHeartbeats 4000000 in
theorem xb38 (l0 : Nat) (l1 : Int32) (h : xH) : xM 38 [.ref l0, .int l1] h = xgu h l0 2 (xcI (xM 32 [.ref l0, .int l1] h) fun v2 h1 => 
  if v2 = 0 then (some (some (.int (-2)), h1))
  else (xgu h1 l0 2 (xcI (xM 46 [.ref l0, .int l1] h1) fun v4 h3 => 
  if 0 < v4 then (some (some (.int (-3)), h3))
  else ((xfR h3 l0 2 1).bind fun v5 => xgu h3 l0 2 (xcI (xM 47 [.ref l0, .int l1] h3) fun v7 h6 => xgu h6 v5 0 (xcV (xM 18 [.ref v5, .int v7] h6) fun h8 => (xfR h8 l0 2 0).bind fun v9 => xgu h8 v9 3 (xcV (xM 54 [.ref v9, .int l1] h8) fun h10 => (xfR h10 l0 2 2).bind fun v11 => (xwi h10 0 v11 l1 0).bind fun h12 => xE 38 51 [some (.ref l0), some (.int l1), some (.int 0)] [] h12))))))) := (xB [51] 500 38 0 [some (.ref l0), some (.int l1), none] [] h).trans rfl
set_option maxRecDepth 100000 in
set_option maxHeartbeats 4000000 in
theorem xb38_51 (l0 : Nat) (l1 : Int32) (l2 : Int32) (h : xH) : xE 38 51 [some (.ref l0), some (.int l1), some (.int l2)] [] h = (xfR h l0 2 0).bind fun v1 => (xfI h v1 3 9).bind fun v2 => 
  if l2 < v2 then ((xfR h l0 2 0).bind fun v3 => (xfR h l0 2 0).bind fun v4 => (xfR h v4 3 8).bind fun v5 => (xri h 0 v5 l2).bind fun v6 => xgu h v3 3 (xcV (xM 53 [.ref v3, .int v6] h) fun h7 => xE 38 51 [some (.ref l0), some (.int l1), some (.int (l2 + 1))] [] h7))
  else (xgu h l0 2 (xcI (xM 33 [.ref l0] h) fun v9 h8 => some (some (.int v9), h8))) := (xB [51] 500 38 51 [some (.ref l0), some (.int l1), some (.int l2)] [] h).trans rfl
-- 39 X$Scene.shapeValue
set_option maxRecDepth 100000 in
set_option maxHeartbeats 4000000 in
theorem xb39 (l0 : Nat) (l1 : Int32) (l2 : Int32) (h : xH) : xM 39 [.ref l0, .int l1, .int l2] h = 
  if l2 = 4 then ((xfR h l0 2 3).bind fun v9 => (xri h 0 v9 l1).bind fun v10 => some (some (.int v10), h))
  else (
  if l2 = 5 then ((xfR h l0 2 4).bind fun v7 => (xri h 0 v7 l1).bind fun v8 => some (some (.int v8), h))
  else (
  if l2 = 6 then (xgu h l0 2 (xcI (xM 46 [.ref l0, .int l1] h) fun v6 h5 => some (some (.int v6), h5)))
  else ((xfR h l0 2 2).bind fun v1 => (xri h 0 v1 l1).bind fun v2 => xcI (xM 6 [.int v2, .int l2] h) fun v4 h3 => some (some (.int v4), h3)))) := (xB [] 500 39 0 [some (.ref l0), some (.int l1), some (.int l2)] [] h).trans rfl
-- 40 X$Scene.viewValue
set_option maxRecDepth 100000 in
set_option maxHeartbeats 4000000 in
theorem xb40 (l0 : Nat) (l1 : Int32) (l2 : Int32) (h : xH) : xM 40 [.ref l0, .int l1, .int l2] h = xgu h l0 2 (xcI (xM 47 [.ref l0, .int l1] h) fun v2 h1 => 
  if v2 = 0 then (some (some (.int (-1)), h1))
  else (xcI (xM 6 [.int v2, .int l2] h1) fun v4 h3 => some (some (.int v4), h3))) := (xB [] 500 40 0 [some (.ref l0), some (.int l1), some (.int l2), none] [] h).trans rfl
-- 41 X$Scene.hitAt
set_option maxRecDepth 100000 in
set_option maxHeartbeats 4000000 in
theorem xb41 (l0 : Nat) (l1 : Int32) (l2 : Int32) (l3 : Int32) (h : xH) : xM 41 [.ref l0, .int l1, .int l2, .int l3] h = xE 41 6 [some (.ref l0), some (.int l1), some (.int l2), some (.int l3), some (.int 0), some (.int 0)] [] h := (xB [6, 55] 500 41 0 [some (.ref l0), some (.int l1), some (.int l2), some (.int l3), none, none] [] h).trans rfl
set_option maxRecDepth 100000 in
set_option maxHeartbeats 4000000 in
theorem xb41_6 (l0 : Nat) (l1 : Int32) (l2 : Int32) (l3 : Int32) (l4 : Int32) (l5 : Int32) (h : xH) : xE 41 6 [some (.ref l0), some (.int l1), some (.int l2), some (.int l3), some (.int l4), some (.int l5)] [] h = 
  if l5 < 16 then ((xfR h l0 2 2).bind fun v1 => (xri h 0 v1 l5).bind fun v2 => 
  if v2 = 0 then (xE 41 6 [some (.ref l0), some (.int l1), some (.int l2), some (.int l3), some (.int l4), some (.int (l5 + 1))] [] h)
  else (xgu h l0 2 (xcI (xM 47 [.ref l0, .int l5] h) fun v4 h3 => xcI (xM 12 [.int v4, .int l1, .int l2] h3) fun v6 h5 => 
  if v6 = 0 then (xE 41 6 [some (.ref l0), some (.int l1), some (.int l2), some (.int l3), some (.int l4), some (.int (l5 + 1))] [] h5)
  else (xE 41 6 [some (.ref l0), some (.int l1), some (.int l2), some (.int l3), some (.int (l4 ||| (1 <<< (l5 &&& 31)))), some (.int (l5 + 1))] [] h5))))
  else (xE 41 55 [some (.ref l0), some (.int l1), some (.int l2), some (.int l3), some (.int l4), some (.int 0)] [] h) := (xB [6, 55] 500 41 6 [some (.ref l0), some (.int l1), some (.int l2), some (.int l3), some (.int l4), some (.int l5)] [] h).trans rfl
set_option maxRecDepth 100000 in
set_option maxHeartbeats 4000000 in
theorem xb41_55 (l0 : Nat) (l1 : Int32) (l2 : Int32) (l3 : Int32) (l4 : Int32) (l5 : Int32) (h : xH) : xE 41 55 [some (.ref l0), some (.int l1), some (.int l2), some (.int l3), some (.int l4), some (.int l5)] [] h = 
  if l5 < l3 then (
  if l5 < 16 then (
  if l4 = 0 then (xgu h l0 2 (xcI (xM 45 [.ref l0, .int l4] h) fun v2 h1 => some (some (.int v2), h1)))
  else (xgu h l0 2 (xcI (xM 45 [.ref l0, .int l4] h) fun v4 h3 => xE 41 55 [some (.ref l0), some (.int l1), some (.int l2), some (.int l3), some (.int (l4 &&& ((1 <<< (v4 &&& 31)) ^^^ (-1)))), some (.int (l5 + 1))] [] h3)))
  else (xgu h l0 2 (xcI (xM 45 [.ref l0, .int l4] h) fun v6 h5 => some (some (.int v6), h5))))
  else (xgu h l0 2 (xcI (xM 45 [.ref l0, .int l4] h) fun v8 h7 => some (some (.int v8), h7))) := (xB [6, 55] 500 41 55 [some (.ref l0), some (.int l1), some (.int l2), some (.int l3), some (.int l4), some (.int l5)] [] h).trans rfl
-- 42 X$Scene.countMeeting
set_option maxRecDepth 100000 in
set_option maxHeartbeats 4000000 in
theorem xb42 (l0 : Nat) (l1 : Int32) (h : xH) : xM 42 [.ref l0, .int l1] h = xE 42 4 [some (.ref l0), some (.int l1), some (.int 0), some (.int 0)] [] h := (xB [4] 500 42 0 [some (.ref l0), some (.int l1), none, none] [] h).trans rfl
set_option maxRecDepth 100000 in
set_option maxHeartbeats 4000000 in
theorem xb42_4 (l0 : Nat) (l1 : Int32) (l2 : Int32) (l3 : Int32) (h : xH) : xE 42 4 [some (.ref l0), some (.int l1), some (.int l2), some (.int l3)] [] h = 
  if l3 < 16 then ((xfR h l0 2 2).bind fun v1 => (xri h 0 v1 l3).bind fun v2 => 
  if v2 = 0 then (xE 42 4 [some (.ref l0), some (.int l1), some (.int l2), some (.int (l3 + 1))] [] h)
  else ((xfR h l0 2 2).bind fun v3 => (xri h 0 v3 l3).bind fun v4 => xcI (xM 9 [.int v4, .int l1] h) fun v6 h5 => 
  if v6 = 0 then (xE 42 4 [some (.ref l0), some (.int l1), some (.int l2), some (.int (l3 + 1))] [] h5)
  else (xE 42 4 [some (.ref l0), some (.int l1), some (.int (l2 + 1)), some (.int (l3 + 1))] [] h5)))
  else (some (some (.int l2), h)) := (xB [4] 500 42 4 [some (.ref l0), some (.int l1), some (.int l2), some (.int l3)] [] h).trans rfl
-- 43 X$Scene.nearestTo
set_option maxRecDepth 100000 in
set_option maxHeartbeats 4000000 in
theorem xb43 (l0 : Nat) (l1 : Int32) (l2 : Int32) (h : xH) : xM 43 [.ref l0, .int l1, .int l2] h = xE 43 8 [some (.ref l0), some (.int l1), some (.int l2), some (.int 0), some (.int 0), some (.int 0), none] [] h := (xB [8, 56] 500 43 0 [some (.ref l0), some (.int l1), some (.int l2), none, none, none, none] [] h).trans rfl
set_option maxRecDepth 100000 in
set_option maxHeartbeats 4000000 in
theorem xb43_8 (l0 : Nat) (l1 : Int32) (l2 : Int32) (l3 : Int32) (l4 : Int32) (l5 : Int32) (l6 : Option Value) (h : xH) : xE 43 8 [some (.ref l0), some (.int l1), some (.int l2), some (.int l3), some (.int l4), some (.int l5), l6] [] h = 
  if l5 < 16 then ((xfR h l0 2 2).bind fun v1 => (xri h 0 v1 l5).bind fun v2 => 
  if v2 = 0 then (xE 43 8 [some (.ref l0), some (.int l1), some (.int l2), some (.int l3), some (.int l4), some (.int (l5 + 1)), l6] [] h)
  else ((xfR h l0 2 2).bind fun v3 => (xri h 0 v3 l5).bind fun v4 => xcI (xM 13 [.int v4, .int l1, .int l2] h) fun v6 h5 => 
  if l4 = 0 then (xE 43 56 [some (.ref l0), some (.int l1), some (.int l2), some (.int v6), some (.int 0), some (.int l5), some (.int v6)] [] h5)
  else (
  if v6 < l3 then (xE 43 56 [some (.ref l0), some (.int l1), some (.int l2), some (.int v6), some (.int 0), some (.int l5), some (.int v6)] [] h5)
  else (xE 43 56 [some (.ref l0), some (.int l1), some (.int l2), some (.int l3), some (.int l4), some (.int l5), some (.int v6)] [] h5))))
  else (xgu h l0 2 (xcI (xM 45 [.ref l0, .int l4] h) fun v8 h7 => some (some (.int v8), h7))) := (xB [8, 56] 500 43 8 [some (.ref l0), some (.int l1), some (.int l2), some (.int l3), some (.int l4), some (.int l5), l6] [] h).trans rfl
set_option maxRecDepth 100000 in
set_option maxHeartbeats 4000000 in
theorem xb43_56 (l0 : Nat) (l1 : Int32) (l2 : Int32) (l3 : Int32) (l4 : Int32) (l5 : Int32) (l6 : Int32) (h : xH) : xE 43 56 [some (.ref l0), some (.int l1), some (.int l2), some (.int l3), some (.int l4), some (.int l5), some (.int l6)] [] h = 
  if l6 = l3 then (xE 43 8 [some (.ref l0), some (.int l1), some (.int l2), some (.int l3), some (.int (l4 ||| (1 <<< (l5 &&& 31)))), some (.int (l5 + 1)), some (.int l6)] [] h)
  else (xE 43 8 [some (.ref l0), some (.int l1), some (.int l2), some (.int l3), some (.int l4), some (.int (l5 + 1)), some (.int l6)] [] h) := (xB [8, 56] 500 43 56 [some (.ref l0), some (.int l1), some (.int l2), some (.int l3), some (.int l4), some (.int l5), some (.int l6)] [] h).trans rfl
-- 44 X$Scene.digestShape
set_option maxRecDepth 100000 in
set_option maxHeartbeats 4000000 in
theorem xb44 (l0 : Nat) (l1 : Int32) (l2 : Int64) (h : xH) : xM 44 [.ref l0, .int l1, .long l2] h = xE 44 13 [some (.ref l0), some (.int l1), some (.long l2), none, some (.long ((((31 : Int32).toInt64) * l2) + ((l1 : Int32).toInt64))), none, some (.int 0)] [] h := (xB [13, 45] 500 44 0 [some (.ref l0), some (.int l1), some (.long l2), none, none, none, none] [] h).trans rfl
set_option maxRecDepth 100000 in
set_option maxHeartbeats 4000000 in
theorem xb44_13 (l0 : Nat) (l1 : Int32) (l2 : Int64) (l4 : Int64) (l6 : Int32) (h : xH) : xE 44 13 [some (.ref l0), some (.int l1), some (.long l2), none, some (.long l4), none, some (.int l6)] [] h = 
  if 5 < l6 then (xE 44 45 [some (.ref l0), some (.int l1), some (.long l2), none, some (.long l4), none, some (.int 0)] [] h)
  else (xgu h l0 2 (xcI (xM 39 [.ref l0, .int l1, .int l6] h) fun v2 h1 => xE 44 13 [some (.ref l0), some (.int l1), some (.long l2), none, some (.long ((((31 : Int32).toInt64) * l4) + ((v2 : Int32).toInt64))), none, some (.int (l6 + 1))] [] h1)) := (xB [13, 45] 500 44 13 [some (.ref l0), some (.int l1), some (.long l2), none, some (.long l4), none, some (.int l6)] [] h).trans rfl
set_option maxRecDepth 100000 in
set_option maxHeartbeats 4000000 in
theorem xb44_45 (l0 : Nat) (l1 : Int32) (l2 : Int64) (l4 : Int64) (l6 : Int32) (h : xH) : xE 44 45 [some (.ref l0), some (.int l1), some (.long l2), none, some (.long l4), none, some (.int l6)] [] h = 
  if l6 < 4 then (xgu h l0 2 (xcI (xM 40 [.ref l0, .int l1, .int l6] h) fun v2 h1 => xE 44 45 [some (.ref l0), some (.int l1), some (.long l2), none, some (.long ((((31 : Int32).toInt64) * l4) + ((v2 : Int32).toInt64))), none, some (.int (l6 + 1))] [] h1))
  else (some (some (.long l4), h)) := (xB [13, 45] 500 44 45 [some (.ref l0), some (.int l1), some (.long l2), none, some (.long l4), none, some (.int l6)] [] h).trans rfl
-- 45 X$Scene.uppermost
set_option maxRecDepth 100000 in
set_option maxHeartbeats 4000000 in
theorem xb45 (l0 : Nat) (l1 : Int32) (h : xH) : xM 45 [.ref l0, .int l1] h = xE 45 4 [some (.ref l0), some (.int l1), some (.int (-1)), some (.int 0)] [] h := (xB [4] 500 45 0 [some (.ref l0), some (.int l1), none, none] [] h).trans rfl
set_option maxRecDepth 100000 in
set_option maxHeartbeats 4000000 in
theorem xb45_4 (l0 : Nat) (l1 : Int32) (l2 : Int32) (l3 : Int32) (h : xH) : xE 45 4 [some (.ref l0), some (.int l1), some (.int l2), some (.int l3)] [] h = 
  if l3 < 16 then (
  if ((l1 >>> (l3 &&& 31)) &&& 1) = 1 then (
  if l2 = (-1) then (xE 45 4 [some (.ref l0), some (.int l1), some (.int l3), some (.int (l3 + 1))] [] h)
  else ((xfR h l0 2 3).bind fun v1 => (xri h 0 v1 l3).bind fun v2 => (xfR h l0 2 3).bind fun v3 => (xri h 0 v3 l2).bind fun v4 => 
  if v2 < v4 then (xE 45 4 [some (.ref l0), some (.int l1), some (.int l2), some (.int (l3 + 1))] [] h)
  else (xE 45 4 [some (.ref l0), some (.int l1), some (.int l3), some (.int (l3 + 1))] [] h)))
  else (xE 45 4 [some (.ref l0), some (.int l1), some (.int l2), some (.int (l3 + 1))] [] h))
  else (some (some (.int l2), h)) := (xB [4] 500 45 4 [some (.ref l0), some (.int l1), some (.int l2), some (.int l3)] [] h).trans rfl
-- 46 X$Scene.clippedBy
set_option maxRecDepth 100000 in
set_option maxHeartbeats 4000000 in
theorem xb46 (l0 : Nat) (l1 : Int32) (h : xH) : xM 46 [.ref l0, .int l1] h = xE 46 4 [some (.ref l0), some (.int l1), some (.int 0), some (.int 0)] [] h := (xB [4] 500 46 0 [some (.ref l0), some (.int l1), none, none] [] h).trans rfl
set_option maxRecDepth 100000 in
set_option maxHeartbeats 4000000 in
theorem xb46_4 (l0 : Nat) (l1 : Int32) (l2 : Int32) (l3 : Int32) (h : xH) : xE 46 4 [some (.ref l0), some (.int l1), some (.int l2), some (.int l3)] [] h = 
  if l3 < 16 then ((xfR h l0 2 2).bind fun v1 => (xri h 0 v1 l3).bind fun v2 => 
  if v2 = 0 then (xE 46 4 [some (.ref l0), some (.int l1), some (.int l2), some (.int (l3 + 1))] [] h)
  else ((xfR h l0 2 4).bind fun v3 => (xri h 0 v3 l3).bind fun v4 => 
  if v4 = l1 then (xE 46 4 [some (.ref l0), some (.int l1), some (.int (l2 + 1)), some (.int (l3 + 1))] [] h)
  else (xE 46 4 [some (.ref l0), some (.int l1), some (.int l2), some (.int (l3 + 1))] [] h)))
  else (some (some (.int l2), h)) := (xB [4] 500 46 4 [some (.ref l0), some (.int l1), some (.int l2), some (.int l3)] [] h).trans rfl
-- 47 X$Scene.viewOf
set_option maxRecDepth 100000 in
set_option maxHeartbeats 4000000 in
theorem xb47 (l0 : Nat) (l1 : Int32) (h : xH) : xM 47 [.ref l0, .int l1] h = (xfR h l0 2 2).bind fun v1 => (xri h 0 v1 l1).bind fun v2 => (xfR h l0 2 4).bind fun v3 => (xri h 0 v3 l1).bind fun v4 => xE 47 17 [some (.ref l0), some (.int l1), some (.int v2), some (.int v4), some (.int 0)] [] h := (xB [17] 500 47 0 [some (.ref l0), some (.int l1), none, none, none] [] h).trans rfl
set_option maxRecDepth 100000 in
set_option maxHeartbeats 4000000 in
theorem xb47_17 (l0 : Nat) (l1 : Int32) (l2 : Int32) (l3 : Int32) (l4 : Int32) (h : xH) : xE 47 17 [some (.ref l0), some (.int l1), some (.int l2), some (.int l3), some (.int l4)] [] h = 
  if l4 < 16 then (xgu h l0 2 (xcI (xM 32 [.ref l0, .int l3] h) fun v2 h1 => 
  if v2 = 0 then (some (some (.int l2), h1))
  else ((xfR h1 l0 2 2).bind fun v3 => (xri h1 0 v3 l3).bind fun v4 => xcI (xM 9 [.int l2, .int v4] h1) fun v6 h5 => (xfR h5 l0 2 4).bind fun v7 => (xri h5 0 v7 l3).bind fun v8 => xE 47 17 [some (.ref l0), some (.int l1), some (.int v6), some (.int v8), some (.int (l4 + 1))] [] h5)))
  else (some (some (.int l2), h)) := (xB [17] 500 47 17 [some (.ref l0), some (.int l1), some (.int l2), some (.int l3), some (.int l4)] [] h).trans rfl
-- 48 X$Scene.affectedBy
set_option maxRecDepth 100000 in
set_option maxHeartbeats 4000000 in
theorem xb48 (l0 : Nat) (l1 : Int32) (h : xH) : xM 48 [.ref l0, .int l1] h = xE 48 4 [some (.ref l0), some (.int l1), some (.int 0), some (.int 0), none, none] [] h := (xB [4, 16, 53] 500 48 0 [some (.ref l0), some (.int l1), none, none, none, none] [] h).trans rfl
set_option maxRecDepth 100000 in
set_option maxHeartbeats 4000000 in
theorem xb48_4 (l0 : Nat) (l1 : Int32) (l2 : Int32) (l3 : Int32) (l4 : Option Value) (l5 : Option Value) (h : xH) : xE 48 4 [some (.ref l0), some (.int l1), some (.int l2), some (.int l3), l4, l5] [] h = 
  if l3 < 16 then (xE 48 16 [some (.ref l0), some (.int l1), some (.int l2), some (.int l3), some (.int l3), some (.int 0)] [] h)
  else (some (some (.int l2), h)) := (xB [4, 16, 53] 500 48 4 [some (.ref l0), some (.int l1), some (.int l2), some (.int l3), l4, l5] [] h).trans rfl
set_option maxRecDepth 100000 in
set_option maxHeartbeats 4000000 in
theorem xb48_16 (l0 : Nat) (l1 : Int32) (l2 : Int32) (l3 : Int32) (l4 : Int32) (l5 : Int32) (h : xH) : xE 48 16 [some (.ref l0), some (.int l1), some (.int l2), some (.int l3), some (.int l4), some (.int l5)] [] h = 
  if l5 < 16 then (
  if l4 = l1 then (xE 48 53 [some (.ref l0), some (.int l1), some (.int l2), some (.int l3), some (.int l4), some (.int l5)] [] h)
  else (xgu h l0 2 (xcI (xM 32 [.ref l0, .int l4] h) fun v2 h1 => 
  if v2 = 0 then (xE 48 53 [some (.ref l0), some (.int l1), some (.int l2), some (.int l3), some (.int l4), some (.int l5)] [] h1)
  else ((xfR h1 l0 2 4).bind fun v3 => (xri h1 0 v3 l4).bind fun v4 => xE 48 16 [some (.ref l0), some (.int l1), some (.int l2), some (.int l3), some (.int v4), some (.int (l5 + 1))] [] h1))))
  else (xE 48 53 [some (.ref l0), some (.int l1), some (.int l2), some (.int l3), some (.int l4), some (.int l5)] [] h) := (xB [4, 16, 53] 500 48 16 [some (.ref l0), some (.int l1), some (.int l2), some (.int l3), some (.int l4), some (.int l5)] [] h).trans rfl
set_option maxRecDepth 100000 in
set_option maxHeartbeats 4000000 in
theorem xb48_53 (l0 : Nat) (l1 : Int32) (l2 : Int32) (l3 : Int32) (l4 : Int32) (l5 : Int32) (h : xH) : xE 48 53 [some (.ref l0), some (.int l1), some (.int l2), some (.int l3), some (.int l4), some (.int l5)] [] h = 
  if l4 = l1 then (xE 48 4 [some (.ref l0), some (.int l1), some (.int (l2 ||| (1 <<< (l3 &&& 31)))), some (.int (l3 + 1)), some (.int l4), some (.int l5)] [] h)
  else (xE 48 4 [some (.ref l0), some (.int l1), some (.int l2), some (.int (l3 + 1)), some (.int l4), some (.int l5)] [] h) := (xB [4, 16, 53] 500 48 53 [some (.ref l0), some (.int l1), some (.int l2), some (.int l3), some (.int l4), some (.int l5)] [] h).trans rfl
-- 49 X$Scene.damageViews
set_option maxRecDepth 100000 in
set_option maxHeartbeats 4000000 in
theorem xb49 (l0 : Nat) (l1 : Int32) (h : xH) : xM 49 [.ref l0, .int l1] h = xE 49 2 [some (.ref l0), some (.int l1), some (.int 0)] [] h := (xB [2] 500 49 0 [some (.ref l0), some (.int l1), none] [] h).trans rfl
set_option maxRecDepth 100000 in
set_option maxHeartbeats 4000000 in
theorem xb49_2 (l0 : Nat) (l1 : Int32) (l2 : Int32) (h : xH) : xE 49 2 [some (.ref l0), some (.int l1), some (.int l2)] [] h = 
  if l2 < 16 then (
  if ((l1 >>> (l2 &&& 31)) &&& 1) = 1 then ((xfR h l0 2 1).bind fun v1 => xgu h l0 2 (xcI (xM 47 [.ref l0, .int l2] h) fun v3 h2 => xgu h2 v1 0 (xcV (xM 18 [.ref v1, .int v3] h2) fun h4 => xE 49 2 [some (.ref l0), some (.int l1), some (.int (l2 + 1))] [] h4)))
  else (xE 49 2 [some (.ref l0), some (.int l1), some (.int (l2 + 1))] [] h))
  else (some (none, h)) := (xB [2] 500 49 2 [some (.ref l0), some (.int l1), some (.int l2)] [] h).trans rfl
