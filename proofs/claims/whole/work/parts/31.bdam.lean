-- 14 X$Damage.init
set_option maxRecDepth 100000 in
set_option maxHeartbeats 4000000 in
theorem xb14 (l0 : Nat) (h : xH) : xM 14 [.ref l0] h = (xpf (xnw h (.inl (0, 5, fun _ => 0)) 5) l0 0 0 (.ref h.1)).bind fun h1 => (xpf h1 l0 0 1 (.int 0)).bind fun h2 => some (none, h2) := (xB [] 500 14 0 [some (.ref l0)] [] h).trans rfl
-- 15 X$Damage.copyFrom
set_option maxRecDepth 100000 in
set_option maxHeartbeats 4000000 in
theorem xb15 (l0 : Nat) (l1 : Nat) (h : xH) : xM 15 [.ref l0, .ref l1] h = (xfI h l1 0 1).bind fun v1 => (xpf h l0 0 1 (.int v1)).bind fun h2 => (xfR h2 l1 0 0).bind fun v3 => (xfR h2 l0 0 0).bind fun v4 => (xcp h2 v3 0 v4 0 5).bind fun h5 => some (none, h5) := (xB [] 500 15 0 [some (.ref l0), some (.ref l1)] [] h).trans rfl
-- 16 X$Damage.empty
set_option maxRecDepth 100000 in
set_option maxHeartbeats 4000000 in
theorem xb16 (l0 : Nat) (h : xH) : xM 16 [.ref l0] h = (xfI h l0 0 1).bind fun v1 => (xpf h l0 0 1 (.int 0)).bind fun h2 => some (some (.int v1), h2) := (xB [] 500 16 0 [some (.ref l0), none] [] h).trans rfl
-- 17 X$Damage.value
set_option maxRecDepth 100000 in
set_option maxHeartbeats 4000000 in
theorem xb17 (l0 : Nat) (l1 : Int32) (l2 : Int32) (h : xH) : xM 17 [.ref l0, .int l1, .int l2] h = (xfI h l0 0 1).bind fun v1 => 
  if l1 < v1 then ((xfR h l0 0 0).bind fun v2 => (xri h 0 v2 l1).bind fun v3 => xcI (xM 6 [.int v3, .int l2] h) fun v5 h4 => some (some (.int v5), h4))
  else (some (some (.int (-1)), h)) := (xB [] 500 17 0 [some (.ref l0), some (.int l1), some (.int l2)] [] h).trans rfl
-- 18 X$Damage.add
set_option maxRecDepth 100000 in
set_option maxHeartbeats 4000000 in
theorem xb18 (l0 : Nat) (l1 : Int32) (h : xH) : xM 18 [.ref l0, .int l1] h = 
  if l1 = 0 then (some (none, h))
  else (xgu h l0 0 (xcI (xM 20 [.ref l0, .int l1] h) fun v2 h1 => 
  if v2 = 0 then ((xfI h1 l0 0 1).bind fun v3 => 
  if 4 < v3 then (some (none, h1))
  else ((xfR h1 l0 0 0).bind fun v4 => (xfI h1 l0 0 1).bind fun v5 => (xwi h1 0 v4 v5 l1).bind fun h6 => (xfI h6 l0 0 1).bind fun v7 => (xpf h6 l0 0 1 (.int (v7 + 1))).bind fun h8 => xE 18 43 [some (.ref l0), some (.int l1), some (.int 0), none, none, none, none, none, none] [] h8))
  else (some (none, h1)))) := (xB [43, 81, 96] 500 18 0 [some (.ref l0), some (.int l1), none, none, none, none, none, none, none] [] h).trans rfl
set_option maxRecDepth 100000 in
set_option maxHeartbeats 4000000 in
theorem xb18_43 (l0 : Nat) (l1 : Int32) (l2 : Int32) (l3 : Option Value) (l4 : Option Value) (l5 : Option Value) (l6 : Option Value) (l7 : Option Value) (l8 : Option Value) (h : xH) : xE 18 43 [some (.ref l0), some (.int l1), some (.int l2), l3, l4, l5, l6, l7, l8] [] h = 
  if l2 < 4 then ((xfI h l0 0 1).bind fun v1 => 
  if 1 < v1 then ((xfR h l0 0 0).bind fun v2 => (xri h 0 v2 0).bind fun v3 => (xfR h l0 0 0).bind fun v4 => (xri h 0 v4 1).bind fun v5 => xcI (xM 11 [.int v3, .int v5] h) fun v7 h6 => xE 18 81 [some (.ref l0), some (.int l1), some (.int l2), some (.int 0), some (.int 1), some (.int v7), some (.int 0), l7, l8] [] h6)
  else (some (none, h)))
  else (some (none, h)) := (xB [43, 81, 96] 500 18 43 [some (.ref l0), some (.int l1), some (.int l2), l3, l4, l5, l6, l7, l8] [] h).trans rfl
set_option maxRecDepth 100000 in
set_option maxHeartbeats 4000000 in
theorem xb18_81 (l0 : Nat) (l1 : Int32) (l2 : Int32) (l3 : Int32) (l4 : Int32) (l5 : Int32) (l6 : Int32) (l7 : Option Value) (l8 : Option Value) (h : xH) : xE 18 81 [some (.ref l0), some (.int l1), some (.int l2), some (.int l3), some (.int l4), some (.int l5), some (.int l6), l7, l8] [] h = (xfI h l0 0 1).bind fun v1 => 
  if l6 < v1 then (xE 18 96 [some (.ref l0), some (.int l1), some (.int l2), some (.int l3), some (.int l4), some (.int l5), some (.int l6), some (.int (l6 + 1)), l8] [] h)
  else (
  if 0 < l5 then ((xfI h l0 0 1).bind fun v2 => 
  if 4 < v2 then (xgu h l0 0 (xcV (xM 21 [.ref l0, .int l3, .int l4] h) fun h3 => xE 18 43 [some (.ref l0), some (.int l1), some (.int (l2 + 1)), some (.int l3), some (.int l4), some (.int l5), some (.int l6), l7, l8] [] h3))
  else (some (none, h)))
  else (xgu h l0 0 (xcV (xM 21 [.ref l0, .int l3, .int l4] h) fun h4 => xE 18 43 [some (.ref l0), some (.int l1), some (.int (l2 + 1)), some (.int l3), some (.int l4), some (.int l5), some (.int l6), l7, l8] [] h4))) := (xB [43, 81, 96] 500 18 81 [some (.ref l0), some (.int l1), some (.int l2), some (.int l3), some (.int l4), some (.int l5), some (.int l6), l7, l8] [] h).trans rfl
set_option maxRecDepth 100000 in
set_option maxHeartbeats 4000000 in
theorem xb18_96 (l0 : Nat) (l1 : Int32) (l2 : Int32) (l3 : Int32) (l4 : Int32) (l5 : Int32) (l6 : Int32) (l7 : Int32) (l8 : Option Value) (h : xH) : xE 18 96 [some (.ref l0), some (.int l1), some (.int l2), some (.int l3), some (.int l4), some (.int l5), some (.int l6), some (.int l7), l8] [] h = (xfI h l0 0 1).bind fun v1 => 
  if l7 < v1 then ((xfR h l0 0 0).bind fun v2 => (xri h 0 v2 l6).bind fun v3 => (xfR h l0 0 0).bind fun v4 => (xri h 0 v4 l7).bind fun v5 => xcI (xM 11 [.int v3, .int v5] h) fun v7 h6 => 
  if v7 < l5 then (xE 18 96 [some (.ref l0), some (.int l1), some (.int l2), some (.int l6), some (.int l7), some (.int v7), some (.int l6), some (.int (l7 + 1)), some (.int v7)] [] h6)
  else (xE 18 96 [some (.ref l0), some (.int l1), some (.int l2), some (.int l3), some (.int l4), some (.int l5), some (.int l6), some (.int (l7 + 1)), some (.int v7)] [] h6))
  else (xE 18 81 [some (.ref l0), some (.int l1), some (.int l2), some (.int l3), some (.int l4), some (.int l5), some (.int (l6 + 1)), some (.int l7), l8] [] h) := (xB [43, 81, 96] 500 18 96 [some (.ref l0), some (.int l1), some (.int l2), some (.int l3), some (.int l4), some (.int l5), some (.int l6), some (.int l7), l8] [] h).trans rfl
-- 19 X$Damage.digestOn
set_option maxRecDepth 100000 in
set_option maxHeartbeats 4000000 in
theorem xb19 (l0 : Nat) (l1 : Int64) (h : xH) : xM 19 [.ref l0, .long l1] h = xE 19 5 [some (.ref l0), some (.long l1), none, some (.long l1), none, some (.int 0), none] [] h := (xB [5, 17] 500 19 0 [some (.ref l0), some (.long l1), none, none, none, none, none] [] h).trans rfl
set_option maxRecDepth 100000 in
set_option maxHeartbeats 4000000 in
theorem xb19_5 (l0 : Nat) (l1 : Int64) (l3 : Int64) (l5 : Int32) (l6 : Option Value) (h : xH) : xE 19 5 [some (.ref l0), some (.long l1), none, some (.long l3), none, some (.int l5), l6] [] h = (xfI h l0 0 1).bind fun v1 => 
  if l5 < v1 then (xE 19 17 [some (.ref l0), some (.long l1), none, some (.long l3), none, some (.int l5), some (.int 0)] [] h)
  else (some (some (.long l3), h)) := (xB [5, 17] 500 19 5 [some (.ref l0), some (.long l1), none, some (.long l3), none, some (.int l5), l6] [] h).trans rfl
set_option maxRecDepth 100000 in
set_option maxHeartbeats 4000000 in
theorem xb19_17 (l0 : Nat) (l1 : Int64) (l3 : Int64) (l5 : Int32) (l6 : Int32) (h : xH) : xE 19 17 [some (.ref l0), some (.long l1), none, some (.long l3), none, some (.int l5), some (.int l6)] [] h = 
  if l6 < 4 then ((xfR h l0 0 0).bind fun v1 => (xri h 0 v1 l5).bind fun v2 => xcI (xM 6 [.int v2, .int l6] h) fun v4 h3 => xE 19 17 [some (.ref l0), some (.long l1), none, some (.long ((((31 : Int32).toInt64) * l3) + ((v4 : Int32).toInt64))), none, some (.int l5), some (.int (l6 + 1))] [] h3)
  else (xE 19 5 [some (.ref l0), some (.long l1), none, some (.long l3), none, some (.int (l5 + 1)), some (.int l6)] [] h) := (xB [5, 17] 500 19 17 [some (.ref l0), some (.long l1), none, some (.long l3), none, some (.int l5), some (.int l6)] [] h).trans rfl
-- 20 X$Damage.contains
set_option maxRecDepth 100000 in
set_option maxHeartbeats 4000000 in
theorem xb20 (l0 : Nat) (l1 : Int32) (h : xH) : xM 20 [.ref l0, .int l1] h = xE 20 2 [some (.ref l0), some (.int l1), some (.int 0)] [] h := (xB [2] 500 20 0 [some (.ref l0), some (.int l1), none] [] h).trans rfl
set_option maxRecDepth 100000 in
set_option maxHeartbeats 4000000 in
theorem xb20_2 (l0 : Nat) (l1 : Int32) (l2 : Int32) (h : xH) : xE 20 2 [some (.ref l0), some (.int l1), some (.int l2)] [] h = (xfI h l0 0 1).bind fun v1 => 
  if l2 < v1 then ((xfR h l0 0 0).bind fun v2 => (xri h 0 v2 l2).bind fun v3 => 
  if v3 = l1 then (some (some (.int 1), h))
  else (xE 20 2 [some (.ref l0), some (.int l1), some (.int (l2 + 1))] [] h))
  else (some (some (.int 0), h)) := (xB [2] 500 20 2 [some (.ref l0), some (.int l1), some (.int l2)] [] h).trans rfl
-- 21 X$Damage.merge
set_option maxRecDepth 100000 in
set_option maxHeartbeats 4000000 in
theorem xb21 (l0 : Nat) (l1 : Int32) (l2 : Int32) (h : xH) : xM 21 [.ref l0, .int l1, .int l2] h = (xfR h l0 0 0).bind fun v1 => (xfR h l0 0 0).bind fun v2 => (xri h 0 v2 l1).bind fun v3 => (xfR h l0 0 0).bind fun v4 => (xri h 0 v4 l2).bind fun v5 => xcI (xM 8 [.int v3, .int v5] h) fun v7 h6 => (xwi h6 0 v1 l1 v7).bind fun h8 => xE 21 23 [some (.ref l0), some (.int l1), some (.int l2), some (.int l2)] [] h8 := (xB [23] 500 21 0 [some (.ref l0), some (.int l1), some (.int l2), none] [] h).trans rfl
set_option maxRecDepth 100000 in
set_option maxHeartbeats 4000000 in
theorem xb21_23 (l0 : Nat) (l1 : Int32) (l2 : Int32) (l3 : Int32) (h : xH) : xE 21 23 [some (.ref l0), some (.int l1), some (.int l2), some (.int l3)] [] h = (xfI h l0 0 1).bind fun v1 => 
  if (l3 + 1) < v1 then ((xfR h l0 0 0).bind fun v2 => (xfR h l0 0 0).bind fun v3 => (xri h 0 v3 (l3 + 1)).bind fun v4 => (xwi h 0 v2 l3 v4).bind fun h5 => xE 21 23 [some (.ref l0), some (.int l1), some (.int l2), some (.int (l3 + 1))] [] h5)
  else ((xfI h l0 0 1).bind fun v6 => (xpf h l0 0 1 (.int (v6 - 1))).bind fun h7 => some (none, h7)) := (xB [23] 500 21 23 [some (.ref l0), some (.int l1), some (.int l2), some (.int l3)] [] h).trans rfl
-- 22 X$Orders.init
set_option maxRecDepth 100000 in
set_option maxHeartbeats 4000000 in
theorem xb22 (l0 : Nat) (h : xH) : xM 22 [.ref l0] h = (xpf (xnw h (.inl (0, 120, fun _ => 0)) 120) l0 1 0 (.ref h.1)).bind fun h1 => (xpf (xnw h1 (.inl (0, 120, fun _ => 0)) 120) l0 1 1 (.ref h1.1)).bind fun h2 => (xpf h2 l0 1 2 (.int 0)).bind fun h3 => (xpf h3 l0 1 3 (.int 0)).bind fun h4 => (xpf h4 l0 1 4 (.int (-1))).bind fun h5 => (xpf h5 l0 1 5 (.int 0)).bind fun h6 => some (none, h6) := (xB [] 500 22 0 [some (.ref l0)] [] h).trans rfl
-- 23 X$Orders.numbersOf
set_option maxRecDepth 100000 in
set_option maxHeartbeats 4000000 in
theorem xb23 (l0 : Int32) (h : xH) : xM 23 [.int l0] h = 
  if l0 = 99 then (some (some (.int 2), h))
  else (
  if l0 = 100 then (some (some (.int 0), h))
  else (
  if l0 = 108 then (some (some (.int 2), h))
  else (
  if l0 = 109 then (some (some (.int 5), h))
  else (
  if l0 = 114 then (some (some (.int 1), h))
  else (
  if l0 = 115 then (some (some (.int 5), h))
  else (some (some (.int (-1)), h))))))) := (xB [] 500 23 0 [some (.int l0)] [] h).trans rfl
-- 24 X$Orders.number
set_option maxRecDepth 100000 in
set_option maxHeartbeats 4000000 in
theorem xb24 (l0 : Nat) (l1 : Int32) (h : xH) : xM 24 [.ref l0, .int l1] h = 
  if l1 < 0 then (some (some (.int 0), h))
  else (
  if l1 < 120 then ((xfR h l0 1 1).bind fun v1 => (xri h 0 v1 l1).bind fun v2 => some (some (.int v2), h))
  else (some (some (.int 0), h))) := (xB [] 500 24 0 [some (.ref l0), some (.int l1)] [] h).trans rfl
-- 25 X$Orders.read
set_option maxRecDepth 100000 in
set_option maxHeartbeats 4000000 in
theorem xb25 (l0 : Nat) (l1 : Nat) (l2 : Int32) (h : xH) : xM 25 [.ref l0, .ref l1, .int l2] h = (xpf h l0 1 2 (.int 0)).bind fun h1 => (xpf h1 l0 1 3 (.int 0)).bind fun h2 => (xpf h2 l0 1 4 (.int (-1))).bind fun h3 => (xpf h3 l0 1 5 (.int 0)).bind fun h4 => xE 25 22 [some (.ref l0), some (.ref l1), some (.int l2), some (.int 0)] [] h4 := (xB [22, 51] 500 25 0 [some (.ref l0), some (.ref l1), some (.int l2), none] [] h).trans rfl
set_option maxRecDepth 100000 in
set_option maxHeartbeats 4000000 in
theorem xb25_22 (l0 : Nat) (l1 : Nat) (l2 : Int32) (l3 : Int32) (h : xH) : xE 25 22 [some (.ref l0), some (.ref l1), some (.int l2), some (.int l3)] [] h = 
  if l3 < l2 then (
  if l3 < 120 then ((xri h 0 l1 l3).bind fun v1 => xgu h l0 1 (xcI (xM 26 [.ref l0, .int v1] h) fun v3 h2 => 
  if v3 = 0 then (some (some (.int l3), h2))
  else (xE 25 22 [some (.ref l0), some (.ref l1), some (.int l2), some (.int (l3 + 1))] [] h2)))
  else (xE 25 51 [some (.ref l0), some (.ref l1), some (.int l2), some (.int l3)] [] h))
  else (xE 25 51 [some (.ref l0), some (.ref l1), some (.int l2), some (.int l3)] [] h) := (xB [22, 51] 500 25 22 [some (.ref l0), some (.ref l1), some (.int l2), some (.int l3)] [] h).trans rfl
set_option maxRecDepth 100000 in
set_option maxHeartbeats 4000000 in
theorem xb25_51 (l0 : Nat) (l1 : Nat) (l2 : Int32) (l3 : Int32) (h : xH) : xE 25 51 [some (.ref l0), some (.ref l1), some (.int l2), some (.int l3)] [] h = (xfI h l0 1 4).bind fun v1 => 
  if v1 = (-1) then ((xfI h l0 1 2).bind fun v2 => 
  if v2 = 0 then (some (some (.int l2), h))
  else (some (some (.int (-1)), h)))
  else (some (some (.int l2), h)) := (xB [22, 51] 500 25 51 [some (.ref l0), some (.ref l1), some (.int l2), some (.int l3)] [] h).trans rfl
-- 26 X$Orders.takes
set_option maxRecDepth 100000 in
set_option maxHeartbeats 4000000 in
theorem xb26 (l0 : Nat) (l1 : Int32) (h : xH) : xM 26 [.ref l0, .int l1] h = 
  if l1 < 48 then (xE 26 21 [some (.ref l0), some (.int l1)] [] h)
  else (
  if 57 < l1 then (xE 26 21 [some (.ref l0), some (.int l1)] [] h)
  else (xgu h l0 1 (xcI (xM 27 [.ref l0, .int (l1 - 48)] h) fun v2 h1 => bif xbz v2 then some (some (.int v2), h1) else none))) := (xB [21] 500 26 0 [some (.ref l0), some (.int l1)] [] h).trans rfl
set_option maxRecDepth 100000 in
set_option maxHeartbeats 4000000 in
theorem xb26_21 (l0 : Nat) (l1 : Int32) (h : xH) : xE 26 21 [some (.ref l0), some (.int l1)] [] h = (xpf h l0 1 5 (.int 0)).bind fun h1 => 
  if l1 = 32 then (some (some (.int 1), h1))
  else (
  if l1 = 59 then (xgu h1 l0 1 (xcI (xM 28 [.ref l0] h1) fun v3 h2 => bif xbz v3 then some (some (.int v3), h2) else none))
  else (xgu h1 l0 1 (xcI (xM 29 [.ref l0, .int l1] h1) fun v5 h4 => bif xbz v5 then some (some (.int v5), h4) else none))) := (xB [21] 500 26 21 [some (.ref l0), some (.int l1)] [] h).trans rfl
-- 27 X$Orders.takesDigit
set_option maxRecDepth 100000 in
set_option maxHeartbeats 4000000 in
theorem xb27 (l0 : Nat) (l1 : Int32) (h : xH) : xM 27 [.ref l0, .int l1] h = (xfI h l0 1 5).bind fun v1 => 
  if v1 = 1 then ((xfI h l0 1 3).bind fun v2 => 
  if 0 < v2 then ((xfR h l0 1 1).bind fun v3 => (xfI h l0 1 3).bind fun v4 => (xfR h l0 1 1).bind fun v5 => (xfI h l0 1 3).bind fun v6 => (xri h 0 v5 (v6 - 1)).bind fun v7 => (xwi h 0 v3 (v4 - 1) ((10 * v7) + l1)).bind fun h8 => (xfI h8 l0 1 5).bind fun v9 => (xpf h8 l0 1 5 (.int (v9 + 1))).bind fun h10 => some (some (.int 1), h10))
  else (xE 27 45 [some (.ref l0), some (.int l1)] [] h))
  else (xE 27 45 [some (.ref l0), some (.int l1)] [] h) := (xB [45] 500 27 0 [some (.ref l0), some (.int l1)] [] h).trans rfl
set_option maxRecDepth 100000 in
set_option maxHeartbeats 4000000 in
theorem xb27_45 (l0 : Nat) (l1 : Int32) (h : xH) : xE 27 45 [some (.ref l0), some (.int l1)] [] h = (xfI h l0 1 5).bind fun v1 => 
  if v1 = 0 then ((xfI h l0 1 4).bind fun v2 => 
  if 0 < v2 then ((xfI h l0 1 3).bind fun v3 => 
  if v3 < 120 then ((xfR h l0 1 1).bind fun v4 => (xfI h l0 1 3).bind fun v5 => (xwi h 0 v4 v5 l1).bind fun h6 => (xfI h6 l0 1 3).bind fun v7 => (xpf h6 l0 1 3 (.int (v7 + 1))).bind fun h8 => (xfI h8 l0 1 4).bind fun v9 => (xpf h8 l0 1 4 (.int (v9 - 1))).bind fun h10 => (xfI h10 l0 1 5).bind fun v11 => (xpf h10 l0 1 5 (.int (v11 + 1))).bind fun h12 => some (some (.int 1), h12))
  else (some (some (.int 0), h)))
  else (some (some (.int 0), h)))
  else (some (some (.int 0), h)) := (xB [45] 500 27 45 [some (.ref l0), some (.int l1)] [] h).trans rfl
-- 28 X$Orders.takesEnd
set_option maxRecDepth 100000 in
set_option maxHeartbeats 4000000 in
theorem xb28 (l0 : Nat) (h : xH) : xM 28 [.ref l0] h = (xfI h l0 1 4).bind fun v1 => 
  if v1 = 0 then ((xfI h l0 1 2).bind fun v2 => (xpf h l0 1 2 (.int (v2 + 1))).bind fun h3 => (xpf h3 l0 1 4 (.int (-1))).bind fun h4 => some (some (.int 1), h4))
  else (some (some (.int 0), h)) := (xB [] 500 28 0 [some (.ref l0)] [] h).trans rfl
-- 29 X$Orders.takesLetter
set_option maxRecDepth 100000 in
set_option maxHeartbeats 4000000 in
theorem xb29 (l0 : Nat) (l1 : Int32) (h : xH) : xM 29 [.ref l0, .int l1] h = (xfI h l0 1 4).bind fun v1 => 
  if v1 = (-1) then ((xfI h l0 1 2).bind fun v2 => 
  if v2 < 120 then ((xfR h l0 1 0).bind fun v3 => (xfI h l0 1 2).bind fun v4 => (xwi h 0 v3 v4 l1).bind fun h5 => xcI (xM 23 [.int l1] h5) fun v7 h6 => (xpf h6 l0 1 4 (.int v7)).bind fun h8 => (xfI h8 l0 1 4).bind fun v9 => 
  if v9 = (-1) then (some (some (.int 0), h8))
  else (some (some (.int 1), h8)))
  else (some (some (.int 0), h)))
  else (some (some (.int 0), h)) := (xB [] 500 29 0 [some (.ref l0), some (.int l1)] [] h).trans rfl
