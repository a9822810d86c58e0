/-! the equations of each method's blocks: b: a block, l: a loop's head, r: its start -/
-- 193: AbsentPostLaw.law([I)Z
set_option maxRecDepth 20000 in
theorem b193_16 (X : ab_X) (d : Nat) (v0 : Value) (v1 : Value) (v2 : Value) (v3 : Value) (h : ab_H) : ab_ex X d 193 16 [v0, v1, v2, v3] [] h = ab_ex X d 193 18 [v0, v1, v2, .int 0] [] h := (ab_ex_xN X d 193 2 16 _ _ _).trans rfl
set_option maxRecDepth 20000 in
theorem l193_18 (X : ab_X) (d : Nat) (v1 : Value) (v2 : Value) (x3 : Int32) (h : ab_H) : ab_ex X d 193 18 [.ref 81, v1, v2, .int x3] [] h = ab_ln X 81 (fun w1 => if (w1 - 6) < x3 then ab_ex X d 193 1294 [.ref 81, v1, v2, .int x3] [] h else ab_ex X d 193 27 [.ref 81, v1, v2, .int x3] [] h) := (ab_ex_xN X d 193 6 18 _ _ _).trans rfl
set_option maxRecDepth 20000 in
theorem b193_27 (X : ab_X) (d : Nat) (v1 : Value) (v2 : Value) (x3 : Int32) (h : ab_H) : ab_ex X d 193 27 [.ref 81, v1, v2, .int x3] [] h = ab_ld X h 81 x3 (fun w1 => ab_ts 33 (w1 &&& 63) 1255 0 40 #[179, 212, 255, 288, 311, 374, 397, 430, 473, 496, 519, 552, 585, 618, 641, 664, 687, 710, 733, 766, 789, 822, 835, 858, 871, 884, 897, 930, 973, 986, 1019, 1042, 1075, 1108, 1141, 1154, 1168, 1182, 1205, 1218, 1241] (fun t => ab_ex X d 193 t [.ref 81, v1, v2, .int x3] [] h)) := (ab_ex_xN X d 193 6 27 _ _ _).trans rfl
set_option maxRecDepth 20000 in
theorem b193_212 (X : ab_X) (d : Nat) (v2 : Value) (x3 : Int32) (h : ab_H) : ab_ex X (d + 1) 193 212 [.ref 81, .ref 0, v2, .int x3] [] h = ab_ld X h 81 (x3 + 1) (fun w1 => ab_ld X h 81 (x3 + 2) (fun w2 => (ab_ru X d 6 [.ref 0, .int w1, .int w2] h).bind (fun z => ab_ex X (d + 1) 193 226 [.ref 81, .ref 0, v2, .int x3] (ab_pu z.1 []) z.2))) := (ab_ex_xN X (d + 1) 193 12 212 _ _ _).trans rfl
set_option maxRecDepth 20000 in
theorem b193_226 (X : ab_X) (d : Nat) (v1 : Value) (x3 : Int32) (y0 : Int32) (h : ab_H) : ab_ex X (d + 1) 193 226 [.ref 81, v1, .ref 29, .int x3] [.int y0] h = ab_ld X h 81 (x3 + 1) (fun w1 => ab_ld X h 81 (x3 + 2) (fun w2 => (ab_ru X d 105 [.ref 29, .int w1, .int w2] h).bind (fun z => ab_ex X (d + 1) 193 240 [.ref 81, v1, .ref 29, .int x3] (ab_pu z.1 [.int y0]) z.2))) := (ab_ex_xN X (d + 1) 193 12 226 _ _ _).trans rfl
set_option maxRecDepth 20000 in
theorem b193_240 (X : ab_X) (d : Nat) (v0 : Value) (v1 : Value) (v2 : Value) (v3 : Value) (y0 : Int32) (y1 : Int32) (h : ab_H) : ab_ex X d 193 240 [v0, v1, v2, v3] [.int y0, .int y1] h = if y1 = y0 then ab_ex X d 193 1288 [v0, v1, v2, v3] [] h else ab_ex X d 193 243 [v0, v1, v2, v3] [] h := (ab_ex_xN X d 193 1 240 _ _ _).trans rfl
set_option maxRecDepth 20000 in
theorem b193_243 (X : ab_X) (d : Nat) (v0 : Value) (v1 : Value) (v2 : Value) (v3 : Value) (h : ab_H) : ab_ex X d 193 243 [v0, v1, v2, v3] [] h = some (some (.int 0), h) := (ab_ex_xN X d 193 2 243 _ _ _).trans rfl
set_option maxRecDepth 20000 in
theorem b193_245 (X : ab_X) (d : Nat) (v2 : Value) (x3 : Int32) (h : ab_H) : ab_ex X (d + 1) 193 245 [.ref 81, .ref 0, v2, .int x3] [] h = ab_ld X h 81 (x3 + 1) (fun w1 => ab_ld X h 81 (x3 + 2) (fun w2 => ab_ld X h 81 (x3 + 3) (fun w3 => (ab_ru X d 9 [.ref 0, .int w1, .int w2, .int w3] h).bind (fun z => ab_ex X (d + 1) 193 264 [.ref 81, .ref 0, v2, .int x3] (ab_pu z.1 []) z.2)))) := (ab_ex_xN X (d + 1) 193 17 245 _ _ _).trans rfl
set_option maxRecDepth 20000 in
theorem b193_264 (X : ab_X) (d : Nat) (v1 : Value) (x3 : Int32) (y0 : Int32) (h : ab_H) : ab_ex X (d + 1) 193 264 [.ref 81, v1, .ref 29, .int x3] [.int y0] h = ab_ld X h 81 (x3 + 1) (fun w1 => ab_ld X h 81 (x3 + 2) (fun w2 => ab_ld X h 81 (x3 + 3) (fun w3 => (ab_ru X d 110 [.ref 29, .int w1, .int w2, .int w3] h).bind (fun z => ab_ex X (d + 1) 193 283 [.ref 81, v1, .ref 29, .int x3] (ab_pu z.1 [.int y0]) z.2)))) := (ab_ex_xN X (d + 1) 193 17 264 _ _ _).trans rfl
set_option maxRecDepth 20000 in
theorem b193_283 (X : ab_X) (d : Nat) (v0 : Value) (v1 : Value) (v2 : Value) (v3 : Value) (y0 : Int32) (y1 : Int32) (h : ab_H) : ab_ex X d 193 283 [v0, v1, v2, v3] [.int y0, .int y1] h = if y1 = y0 then ab_ex X d 193 1288 [v0, v1, v2, v3] [] h else ab_ex X d 193 286 [v0, v1, v2, v3] [] h := (ab_ex_xN X d 193 1 283 _ _ _).trans rfl
set_option maxRecDepth 20000 in
theorem b193_286 (X : ab_X) (d : Nat) (v0 : Value) (v1 : Value) (v2 : Value) (v3 : Value) (h : ab_H) : ab_ex X d 193 286 [v0, v1, v2, v3] [] h = some (some (.int 0), h) := (ab_ex_xN X d 193 2 286 _ _ _).trans rfl
set_option maxRecDepth 20000 in
theorem b193_288 (X : ab_X) (d : Nat) (v2 : Value) (x3 : Int32) (h : ab_H) : ab_ex X (d + 1) 193 288 [.ref 81, .ref 0, v2, .int x3] [] h = ab_ld X h 81 (x3 + 1) (fun w1 => ab_ld X h 81 (x3 + 2) (fun w2 => (ab_ru X d 11 [.ref 0, .int w1, .int w2] h).bind (fun z => ab_ex X (d + 1) 193 302 [.ref 81, .ref 0, v2, .int x3] (ab_pu z.1 []) z.2))) := (ab_ex_xN X (d + 1) 193 12 288 _ _ _).trans rfl
set_option maxRecDepth 20000 in
theorem b193_302 (X : ab_X) (d : Nat) (v1 : Value) (x3 : Int32) (y0 : Int32) (h : ab_H) : ab_ex X (d + 1) 193 302 [.ref 81, v1, .ref 29, .int x3] [.int y0] h = ab_ld X h 81 (x3 + 1) (fun w1 => ab_ld X h 81 (x3 + 2) (fun w2 => (ab_ru X d 111 [.ref 29, .int w1, .int w2] h).bind (fun z => ab_ex X (d + 1) 193 316 [.ref 81, v1, .ref 29, .int x3] (ab_pu z.1 [.int y0]) z.2))) := (ab_ex_xN X (d + 1) 193 12 302 _ _ _).trans rfl
set_option maxRecDepth 20000 in
theorem b193_316 (X : ab_X) (d : Nat) (v0 : Value) (v1 : Value) (v2 : Value) (v3 : Value) (y0 : Int32) (y1 : Int32) (h : ab_H) : ab_ex X d 193 316 [v0, v1, v2, v3] [.int y0, .int y1] h = if y1 = y0 then ab_ex X d 193 1288 [v0, v1, v2, v3] [] h else ab_ex X d 193 319 [v0, v1, v2, v3] [] h := (ab_ex_xN X d 193 1 316 _ _ _).trans rfl
set_option maxRecDepth 20000 in
theorem b193_319 (X : ab_X) (d : Nat) (v0 : Value) (v1 : Value) (v2 : Value) (v3 : Value) (h : ab_H) : ab_ex X d 193 319 [v0, v1, v2, v3] [] h = some (some (.int 0), h) := (ab_ex_xN X d 193 2 319 _ _ _).trans rfl
set_option maxRecDepth 20000 in
theorem b193_321 (X : ab_X) (d : Nat) (v2 : Value) (x3 : Int32) (h : ab_H) : ab_ex X (d + 1) 193 321 [.ref 81, .ref 0, v2, .int x3] [] h = ab_ld X h 81 (x3 + 1) (fun w1 => (ab_ru X d 12 [.ref 0, .int w1] h).bind (fun z => ab_ex X (d + 1) 193 330 [.ref 81, .ref 0, v2, .int x3] (ab_pu z.1 []) z.2)) := (ab_ex_xN X (d + 1) 193 7 321 _ _ _).trans rfl
set_option maxRecDepth 20000 in
theorem b193_330 (X : ab_X) (d : Nat) (v1 : Value) (x3 : Int32) (y0 : Int32) (h : ab_H) : ab_ex X (d + 1) 193 330 [.ref 81, v1, .ref 29, .int x3] [.int y0] h = ab_ld X h 81 (x3 + 1) (fun w1 => (ab_ru X d 113 [.ref 29, .int w1] h).bind (fun z => ab_ex X (d + 1) 193 339 [.ref 81, v1, .ref 29, .int x3] (ab_pu z.1 [.int y0]) z.2)) := (ab_ex_xN X (d + 1) 193 7 330 _ _ _).trans rfl
set_option maxRecDepth 20000 in
theorem b193_339 (X : ab_X) (d : Nat) (v0 : Value) (v1 : Value) (v2 : Value) (v3 : Value) (y0 : Int32) (y1 : Int32) (h : ab_H) : ab_ex X d 193 339 [v0, v1, v2, v3] [.int y0, .int y1] h = if y1 = y0 then ab_ex X d 193 1288 [v0, v1, v2, v3] [] h else ab_ex X d 193 342 [v0, v1, v2, v3] [] h := (ab_ex_xN X d 193 1 339 _ _ _).trans rfl
set_option maxRecDepth 20000 in
theorem b193_342 (X : ab_X) (d : Nat) (v0 : Value) (v1 : Value) (v2 : Value) (v3 : Value) (h : ab_H) : ab_ex X d 193 342 [v0, v1, v2, v3] [] h = some (some (.int 0), h) := (ab_ex_xN X d 193 2 342 _ _ _).trans rfl
set_option maxRecDepth 20000 in
theorem b193_344 (X : ab_X) (d : Nat) (v2 : Value) (x3 : Int32) (h : ab_H) : ab_ex X (d + 1) 193 344 [.ref 81, .ref 0, v2, .int x3] [] h = ab_ld X h 81 (x3 + 1) (fun w1 => ab_ld X h 81 (x3 + 2) (fun w2 => ab_ld X h 81 (x3 + 3) (fun w3 => ab_ld X h 81 (x3 + 4) (fun w4 => ab_ld X h 81 (x3 + 5) (fun w5 => (ab_ru X d 13 [.ref 0, .int w1, .int w2, .int w3, .int w4, .int w5] h).bind (fun z => ab_ex X (d + 1) 193 373 [.ref 81, .ref 0, v2, .int x3] (ab_pu z.1 []) z.2)))))) := (ab_ex_xN X (d + 1) 193 27 344 _ _ _).trans rfl
set_option maxRecDepth 20000 in
theorem b193_373 (X : ab_X) (d : Nat) (v1 : Value) (x3 : Int32) (y0 : Int32) (h : ab_H) : ab_ex X (d + 1) 193 373 [.ref 81, v1, .ref 29, .int x3] [.int y0] h = ab_ld X h 81 (x3 + 1) (fun w1 => ab_ld X h 81 (x3 + 2) (fun w2 => ab_ld X h 81 (x3 + 3) (fun w3 => ab_ld X h 81 (x3 + 4) (fun w4 => ab_ld X h 81 (x3 + 5) (fun w5 => (ab_ru X d 114 [.ref 29, .int w1, .int w2, .int w3, .int w4, .int w5] h).bind (fun z => ab_ex X (d + 1) 193 402 [.ref 81, v1, .ref 29, .int x3] (ab_pu z.1 [.int y0]) z.2)))))) := (ab_ex_xN X (d + 1) 193 27 373 _ _ _).trans rfl
set_option maxRecDepth 20000 in
theorem b193_402 (X : ab_X) (d : Nat) (v0 : Value) (v1 : Value) (v2 : Value) (v3 : Value) (y0 : Int32) (y1 : Int32) (h : ab_H) : ab_ex X d 193 402 [v0, v1, v2, v3] [.int y0, .int y1] h = if y1 = y0 then ab_ex X d 193 1288 [v0, v1, v2, v3] [] h else ab_ex X d 193 405 [v0, v1, v2, v3] [] h := (ab_ex_xN X d 193 1 402 _ _ _).trans rfl
set_option maxRecDepth 20000 in
theorem b193_405 (X : ab_X) (d : Nat) (v0 : Value) (v1 : Value) (v2 : Value) (v3 : Value) (h : ab_H) : ab_ex X d 193 405 [v0, v1, v2, v3] [] h = some (some (.int 0), h) := (ab_ex_xN X d 193 2 405 _ _ _).trans rfl
set_option maxRecDepth 20000 in
theorem b193_407 (X : ab_X) (d : Nat) (v2 : Value) (x3 : Int32) (h : ab_H) : ab_ex X (d + 1) 193 407 [.ref 81, .ref 0, v2, .int x3] [] h = ab_ld X h 81 (x3 + 1) (fun w1 => (ab_ru X d 15 [.ref 0, .int w1] h).bind (fun z => ab_ex X (d + 1) 193 416 [.ref 81, .ref 0, v2, .int x3] (ab_pu z.1 []) z.2)) := (ab_ex_xN X (d + 1) 193 7 407 _ _ _).trans rfl
set_option maxRecDepth 20000 in
theorem b193_416 (X : ab_X) (d : Nat) (v1 : Value) (x3 : Int32) (y0 : Int32) (h : ab_H) : ab_ex X (d + 1) 193 416 [.ref 81, v1, .ref 29, .int x3] [.int y0] h = ab_ld X h 81 (x3 + 1) (fun w1 => (ab_ru X d 116 [.ref 29, .int w1] h).bind (fun z => ab_ex X (d + 1) 193 425 [.ref 81, v1, .ref 29, .int x3] (ab_pu z.1 [.int y0]) z.2)) := (ab_ex_xN X (d + 1) 193 7 416 _ _ _).trans rfl
set_option maxRecDepth 20000 in
theorem b193_425 (X : ab_X) (d : Nat) (v0 : Value) (v1 : Value) (v2 : Value) (v3 : Value) (y0 : Int32) (y1 : Int32) (h : ab_H) : ab_ex X d 193 425 [v0, v1, v2, v3] [.int y0, .int y1] h = if y1 = y0 then ab_ex X d 193 1288 [v0, v1, v2, v3] [] h else ab_ex X d 193 428 [v0, v1, v2, v3] [] h := (ab_ex_xN X d 193 1 425 _ _ _).trans rfl
set_option maxRecDepth 20000 in
theorem b193_428 (X : ab_X) (d : Nat) (v0 : Value) (v1 : Value) (v2 : Value) (v3 : Value) (h : ab_H) : ab_ex X d 193 428 [v0, v1, v2, v3] [] h = some (some (.int 0), h) := (ab_ex_xN X d 193 2 428 _ _ _).trans rfl
set_option maxRecDepth 20000 in
theorem b193_430 (X : ab_X) (d : Nat) (v2 : Value) (x3 : Int32) (h : ab_H) : ab_ex X (d + 1) 193 430 [.ref 81, .ref 0, v2, .int x3] [] h = ab_ld X h 81 (x3 + 1) (fun w1 => ab_ld X h 81 (x3 + 2) (fun w2 => (ab_ru X d 16 [.ref 0, .int w1, .int w2] h).bind (fun z => ab_ex X (d + 1) 193 444 [.ref 81, .ref 0, v2, .int x3] (ab_pu z.1 []) z.2))) := (ab_ex_xN X (d + 1) 193 12 430 _ _ _).trans rfl
set_option maxRecDepth 20000 in
theorem b193_444 (X : ab_X) (d : Nat) (v1 : Value) (x3 : Int32) (y0 : Int32) (h : ab_H) : ab_ex X (d + 1) 193 444 [.ref 81, v1, .ref 29, .int x3] [.int y0] h = ab_ld X h 81 (x3 + 1) (fun w1 => ab_ld X h 81 (x3 + 2) (fun w2 => (ab_ru X d 117 [.ref 29, .int w1, .int w2] h).bind (fun z => ab_ex X (d + 1) 193 458 [.ref 81, v1, .ref 29, .int x3] (ab_pu z.1 [.int y0]) z.2))) := (ab_ex_xN X (d + 1) 193 12 444 _ _ _).trans rfl
set_option maxRecDepth 20000 in
theorem b193_458 (X : ab_X) (d : Nat) (v0 : Value) (v1 : Value) (v2 : Value) (v3 : Value) (y0 : Int32) (y1 : Int32) (h : ab_H) : ab_ex X d 193 458 [v0, v1, v2, v3] [.int y0, .int y1] h = if y1 = y0 then ab_ex X d 193 1288 [v0, v1, v2, v3] [] h else ab_ex X d 193 461 [v0, v1, v2, v3] [] h := (ab_ex_xN X d 193 1 458 _ _ _).trans rfl
set_option maxRecDepth 20000 in
theorem b193_461 (X : ab_X) (d : Nat) (v0 : Value) (v1 : Value) (v2 : Value) (v3 : Value) (h : ab_H) : ab_ex X d 193 461 [v0, v1, v2, v3] [] h = some (some (.int 0), h) := (ab_ex_xN X d 193 2 461 _ _ _).trans rfl
set_option maxRecDepth 20000 in
theorem b193_463 (X : ab_X) (d : Nat) (v2 : Value) (x3 : Int32) (h : ab_H) : ab_ex X (d + 1) 193 463 [.ref 81, .ref 0, v2, .int x3] [] h = ab_ld X h 81 (x3 + 1) (fun w1 => ab_ld X h 81 (x3 + 2) (fun w2 => ab_ld X h 81 (x3 + 3) (fun w3 => (ab_ru X d 19 [.ref 0, .int w1, .int w2, .int w3] h).bind (fun z => ab_ex X (d + 1) 193 482 [.ref 81, .ref 0, v2, .int x3] (ab_pu z.1 []) z.2)))) := (ab_ex_xN X (d + 1) 193 17 463 _ _ _).trans rfl
set_option maxRecDepth 20000 in
theorem b193_482 (X : ab_X) (d : Nat) (v1 : Value) (x3 : Int32) (y0 : Int32) (h : ab_H) : ab_ex X (d + 1) 193 482 [.ref 81, v1, .ref 29, .int x3] [.int y0] h = ab_ld X h 81 (x3 + 1) (fun w1 => ab_ld X h 81 (x3 + 2) (fun w2 => ab_ld X h 81 (x3 + 3) (fun w3 => (ab_ru X d 119 [.ref 29, .int w1, .int w2, .int w3] h).bind (fun z => ab_ex X (d + 1) 193 501 [.ref 81, v1, .ref 29, .int x3] (ab_pu z.1 [.int y0]) z.2)))) := (ab_ex_xN X (d + 1) 193 17 482 _ _ _).trans rfl
set_option maxRecDepth 20000 in
theorem b193_501 (X : ab_X) (d : Nat) (v0 : Value) (v1 : Value) (v2 : Value) (v3 : Value) (y0 : Int32) (y1 : Int32) (h : ab_H) : ab_ex X d 193 501 [v0, v1, v2, v3] [.int y0, .int y1] h = if y1 = y0 then ab_ex X d 193 1288 [v0, v1, v2, v3] [] h else ab_ex X d 193 504 [v0, v1, v2, v3] [] h := (ab_ex_xN X d 193 1 501 _ _ _).trans rfl
set_option maxRecDepth 20000 in
theorem b193_504 (X : ab_X) (d : Nat) (v0 : Value) (v1 : Value) (v2 : Value) (v3 : Value) (h : ab_H) : ab_ex X d 193 504 [v0, v1, v2, v3] [] h = some (some (.int 0), h) := (ab_ex_xN X d 193 2 504 _ _ _).trans rfl
set_option maxRecDepth 20000 in
theorem b193_506 (X : ab_X) (d : Nat) (v2 : Value) (x3 : Int32) (h : ab_H) : ab_ex X (d + 1) 193 506 [.ref 81, .ref 0, v2, .int x3] [] h = ab_ld X h 81 (x3 + 1) (fun w1 => (ab_ru X d 20 [.ref 0, .int w1] h).bind (fun z => ab_ex X (d + 1) 193 515 [.ref 81, .ref 0, v2, .int x3] (ab_pu z.1 []) z.2)) := (ab_ex_xN X (d + 1) 193 7 506 _ _ _).trans rfl
set_option maxRecDepth 20000 in
theorem b193_515 (X : ab_X) (d : Nat) (v1 : Value) (x3 : Int32) (y0 : Int32) (h : ab_H) : ab_ex X (d + 1) 193 515 [.ref 81, v1, .ref 29, .int x3] [.int y0] h = ab_ld X h 81 (x3 + 1) (fun w1 => (ab_ru X d 120 [.ref 29, .int w1] h).bind (fun z => ab_ex X (d + 1) 193 524 [.ref 81, v1, .ref 29, .int x3] (ab_pu z.1 [.int y0]) z.2)) := (ab_ex_xN X (d + 1) 193 7 515 _ _ _).trans rfl
set_option maxRecDepth 20000 in
theorem b193_524 (X : ab_X) (d : Nat) (v0 : Value) (v1 : Value) (v2 : Value) (v3 : Value) (y0 : Int32) (y1 : Int32) (h : ab_H) : ab_ex X d 193 524 [v0, v1, v2, v3] [.int y0, .int y1] h = if y1 = y0 then ab_ex X d 193 1288 [v0, v1, v2, v3] [] h else ab_ex X d 193 527 [v0, v1, v2, v3] [] h := (ab_ex_xN X d 193 1 524 _ _ _).trans rfl
set_option maxRecDepth 20000 in
theorem b193_527 (X : ab_X) (d : Nat) (v0 : Value) (v1 : Value) (v2 : Value) (v3 : Value) (h : ab_H) : ab_ex X d 193 527 [v0, v1, v2, v3] [] h = some (some (.int 0), h) := (ab_ex_xN X d 193 2 527 _ _ _).trans rfl
set_option maxRecDepth 20000 in
theorem b193_529 (X : ab_X) (d : Nat) (v2 : Value) (x3 : Int32) (h : ab_H) : ab_ex X (d + 1) 193 529 [.ref 81, .ref 0, v2, .int x3] [] h = ab_ld X h 81 (x3 + 1) (fun w1 => (ab_ru X d 24 [.ref 0, .int w1] h).bind (fun z => ab_ex X (d + 1) 193 538 [.ref 81, .ref 0, v2, .int x3] (ab_pu z.1 []) z.2)) := (ab_ex_xN X (d + 1) 193 7 529 _ _ _).trans rfl
set_option maxRecDepth 20000 in
theorem b193_538 (X : ab_X) (d : Nat) (v1 : Value) (x3 : Int32) (y0 : Int32) (h : ab_H) : ab_ex X (d + 1) 193 538 [.ref 81, v1, .ref 29, .int x3] [.int y0] h = ab_ld X h 81 (x3 + 1) (fun w1 => (ab_ru X d 128 [.ref 29, .int w1] h).bind (fun z => ab_ex X (d + 1) 193 547 [.ref 81, v1, .ref 29, .int x3] (ab_pu z.1 [.int y0]) z.2)) := (ab_ex_xN X (d + 1) 193 7 538 _ _ _).trans rfl
set_option maxRecDepth 20000 in
theorem b193_547 (X : ab_X) (d : Nat) (v0 : Value) (v1 : Value) (v2 : Value) (v3 : Value) (y0 : Int32) (y1 : Int32) (h : ab_H) : ab_ex X d 193 547 [v0, v1, v2, v3] [.int y0, .int y1] h = if y1 = y0 then ab_ex X d 193 1288 [v0, v1, v2, v3] [] h else ab_ex X d 193 550 [v0, v1, v2, v3] [] h := (ab_ex_xN X d 193 1 547 _ _ _).trans rfl
set_option maxRecDepth 20000 in
theorem b193_550 (X : ab_X) (d : Nat) (v0 : Value) (v1 : Value) (v2 : Value) (v3 : Value) (h : ab_H) : ab_ex X d 193 550 [v0, v1, v2, v3] [] h = some (some (.int 0), h) := (ab_ex_xN X d 193 2 550 _ _ _).trans rfl
set_option maxRecDepth 20000 in
theorem b193_552 (X : ab_X) (d : Nat) (v2 : Value) (x3 : Int32) (h : ab_H) : ab_ex X (d + 1) 193 552 [.ref 81, .ref 0, v2, .int x3] [] h = ab_ld X h 81 (x3 + 1) (fun w1 => ab_ld X h 81 (x3 + 2) (fun w2 => (ab_ru X d 28 [.ref 0, .int w1, .int w2] h).bind (fun z => ab_ex X (d + 1) 193 566 [.ref 81, .ref 0, v2, .int x3] (ab_pu z.1 []) z.2))) := (ab_ex_xN X (d + 1) 193 12 552 _ _ _).trans rfl
set_option maxRecDepth 20000 in
theorem b193_566 (X : ab_X) (d : Nat) (v1 : Value) (x3 : Int32) (y0 : Int32) (h : ab_H) : ab_ex X (d + 1) 193 566 [.ref 81, v1, .ref 29, .int x3] [.int y0] h = ab_ld X h 81 (x3 + 1) (fun w1 => ab_ld X h 81 (x3 + 2) (fun w2 => (ab_ru X d 130 [.ref 29, .int w1, .int w2] h).bind (fun z => ab_ex X (d + 1) 193 580 [.ref 81, v1, .ref 29, .int x3] (ab_pu z.1 [.int y0]) z.2))) := (ab_ex_xN X (d + 1) 193 12 566 _ _ _).trans rfl
set_option maxRecDepth 20000 in
theorem b193_580 (X : ab_X) (d : Nat) (v0 : Value) (v1 : Value) (v2 : Value) (v3 : Value) (y0 : Int32) (y1 : Int32) (h : ab_H) : ab_ex X d 193 580 [v0, v1, v2, v3] [.int y0, .int y1] h = if y1 = y0 then ab_ex X d 193 1288 [v0, v1, v2, v3] [] h else ab_ex X d 193 583 [v0, v1, v2, v3] [] h := (ab_ex_xN X d 193 1 580 _ _ _).trans rfl
set_option maxRecDepth 20000 in
theorem b193_583 (X : ab_X) (d : Nat) (v0 : Value) (v1 : Value) (v2 : Value) (v3 : Value) (h : ab_H) : ab_ex X d 193 583 [v0, v1, v2, v3] [] h = some (some (.int 0), h) := (ab_ex_xN X d 193 2 583 _ _ _).trans rfl
set_option maxRecDepth 20000 in
theorem b193_585 (X : ab_X) (d : Nat) (v2 : Value) (x3 : Int32) (h : ab_H) : ab_ex X (d + 1) 193 585 [.ref 81, .ref 0, v2, .int x3] [] h = ab_ld X h 81 (x3 + 1) (fun w1 => ab_ld X h 81 (x3 + 2) (fun w2 => (ab_ru X d 34 [.ref 0, .int w1, .int w2] h).bind (fun z => ab_ex X (d + 1) 193 599 [.ref 81, .ref 0, v2, .int x3] (ab_pu z.1 []) z.2))) := (ab_ex_xN X (d + 1) 193 12 585 _ _ _).trans rfl
set_option maxRecDepth 20000 in
theorem b193_599 (X : ab_X) (d : Nat) (v1 : Value) (x3 : Int32) (y0 : Int32) (h : ab_H) : ab_ex X (d + 1) 193 599 [.ref 81, v1, .ref 29, .int x3] [.int y0] h = ab_ld X h 81 (x3 + 1) (fun w1 => ab_ld X h 81 (x3 + 2) (fun w2 => (ab_ru X d 136 [.ref 29, .int w1, .int w2] h).bind (fun z => ab_ex X (d + 1) 193 613 [.ref 81, v1, .ref 29, .int x3] (ab_pu z.1 [.int y0]) z.2))) := (ab_ex_xN X (d + 1) 193 12 599 _ _ _).trans rfl
set_option maxRecDepth 20000 in
theorem b193_613 (X : ab_X) (d : Nat) (v0 : Value) (v1 : Value) (v2 : Value) (v3 : Value) (y0 : Int32) (y1 : Int32) (h : ab_H) : ab_ex X d 193 613 [v0, v1, v2, v3] [.int y0, .int y1] h = if y1 = y0 then ab_ex X d 193 1288 [v0, v1, v2, v3] [] h else ab_ex X d 193 616 [v0, v1, v2, v3] [] h := (ab_ex_xN X d 193 1 613 _ _ _).trans rfl
set_option maxRecDepth 20000 in
theorem b193_616 (X : ab_X) (d : Nat) (v0 : Value) (v1 : Value) (v2 : Value) (v3 : Value) (h : ab_H) : ab_ex X d 193 616 [v0, v1, v2, v3] [] h = some (some (.int 0), h) := (ab_ex_xN X d 193 2 616 _ _ _).trans rfl
set_option maxRecDepth 20000 in
theorem b193_618 (X : ab_X) (d : Nat) (v2 : Value) (x3 : Int32) (h : ab_H) : ab_ex X (d + 1) 193 618 [.ref 81, .ref 0, v2, .int x3] [] h = ab_ld X h 81 (x3 + 1) (fun w1 => ab_ld X h 81 (x3 + 2) (fun w2 => (ab_ru X d 40 [.ref 0, .int w1, .int w2] h).bind (fun z => ab_ex X (d + 1) 193 632 [.ref 81, .ref 0, v2, .int x3] (ab_pu z.1 []) z.2))) := (ab_ex_xN X (d + 1) 193 12 618 _ _ _).trans rfl
set_option maxRecDepth 20000 in
theorem b193_632 (X : ab_X) (d : Nat) (v1 : Value) (x3 : Int32) (y0 : Int32) (h : ab_H) : ab_ex X (d + 1) 193 632 [.ref 81, v1, .ref 29, .int x3] [.int y0] h = ab_ld X h 81 (x3 + 1) (fun w1 => ab_ld X h 81 (x3 + 2) (fun w2 => (ab_ru X d 140 [.ref 29, .int w1, .int w2] h).bind (fun z => ab_ex X (d + 1) 193 646 [.ref 81, v1, .ref 29, .int x3] (ab_pu z.1 [.int y0]) z.2))) := (ab_ex_xN X (d + 1) 193 12 632 _ _ _).trans rfl
set_option maxRecDepth 20000 in
theorem b193_646 (X : ab_X) (d : Nat) (v0 : Value) (v1 : Value) (v2 : Value) (v3 : Value) (y0 : Int32) (y1 : Int32) (h : ab_H) : ab_ex X d 193 646 [v0, v1, v2, v3] [.int y0, .int y1] h = if y1 = y0 then ab_ex X d 193 1288 [v0, v1, v2, v3] [] h else ab_ex X d 193 649 [v0, v1, v2, v3] [] h := (ab_ex_xN X d 193 1 646 _ _ _).trans rfl
set_option maxRecDepth 20000 in
theorem b193_649 (X : ab_X) (d : Nat) (v0 : Value) (v1 : Value) (v2 : Value) (v3 : Value) (h : ab_H) : ab_ex X d 193 649 [v0, v1, v2, v3] [] h = some (some (.int 0), h) := (ab_ex_xN X d 193 2 649 _ _ _).trans rfl
set_option maxRecDepth 20000 in
theorem b193_651 (X : ab_X) (d : Nat) (v2 : Value) (x3 : Int32) (h : ab_H) : ab_ex X (d + 1) 193 651 [.ref 81, .ref 0, v2, .int x3] [] h = ab_ld X h 81 (x3 + 1) (fun w1 => (ab_ru X d 43 [.ref 0, .int w1] h).bind (fun z => ab_ex X (d + 1) 193 660 [.ref 81, .ref 0, v2, .int x3] (ab_pu z.1 []) z.2)) := (ab_ex_xN X (d + 1) 193 7 651 _ _ _).trans rfl
set_option maxRecDepth 20000 in
theorem b193_660 (X : ab_X) (d : Nat) (v1 : Value) (x3 : Int32) (y0 : Int32) (h : ab_H) : ab_ex X (d + 1) 193 660 [.ref 81, v1, .ref 29, .int x3] [.int y0] h = ab_ld X h 81 (x3 + 1) (fun w1 => (ab_ru X d 143 [.ref 29, .int w1] h).bind (fun z => ab_ex X (d + 1) 193 669 [.ref 81, v1, .ref 29, .int x3] (ab_pu z.1 [.int y0]) z.2)) := (ab_ex_xN X (d + 1) 193 7 660 _ _ _).trans rfl
set_option maxRecDepth 20000 in
theorem b193_669 (X : ab_X) (d : Nat) (v0 : Value) (v1 : Value) (v2 : Value) (v3 : Value) (y0 : Int32) (y1 : Int32) (h : ab_H) : ab_ex X d 193 669 [v0, v1, v2, v3] [.int y0, .int y1] h = if y1 = y0 then ab_ex X d 193 1288 [v0, v1, v2, v3] [] h else ab_ex X d 193 672 [v0, v1, v2, v3] [] h := (ab_ex_xN X d 193 1 669 _ _ _).trans rfl
set_option maxRecDepth 20000 in
theorem b193_672 (X : ab_X) (d : Nat) (v0 : Value) (v1 : Value) (v2 : Value) (v3 : Value) (h : ab_H) : ab_ex X d 193 672 [v0, v1, v2, v3] [] h = some (some (.int 0), h) := (ab_ex_xN X d 193 2 672 _ _ _).trans rfl
set_option maxRecDepth 20000 in
theorem b193_674 (X : ab_X) (d : Nat) (v2 : Value) (x3 : Int32) (h : ab_H) : ab_ex X (d + 1) 193 674 [.ref 81, .ref 0, v2, .int x3] [] h = ab_ld X h 81 (x3 + 1) (fun w1 => (ab_ru X d 53 [.ref 0, .int w1] h).bind (fun z => ab_ex X (d + 1) 193 683 [.ref 81, .ref 0, v2, .int x3] (ab_pu z.1 []) z.2)) := (ab_ex_xN X (d + 1) 193 7 674 _ _ _).trans rfl
set_option maxRecDepth 20000 in
theorem b193_683 (X : ab_X) (d : Nat) (v1 : Value) (x3 : Int32) (y0 : Int32) (h : ab_H) : ab_ex X (d + 1) 193 683 [.ref 81, v1, .ref 29, .int x3] [.int y0] h = ab_ld X h 81 (x3 + 1) (fun w1 => (ab_ru X d 151 [.ref 29, .int w1] h).bind (fun z => ab_ex X (d + 1) 193 692 [.ref 81, v1, .ref 29, .int x3] (ab_pu z.1 [.int y0]) z.2)) := (ab_ex_xN X (d + 1) 193 7 683 _ _ _).trans rfl
set_option maxRecDepth 20000 in
theorem b193_692 (X : ab_X) (d : Nat) (v0 : Value) (v1 : Value) (v2 : Value) (v3 : Value) (y0 : Int32) (y1 : Int32) (h : ab_H) : ab_ex X d 193 692 [v0, v1, v2, v3] [.int y0, .int y1] h = if y1 = y0 then ab_ex X d 193 1288 [v0, v1, v2, v3] [] h else ab_ex X d 193 695 [v0, v1, v2, v3] [] h := (ab_ex_xN X d 193 1 692 _ _ _).trans rfl
set_option maxRecDepth 20000 in
theorem b193_695 (X : ab_X) (d : Nat) (v0 : Value) (v1 : Value) (v2 : Value) (v3 : Value) (h : ab_H) : ab_ex X d 193 695 [v0, v1, v2, v3] [] h = some (some (.int 0), h) := (ab_ex_xN X d 193 2 695 _ _ _).trans rfl
set_option maxRecDepth 20000 in
theorem b193_697 (X : ab_X) (d : Nat) (v2 : Value) (x3 : Int32) (h : ab_H) : ab_ex X (d + 1) 193 697 [.ref 81, .ref 0, v2, .int x3] [] h = ab_ld X h 81 (x3 + 1) (fun w1 => (ab_ru X d 57 [.ref 0, .int w1] h).bind (fun z => ab_ex X (d + 1) 193 706 [.ref 81, .ref 0, v2, .int x3] (ab_pu z.1 []) z.2)) := (ab_ex_xN X (d + 1) 193 7 697 _ _ _).trans rfl
set_option maxRecDepth 20000 in
theorem b193_706 (X : ab_X) (d : Nat) (v1 : Value) (x3 : Int32) (y0 : Int32) (h : ab_H) : ab_ex X (d + 1) 193 706 [.ref 81, v1, .ref 29, .int x3] [.int y0] h = ab_ld X h 81 (x3 + 1) (fun w1 => (ab_ru X d 152 [.ref 29, .int w1] h).bind (fun z => ab_ex X (d + 1) 193 715 [.ref 81, v1, .ref 29, .int x3] (ab_pu z.1 [.int y0]) z.2)) := (ab_ex_xN X (d + 1) 193 7 706 _ _ _).trans rfl
set_option maxRecDepth 20000 in
theorem b193_715 (X : ab_X) (d : Nat) (v0 : Value) (v1 : Value) (v2 : Value) (v3 : Value) (y0 : Int32) (y1 : Int32) (h : ab_H) : ab_ex X d 193 715 [v0, v1, v2, v3] [.int y0, .int y1] h = if y1 = y0 then ab_ex X d 193 1288 [v0, v1, v2, v3] [] h else ab_ex X d 193 718 [v0, v1, v2, v3] [] h := (ab_ex_xN X d 193 1 715 _ _ _).trans rfl
set_option maxRecDepth 20000 in
theorem b193_718 (X : ab_X) (d : Nat) (v0 : Value) (v1 : Value) (v2 : Value) (v3 : Value) (h : ab_H) : ab_ex X d 193 718 [v0, v1, v2, v3] [] h = some (some (.int 0), h) := (ab_ex_xN X d 193 2 718 _ _ _).trans rfl
set_option maxRecDepth 20000 in
theorem b193_720 (X : ab_X) (d : Nat) (v2 : Value) (x3 : Int32) (h : ab_H) : ab_ex X (d + 1) 193 720 [.ref 81, .ref 0, v2, .int x3] [] h = ab_ld X h 81 (x3 + 1) (fun w1 => (ab_ru X d 60 [.ref 0, .int w1] h).bind (fun z => ab_ex X (d + 1) 193 729 [.ref 81, .ref 0, v2, .int x3] (ab_pu z.1 []) z.2)) := (ab_ex_xN X (d + 1) 193 7 720 _ _ _).trans rfl
set_option maxRecDepth 20000 in
theorem b193_729 (X : ab_X) (d : Nat) (v1 : Value) (x3 : Int32) (y0 : Int32) (h : ab_H) : ab_ex X (d + 1) 193 729 [.ref 81, v1, .ref 29, .int x3] [.int y0] h = ab_ld X h 81 (x3 + 1) (fun w1 => (ab_ru X d 153 [.ref 29, .int w1] h).bind (fun z => ab_ex X (d + 1) 193 738 [.ref 81, v1, .ref 29, .int x3] (ab_pu z.1 [.int y0]) z.2)) := (ab_ex_xN X (d + 1) 193 7 729 _ _ _).trans rfl
set_option maxRecDepth 20000 in
theorem b193_738 (X : ab_X) (d : Nat) (v0 : Value) (v1 : Value) (v2 : Value) (v3 : Value) (y0 : Int32) (y1 : Int32) (h : ab_H) : ab_ex X d 193 738 [v0, v1, v2, v3] [.int y0, .int y1] h = if y1 = y0 then ab_ex X d 193 1288 [v0, v1, v2, v3] [] h else ab_ex X d 193 741 [v0, v1, v2, v3] [] h := (ab_ex_xN X d 193 1 738 _ _ _).trans rfl
set_option maxRecDepth 20000 in
theorem b193_741 (X : ab_X) (d : Nat) (v0 : Value) (v1 : Value) (v2 : Value) (v3 : Value) (h : ab_H) : ab_ex X d 193 741 [v0, v1, v2, v3] [] h = some (some (.int 0), h) := (ab_ex_xN X d 193 2 741 _ _ _).trans rfl
set_option maxRecDepth 20000 in
theorem b193_743 (X : ab_X) (d : Nat) (v2 : Value) (x3 : Int32) (h : ab_H) : ab_ex X (d + 1) 193 743 [.ref 81, .ref 0, v2, .int x3] [] h = ab_ld X h 81 (x3 + 1) (fun w1 => (ab_ru X d 61 [.ref 0, .int w1] h).bind (fun z => ab_ex X (d + 1) 193 752 [.ref 81, .ref 0, v2, .int x3] (ab_pu z.1 []) z.2)) := (ab_ex_xN X (d + 1) 193 7 743 _ _ _).trans rfl
set_option maxRecDepth 20000 in
theorem b193_752 (X : ab_X) (d : Nat) (v1 : Value) (x3 : Int32) (y0 : Int32) (h : ab_H) : ab_ex X (d + 1) 193 752 [.ref 81, v1, .ref 29, .int x3] [.int y0] h = ab_ld X h 81 (x3 + 1) (fun w1 => (ab_ru X d 154 [.ref 29, .int w1] h).bind (fun z => ab_ex X (d + 1) 193 761 [.ref 81, v1, .ref 29, .int x3] (ab_pu z.1 [.int y0]) z.2)) := (ab_ex_xN X (d + 1) 193 7 752 _ _ _).trans rfl
set_option maxRecDepth 20000 in
theorem b193_761 (X : ab_X) (d : Nat) (v0 : Value) (v1 : Value) (v2 : Value) (v3 : Value) (y0 : Int32) (y1 : Int32) (h : ab_H) : ab_ex X d 193 761 [v0, v1, v2, v3] [.int y0, .int y1] h = if y1 = y0 then ab_ex X d 193 1288 [v0, v1, v2, v3] [] h else ab_ex X d 193 764 [v0, v1, v2, v3] [] h := (ab_ex_xN X d 193 1 761 _ _ _).trans rfl
set_option maxRecDepth 20000 in
theorem b193_764 (X : ab_X) (d : Nat) (v0 : Value) (v1 : Value) (v2 : Value) (v3 : Value) (h : ab_H) : ab_ex X d 193 764 [v0, v1, v2, v3] [] h = some (some (.int 0), h) := (ab_ex_xN X d 193 2 764 _ _ _).trans rfl
set_option maxRecDepth 20000 in
theorem b193_766 (X : ab_X) (d : Nat) (v2 : Value) (x3 : Int32) (h : ab_H) : ab_ex X (d + 1) 193 766 [.ref 81, .ref 0, v2, .int x3] [] h = ab_ld X h 81 (x3 + 1) (fun w1 => ab_ld X h 81 (x3 + 2) (fun w2 => (ab_ru X d 62 [.ref 0, .int w1, .int w2] h).bind (fun z => ab_ex X (d + 1) 193 780 [.ref 81, .ref 0, v2, .int x3] (ab_pu z.1 []) z.2))) := (ab_ex_xN X (d + 1) 193 12 766 _ _ _).trans rfl
set_option maxRecDepth 20000 in
theorem b193_780 (X : ab_X) (d : Nat) (v1 : Value) (x3 : Int32) (y0 : Int32) (h : ab_H) : ab_ex X (d + 1) 193 780 [.ref 81, v1, .ref 29, .int x3] [.int y0] h = ab_ld X h 81 (x3 + 1) (fun w1 => ab_ld X h 81 (x3 + 2) (fun w2 => (ab_ru X d 155 [.ref 29, .int w1, .int w2] h).bind (fun z => ab_ex X (d + 1) 193 794 [.ref 81, v1, .ref 29, .int x3] (ab_pu z.1 [.int y0]) z.2))) := (ab_ex_xN X (d + 1) 193 12 780 _ _ _).trans rfl
set_option maxRecDepth 20000 in
theorem b193_794 (X : ab_X) (d : Nat) (v0 : Value) (v1 : Value) (v2 : Value) (v3 : Value) (y0 : Int32) (y1 : Int32) (h : ab_H) : ab_ex X d 193 794 [v0, v1, v2, v3] [.int y0, .int y1] h = if y1 = y0 then ab_ex X d 193 1288 [v0, v1, v2, v3] [] h else ab_ex X d 193 797 [v0, v1, v2, v3] [] h := (ab_ex_xN X d 193 1 794 _ _ _).trans rfl
set_option maxRecDepth 20000 in
theorem b193_797 (X : ab_X) (d : Nat) (v0 : Value) (v1 : Value) (v2 : Value) (v3 : Value) (h : ab_H) : ab_ex X d 193 797 [v0, v1, v2, v3] [] h = some (some (.int 0), h) := (ab_ex_xN X d 193 2 797 _ _ _).trans rfl
set_option maxRecDepth 20000 in
theorem b193_799 (X : ab_X) (d : Nat) (v2 : Value) (x3 : Int32) (h : ab_H) : ab_ex X (d + 1) 193 799 [.ref 81, .ref 0, v2, .int x3] [] h = ab_ld X h 81 (x3 + 1) (fun w1 => (ab_ru X d 64 [.ref 0, .int w1] h).bind (fun z => ab_ex X (d + 1) 193 808 [.ref 81, .ref 0, v2, .int x3] (ab_pu z.1 []) z.2)) := (ab_ex_xN X (d + 1) 193 7 799 _ _ _).trans rfl
set_option maxRecDepth 20000 in
theorem b193_808 (X : ab_X) (d : Nat) (v1 : Value) (x3 : Int32) (y0 : Int32) (h : ab_H) : ab_ex X (d + 1) 193 808 [.ref 81, v1, .ref 29, .int x3] [.int y0] h = ab_ld X h 81 (x3 + 1) (fun w1 => (ab_ru X d 156 [.ref 29, .int w1] h).bind (fun z => ab_ex X (d + 1) 193 817 [.ref 81, v1, .ref 29, .int x3] (ab_pu z.1 [.int y0]) z.2)) := (ab_ex_xN X (d + 1) 193 7 808 _ _ _).trans rfl
set_option maxRecDepth 20000 in
theorem b193_817 (X : ab_X) (d : Nat) (v0 : Value) (v1 : Value) (v2 : Value) (v3 : Value) (y0 : Int32) (y1 : Int32) (h : ab_H) : ab_ex X d 193 817 [v0, v1, v2, v3] [.int y0, .int y1] h = if y1 = y0 then ab_ex X d 193 1288 [v0, v1, v2, v3] [] h else ab_ex X d 193 820 [v0, v1, v2, v3] [] h := (ab_ex_xN X d 193 1 817 _ _ _).trans rfl
set_option maxRecDepth 20000 in
theorem b193_820 (X : ab_X) (d : Nat) (v0 : Value) (v1 : Value) (v2 : Value) (v3 : Value) (h : ab_H) : ab_ex X d 193 820 [v0, v1, v2, v3] [] h = some (some (.int 0), h) := (ab_ex_xN X d 193 2 820 _ _ _).trans rfl
set_option maxRecDepth 20000 in
theorem b193_822 (X : ab_X) (d : Nat) (v2 : Value) (x3 : Int32) (h : ab_H) : ab_ex X (d + 1) 193 822 [.ref 81, .ref 0, v2, .int x3] [] h = ab_ld X h 81 (x3 + 1) (fun w1 => ab_ld X h 81 (x3 + 2) (fun w2 => (ab_ru X d 66 [.ref 0, .int w1, .int w2] h).bind (fun z => ab_ex X (d + 1) 193 836 [.ref 81, .ref 0, v2, .int x3] (ab_pu z.1 []) z.2))) := (ab_ex_xN X (d + 1) 193 12 822 _ _ _).trans rfl
set_option maxRecDepth 20000 in
theorem b193_836 (X : ab_X) (d : Nat) (v1 : Value) (x3 : Int32) (y0 : Int32) (h : ab_H) : ab_ex X (d + 1) 193 836 [.ref 81, v1, .ref 29, .int x3] [.int y0] h = ab_ld X h 81 (x3 + 1) (fun w1 => ab_ld X h 81 (x3 + 2) (fun w2 => (ab_ru X d 157 [.ref 29, .int w1, .int w2] h).bind (fun z => ab_ex X (d + 1) 193 850 [.ref 81, v1, .ref 29, .int x3] (ab_pu z.1 [.int y0]) z.2))) := (ab_ex_xN X (d + 1) 193 12 836 _ _ _).trans rfl
set_option maxRecDepth 20000 in
theorem b193_850 (X : ab_X) (d : Nat) (v0 : Value) (v1 : Value) (v2 : Value) (v3 : Value) (y0 : Int32) (y1 : Int32) (h : ab_H) : ab_ex X d 193 850 [v0, v1, v2, v3] [.int y0, .int y1] h = if y1 = y0 then ab_ex X d 193 1288 [v0, v1, v2, v3] [] h else ab_ex X d 193 853 [v0, v1, v2, v3] [] h := (ab_ex_xN X d 193 1 850 _ _ _).trans rfl
set_option maxRecDepth 20000 in
theorem b193_853 (X : ab_X) (d : Nat) (v0 : Value) (v1 : Value) (v2 : Value) (v3 : Value) (h : ab_H) : ab_ex X d 193 853 [v0, v1, v2, v3] [] h = some (some (.int 0), h) := (ab_ex_xN X d 193 2 853 _ _ _).trans rfl
set_option maxRecDepth 20000 in
theorem b193_855 (X : ab_X) (d : Nat) (v0 : Value) (v2 : Value) (v3 : Value) (h : ab_H) : ab_ex X (d + 1) 193 855 [v0, .ref 0, v2, v3] [] h = (ab_ru X d 69 [.ref 0] h).bind (fun z => ab_ex X (d + 1) 193 859 [v0, .ref 0, v2, v3] (ab_pu z.1 []) z.2) := (ab_ex_xN X (d + 1) 193 2 855 _ _ _).trans rfl
set_option maxRecDepth 20000 in
theorem b193_859 (X : ab_X) (d : Nat) (v0 : Value) (v1 : Value) (v3 : Value) (y0 : Int32) (h : ab_H) : ab_ex X (d + 1) 193 859 [v0, v1, .ref 29, v3] [.int y0] h = (ab_ru X d 158 [.ref 29] h).bind (fun z => ab_ex X (d + 1) 193 863 [v0, v1, .ref 29, v3] (ab_pu z.1 [.int y0]) z.2) := (ab_ex_xN X (d + 1) 193 2 859 _ _ _).trans rfl
set_option maxRecDepth 20000 in
theorem b193_863 (X : ab_X) (d : Nat) (v0 : Value) (v1 : Value) (v2 : Value) (v3 : Value) (y0 : Int32) (y1 : Int32) (h : ab_H) : ab_ex X d 193 863 [v0, v1, v2, v3] [.int y0, .int y1] h = if y1 = y0 then ab_ex X d 193 1288 [v0, v1, v2, v3] [] h else ab_ex X d 193 866 [v0, v1, v2, v3] [] h := (ab_ex_xN X d 193 1 863 _ _ _).trans rfl
set_option maxRecDepth 20000 in
theorem b193_866 (X : ab_X) (d : Nat) (v0 : Value) (v1 : Value) (v2 : Value) (v3 : Value) (h : ab_H) : ab_ex X d 193 866 [v0, v1, v2, v3] [] h = some (some (.int 0), h) := (ab_ex_xN X d 193 2 866 _ _ _).trans rfl
set_option maxRecDepth 20000 in
theorem b193_868 (X : ab_X) (d : Nat) (v2 : Value) (x3 : Int32) (h : ab_H) : ab_ex X (d + 1) 193 868 [.ref 81, .ref 0, v2, .int x3] [] h = ab_ld X h 81 (x3 + 1) (fun w1 => (ab_ru X d 70 [.ref 0, .int w1] h).bind (fun z => ab_ex X (d + 1) 193 877 [.ref 81, .ref 0, v2, .int x3] (ab_pu z.1 []) z.2)) := (ab_ex_xN X (d + 1) 193 7 868 _ _ _).trans rfl
set_option maxRecDepth 20000 in
theorem b193_877 (X : ab_X) (d : Nat) (v1 : Value) (x3 : Int32) (y0 : Int32) (h : ab_H) : ab_ex X (d + 1) 193 877 [.ref 81, v1, .ref 29, .int x3] [.int y0] h = ab_ld X h 81 (x3 + 1) (fun w1 => (ab_ru X d 159 [.ref 29, .int w1] h).bind (fun z => ab_ex X (d + 1) 193 886 [.ref 81, v1, .ref 29, .int x3] (ab_pu z.1 [.int y0]) z.2)) := (ab_ex_xN X (d + 1) 193 7 877 _ _ _).trans rfl
set_option maxRecDepth 20000 in
theorem b193_886 (X : ab_X) (d : Nat) (v0 : Value) (v1 : Value) (v2 : Value) (v3 : Value) (y0 : Int32) (y1 : Int32) (h : ab_H) : ab_ex X d 193 886 [v0, v1, v2, v3] [.int y0, .int y1] h = if y1 = y0 then ab_ex X d 193 1288 [v0, v1, v2, v3] [] h else ab_ex X d 193 889 [v0, v1, v2, v3] [] h := (ab_ex_xN X d 193 1 886 _ _ _).trans rfl
set_option maxRecDepth 20000 in
theorem b193_889 (X : ab_X) (d : Nat) (v0 : Value) (v1 : Value) (v2 : Value) (v3 : Value) (h : ab_H) : ab_ex X d 193 889 [v0, v1, v2, v3] [] h = some (some (.int 0), h) := (ab_ex_xN X d 193 2 889 _ _ _).trans rfl
set_option maxRecDepth 20000 in
theorem b193_891 (X : ab_X) (d : Nat) (v0 : Value) (v2 : Value) (v3 : Value) (h : ab_H) : ab_ex X (d + 1) 193 891 [v0, .ref 0, v2, v3] [] h = (ab_ru X d 75 [.ref 0] h).bind (fun z => ab_ex X (d + 1) 193 895 [v0, .ref 0, v2, v3] (ab_pu z.1 []) z.2) := (ab_ex_xN X (d + 1) 193 2 891 _ _ _).trans rfl
set_option maxRecDepth 20000 in
theorem b193_895 (X : ab_X) (d : Nat) (v0 : Value) (v1 : Value) (v3 : Value) (y0 : Int32) (h : ab_H) : ab_ex X (d + 1) 193 895 [v0, v1, .ref 29, v3] [.int y0] h = (ab_ru X d 164 [.ref 29] h).bind (fun z => ab_ex X (d + 1) 193 899 [v0, v1, .ref 29, v3] (ab_pu z.1 [.int y0]) z.2) := (ab_ex_xN X (d + 1) 193 2 895 _ _ _).trans rfl
set_option maxRecDepth 20000 in
theorem b193_899 (X : ab_X) (d : Nat) (v0 : Value) (v1 : Value) (v2 : Value) (v3 : Value) (y0 : Int32) (y1 : Int32) (h : ab_H) : ab_ex X d 193 899 [v0, v1, v2, v3] [.int y0, .int y1] h = if y1 = y0 then ab_ex X d 193 1288 [v0, v1, v2, v3] [] h else ab_ex X d 193 902 [v0, v1, v2, v3] [] h := (ab_ex_xN X d 193 1 899 _ _ _).trans rfl
set_option maxRecDepth 20000 in
theorem b193_902 (X : ab_X) (d : Nat) (v0 : Value) (v1 : Value) (v2 : Value) (v3 : Value) (h : ab_H) : ab_ex X d 193 902 [v0, v1, v2, v3] [] h = some (some (.int 0), h) := (ab_ex_xN X d 193 2 902 _ _ _).trans rfl
set_option maxRecDepth 20000 in
theorem b193_904 (X : ab_X) (d : Nat) (v0 : Value) (v2 : Value) (v3 : Value) (h : ab_H) : ab_ex X (d + 1) 193 904 [v0, .ref 0, v2, v3] [] h = (ab_ru X d 76 [.ref 0] h).bind (fun z => ab_ex X (d + 1) 193 908 [v0, .ref 0, v2, v3] (ab_pu z.1 []) z.2) := (ab_ex_xN X (d + 1) 193 2 904 _ _ _).trans rfl
set_option maxRecDepth 20000 in
theorem b193_908 (X : ab_X) (d : Nat) (v0 : Value) (v1 : Value) (v3 : Value) (y0 : Int32) (h : ab_H) : ab_ex X (d + 1) 193 908 [v0, v1, .ref 29, v3] [.int y0] h = (ab_ru X d 165 [.ref 29] h).bind (fun z => ab_ex X (d + 1) 193 912 [v0, v1, .ref 29, v3] (ab_pu z.1 [.int y0]) z.2) := (ab_ex_xN X (d + 1) 193 2 908 _ _ _).trans rfl
set_option maxRecDepth 20000 in
theorem b193_912 (X : ab_X) (d : Nat) (v0 : Value) (v1 : Value) (v2 : Value) (v3 : Value) (y0 : Int32) (y1 : Int32) (h : ab_H) : ab_ex X d 193 912 [v0, v1, v2, v3] [.int y0, .int y1] h = if y1 = y0 then ab_ex X d 193 1288 [v0, v1, v2, v3] [] h else ab_ex X d 193 915 [v0, v1, v2, v3] [] h := (ab_ex_xN X d 193 1 912 _ _ _).trans rfl
set_option maxRecDepth 20000 in
theorem b193_915 (X : ab_X) (d : Nat) (v0 : Value) (v1 : Value) (v2 : Value) (v3 : Value) (h : ab_H) : ab_ex X d 193 915 [v0, v1, v2, v3] [] h = some (some (.int 0), h) := (ab_ex_xN X d 193 2 915 _ _ _).trans rfl
set_option maxRecDepth 20000 in
theorem b193_917 (X : ab_X) (d : Nat) (v0 : Value) (v2 : Value) (v3 : Value) (h : ab_H) : ab_ex X (d + 1) 193 917 [v0, .ref 0, v2, v3] [] h = (ab_ru X d 77 [.ref 0] h).bind (fun z => ab_ex X (d + 1) 193 921 [v0, .ref 0, v2, v3] (ab_pu z.1 []) z.2) := (ab_ex_xN X (d + 1) 193 2 917 _ _ _).trans rfl
set_option maxRecDepth 20000 in
theorem b193_921 (X : ab_X) (d : Nat) (v0 : Value) (v1 : Value) (v3 : Value) (y0 : Int32) (h : ab_H) : ab_ex X (d + 1) 193 921 [v0, v1, .ref 29, v3] [.int y0] h = (ab_ru X d 166 [.ref 29] h).bind (fun z => ab_ex X (d + 1) 193 925 [v0, v1, .ref 29, v3] (ab_pu z.1 [.int y0]) z.2) := (ab_ex_xN X (d + 1) 193 2 921 _ _ _).trans rfl
set_option maxRecDepth 20000 in
theorem b193_925 (X : ab_X) (d : Nat) (v0 : Value) (v1 : Value) (v2 : Value) (v3 : Value) (y0 : Int32) (y1 : Int32) (h : ab_H) : ab_ex X d 193 925 [v0, v1, v2, v3] [.int y0, .int y1] h = if y1 = y0 then ab_ex X d 193 1288 [v0, v1, v2, v3] [] h else ab_ex X d 193 928 [v0, v1, v2, v3] [] h := (ab_ex_xN X d 193 1 925 _ _ _).trans rfl
set_option maxRecDepth 20000 in
theorem b193_928 (X : ab_X) (d : Nat) (v0 : Value) (v1 : Value) (v2 : Value) (v3 : Value) (h : ab_H) : ab_ex X d 193 928 [v0, v1, v2, v3] [] h = some (some (.int 0), h) := (ab_ex_xN X d 193 2 928 _ _ _).trans rfl
set_option maxRecDepth 20000 in
theorem b193_930 (X : ab_X) (d : Nat) (v2 : Value) (x3 : Int32) (h : ab_H) : ab_ex X (d + 1) 193 930 [.ref 81, .ref 0, v2, .int x3] [] h = ab_ld X h 81 (x3 + 1) (fun w1 => ab_ld X h 81 (x3 + 2) (fun w2 => (ab_ru X d 79 [.ref 0, .int w1, .int w2] h).bind (fun z => ab_ex X (d + 1) 193 944 [.ref 81, .ref 0, v2, .int x3] (ab_pu z.1 []) z.2))) := (ab_ex_xN X (d + 1) 193 12 930 _ _ _).trans rfl
set_option maxRecDepth 20000 in
theorem b193_944 (X : ab_X) (d : Nat) (v1 : Value) (x3 : Int32) (y0 : Int32) (h : ab_H) : ab_ex X (d + 1) 193 944 [.ref 81, v1, .ref 29, .int x3] [.int y0] h = ab_ld X h 81 (x3 + 1) (fun w1 => ab_ld X h 81 (x3 + 2) (fun w2 => (ab_ru X d 168 [.ref 29, .int w1, .int w2] h).bind (fun z => ab_ex X (d + 1) 193 958 [.ref 81, v1, .ref 29, .int x3] (ab_pu z.1 [.int y0]) z.2))) := (ab_ex_xN X (d + 1) 193 12 944 _ _ _).trans rfl
set_option maxRecDepth 20000 in
theorem b193_958 (X : ab_X) (d : Nat) (v0 : Value) (v1 : Value) (v2 : Value) (v3 : Value) (y0 : Int32) (y1 : Int32) (h : ab_H) : ab_ex X d 193 958 [v0, v1, v2, v3] [.int y0, .int y1] h = if y1 = y0 then ab_ex X d 193 1288 [v0, v1, v2, v3] [] h else ab_ex X d 193 961 [v0, v1, v2, v3] [] h := (ab_ex_xN X d 193 1 958 _ _ _).trans rfl
set_option maxRecDepth 20000 in
theorem b193_961 (X : ab_X) (d : Nat) (v0 : Value) (v1 : Value) (v2 : Value) (v3 : Value) (h : ab_H) : ab_ex X d 193 961 [v0, v1, v2, v3] [] h = some (some (.int 0), h) := (ab_ex_xN X d 193 2 961 _ _ _).trans rfl
set_option maxRecDepth 20000 in
theorem b193_963 (X : ab_X) (d : Nat) (v2 : Value) (x3 : Int32) (h : ab_H) : ab_ex X (d + 1) 193 963 [.ref 81, .ref 0, v2, .int x3] [] h = ab_ld X h 81 (x3 + 1) (fun w1 => ab_ld X h 81 (x3 + 2) (fun w2 => ab_ld X h 81 (x3 + 3) (fun w3 => (ab_ru X d 82 [.ref 0, .int w1, .int w2, .int w3] h).bind (fun z => ab_ex X (d + 1) 193 982 [.ref 81, .ref 0, v2, .int x3] (ab_pu z.1 []) z.2)))) := (ab_ex_xN X (d + 1) 193 17 963 _ _ _).trans rfl
set_option maxRecDepth 20000 in
theorem b193_982 (X : ab_X) (d : Nat) (v1 : Value) (x3 : Int32) (y0 : Int32) (h : ab_H) : ab_ex X (d + 1) 193 982 [.ref 81, v1, .ref 29, .int x3] [.int y0] h = ab_ld X h 81 (x3 + 1) (fun w1 => ab_ld X h 81 (x3 + 2) (fun w2 => ab_ld X h 81 (x3 + 3) (fun w3 => (ab_ru X d 171 [.ref 29, .int w1, .int w2, .int w3] h).bind (fun z => ab_ex X (d + 1) 193 1001 [.ref 81, v1, .ref 29, .int x3] (ab_pu z.1 [.int y0]) z.2)))) := (ab_ex_xN X (d + 1) 193 17 982 _ _ _).trans rfl
set_option maxRecDepth 20000 in
theorem b193_1001 (X : ab_X) (d : Nat) (v0 : Value) (v1 : Value) (v2 : Value) (v3 : Value) (y0 : Int32) (y1 : Int32) (h : ab_H) : ab_ex X d 193 1001 [v0, v1, v2, v3] [.int y0, .int y1] h = if y1 = y0 then ab_ex X d 193 1288 [v0, v1, v2, v3] [] h else ab_ex X d 193 1004 [v0, v1, v2, v3] [] h := (ab_ex_xN X d 193 1 1001 _ _ _).trans rfl
set_option maxRecDepth 20000 in
theorem b193_1004 (X : ab_X) (d : Nat) (v0 : Value) (v1 : Value) (v2 : Value) (v3 : Value) (h : ab_H) : ab_ex X d 193 1004 [v0, v1, v2, v3] [] h = some (some (.int 0), h) := (ab_ex_xN X d 193 2 1004 _ _ _).trans rfl
set_option maxRecDepth 20000 in
theorem b193_1006 (X : ab_X) (d : Nat) (v0 : Value) (v2 : Value) (v3 : Value) (h : ab_H) : ab_ex X (d + 1) 193 1006 [v0, .ref 0, v2, v3] [] h = (ab_ru X d 83 [.ref 0] h).bind (fun z => ab_ex X (d + 1) 193 1010 [v0, .ref 0, v2, v3] (ab_pu z.1 []) z.2) := (ab_ex_xN X (d + 1) 193 2 1006 _ _ _).trans rfl
set_option maxRecDepth 20000 in
theorem b193_1010 (X : ab_X) (d : Nat) (v0 : Value) (v1 : Value) (v3 : Value) (y0 : Int32) (h : ab_H) : ab_ex X (d + 1) 193 1010 [v0, v1, .ref 29, v3] [.int y0] h = (ab_ru X d 172 [.ref 29] h).bind (fun z => ab_ex X (d + 1) 193 1014 [v0, v1, .ref 29, v3] (ab_pu z.1 [.int y0]) z.2) := (ab_ex_xN X (d + 1) 193 2 1010 _ _ _).trans rfl
set_option maxRecDepth 20000 in
theorem b193_1014 (X : ab_X) (d : Nat) (v0 : Value) (v1 : Value) (v2 : Value) (v3 : Value) (y0 : Int32) (y1 : Int32) (h : ab_H) : ab_ex X d 193 1014 [v0, v1, v2, v3] [.int y0, .int y1] h = if y1 = y0 then ab_ex X d 193 1288 [v0, v1, v2, v3] [] h else ab_ex X d 193 1017 [v0, v1, v2, v3] [] h := (ab_ex_xN X d 193 1 1014 _ _ _).trans rfl
set_option maxRecDepth 20000 in
theorem b193_1017 (X : ab_X) (d : Nat) (v0 : Value) (v1 : Value) (v2 : Value) (v3 : Value) (h : ab_H) : ab_ex X d 193 1017 [v0, v1, v2, v3] [] h = some (some (.int 0), h) := (ab_ex_xN X d 193 2 1017 _ _ _).trans rfl
set_option maxRecDepth 20000 in
theorem b193_1019 (X : ab_X) (d : Nat) (v2 : Value) (x3 : Int32) (h : ab_H) : ab_ex X (d + 1) 193 1019 [.ref 81, .ref 0, v2, .int x3] [] h = ab_ld X h 81 (x3 + 1) (fun w1 => ab_ld X h 81 (x3 + 2) (fun w2 => (ab_ru X d 84 [.ref 0, .int w1, .int w2] h).bind (fun z => ab_ex X (d + 1) 193 1033 [.ref 81, .ref 0, v2, .int x3] (ab_pu z.1 []) z.2))) := (ab_ex_xN X (d + 1) 193 12 1019 _ _ _).trans rfl
set_option maxRecDepth 20000 in
theorem b193_1033 (X : ab_X) (d : Nat) (v1 : Value) (x3 : Int32) (y0 : Int32) (h : ab_H) : ab_ex X (d + 1) 193 1033 [.ref 81, v1, .ref 29, .int x3] [.int y0] h = ab_ld X h 81 (x3 + 1) (fun w1 => ab_ld X h 81 (x3 + 2) (fun w2 => (ab_ru X d 173 [.ref 29, .int w1, .int w2] h).bind (fun z => ab_ex X (d + 1) 193 1047 [.ref 81, v1, .ref 29, .int x3] (ab_pu z.1 [.int y0]) z.2))) := (ab_ex_xN X (d + 1) 193 12 1033 _ _ _).trans rfl
set_option maxRecDepth 20000 in
theorem b193_1047 (X : ab_X) (d : Nat) (v0 : Value) (v1 : Value) (v2 : Value) (v3 : Value) (y0 : Int32) (y1 : Int32) (h : ab_H) : ab_ex X d 193 1047 [v0, v1, v2, v3] [.int y0, .int y1] h = if y1 = y0 then ab_ex X d 193 1288 [v0, v1, v2, v3] [] h else ab_ex X d 193 1050 [v0, v1, v2, v3] [] h := (ab_ex_xN X d 193 1 1047 _ _ _).trans rfl
set_option maxRecDepth 20000 in
theorem b193_1050 (X : ab_X) (d : Nat) (v0 : Value) (v1 : Value) (v2 : Value) (v3 : Value) (h : ab_H) : ab_ex X d 193 1050 [v0, v1, v2, v3] [] h = some (some (.int 0), h) := (ab_ex_xN X d 193 2 1050 _ _ _).trans rfl
set_option maxRecDepth 20000 in
theorem b193_1052 (X : ab_X) (d : Nat) (v2 : Value) (x3 : Int32) (h : ab_H) : ab_ex X (d + 1) 193 1052 [.ref 81, .ref 0, v2, .int x3] [] h = ab_ld X h 81 (x3 + 1) (fun w1 => (ab_ru X d 86 [.ref 0, .int w1] h).bind (fun z => ab_ex X (d + 1) 193 1061 [.ref 81, .ref 0, v2, .int x3] (ab_pu z.1 []) z.2)) := (ab_ex_xN X (d + 1) 193 7 1052 _ _ _).trans rfl
set_option maxRecDepth 20000 in
theorem b193_1061 (X : ab_X) (d : Nat) (v1 : Value) (x3 : Int32) (y0 : Int32) (h : ab_H) : ab_ex X (d + 1) 193 1061 [.ref 81, v1, .ref 29, .int x3] [.int y0] h = ab_ld X h 81 (x3 + 1) (fun w1 => (ab_ru X d 174 [.ref 29, .int w1] h).bind (fun z => ab_ex X (d + 1) 193 1070 [.ref 81, v1, .ref 29, .int x3] (ab_pu z.1 [.int y0]) z.2)) := (ab_ex_xN X (d + 1) 193 7 1061 _ _ _).trans rfl
set_option maxRecDepth 20000 in
theorem b193_1070 (X : ab_X) (d : Nat) (v0 : Value) (v1 : Value) (v2 : Value) (v3 : Value) (y0 : Int32) (y1 : Int32) (h : ab_H) : ab_ex X d 193 1070 [v0, v1, v2, v3] [.int y0, .int y1] h = if y1 = y0 then ab_ex X d 193 1288 [v0, v1, v2, v3] [] h else ab_ex X d 193 1073 [v0, v1, v2, v3] [] h := (ab_ex_xN X d 193 1 1070 _ _ _).trans rfl
set_option maxRecDepth 20000 in
theorem b193_1073 (X : ab_X) (d : Nat) (v0 : Value) (v1 : Value) (v2 : Value) (v3 : Value) (h : ab_H) : ab_ex X d 193 1073 [v0, v1, v2, v3] [] h = some (some (.int 0), h) := (ab_ex_xN X d 193 2 1073 _ _ _).trans rfl
set_option maxRecDepth 20000 in
theorem b193_1075 (X : ab_X) (d : Nat) (v2 : Value) (x3 : Int32) (h : ab_H) : ab_ex X (d + 1) 193 1075 [.ref 81, .ref 0, v2, .int x3] [] h = ab_ld X h 81 (x3 + 1) (fun w1 => ab_ld X h 81 (x3 + 2) (fun w2 => (ab_ru X d 89 [.ref 0, .int w1, .int w2] h).bind (fun z => ab_ex X (d + 1) 193 1089 [.ref 81, .ref 0, v2, .int x3] (ab_pu z.1 []) z.2))) := (ab_ex_xN X (d + 1) 193 12 1075 _ _ _).trans rfl
set_option maxRecDepth 20000 in
theorem b193_1089 (X : ab_X) (d : Nat) (v1 : Value) (x3 : Int32) (y0 : Int32) (h : ab_H) : ab_ex X (d + 1) 193 1089 [.ref 81, v1, .ref 29, .int x3] [.int y0] h = ab_ld X h 81 (x3 + 1) (fun w1 => ab_ld X h 81 (x3 + 2) (fun w2 => (ab_ru X d 177 [.ref 29, .int w1, .int w2] h).bind (fun z => ab_ex X (d + 1) 193 1103 [.ref 81, v1, .ref 29, .int x3] (ab_pu z.1 [.int y0]) z.2))) := (ab_ex_xN X (d + 1) 193 12 1089 _ _ _).trans rfl
set_option maxRecDepth 20000 in
theorem b193_1103 (X : ab_X) (d : Nat) (v0 : Value) (v1 : Value) (v2 : Value) (v3 : Value) (y0 : Int32) (y1 : Int32) (h : ab_H) : ab_ex X d 193 1103 [v0, v1, v2, v3] [.int y0, .int y1] h = if y1 = y0 then ab_ex X d 193 1288 [v0, v1, v2, v3] [] h else ab_ex X d 193 1106 [v0, v1, v2, v3] [] h := (ab_ex_xN X d 193 1 1103 _ _ _).trans rfl
set_option maxRecDepth 20000 in
theorem b193_1106 (X : ab_X) (d : Nat) (v0 : Value) (v1 : Value) (v2 : Value) (v3 : Value) (h : ab_H) : ab_ex X d 193 1106 [v0, v1, v2, v3] [] h = some (some (.int 0), h) := (ab_ex_xN X d 193 2 1106 _ _ _).trans rfl
set_option maxRecDepth 20000 in
theorem b193_1108 (X : ab_X) (d : Nat) (v2 : Value) (x3 : Int32) (h : ab_H) : ab_ex X (d + 1) 193 1108 [.ref 81, .ref 0, v2, .int x3] [] h = ab_ld X h 81 (x3 + 1) (fun w1 => ab_ld X h 81 (x3 + 2) (fun w2 => (ab_ru X d 91 [.ref 0, .int w1, .int w2] h).bind (fun z => ab_ex X (d + 1) 193 1122 [.ref 81, .ref 0, v2, .int x3] (ab_pu z.1 []) z.2))) := (ab_ex_xN X (d + 1) 193 12 1108 _ _ _).trans rfl
set_option maxRecDepth 20000 in
theorem b193_1122 (X : ab_X) (d : Nat) (v1 : Value) (x3 : Int32) (y0 : Int32) (h : ab_H) : ab_ex X (d + 1) 193 1122 [.ref 81, v1, .ref 29, .int x3] [.int y0] h = ab_ld X h 81 (x3 + 1) (fun w1 => ab_ld X h 81 (x3 + 2) (fun w2 => (ab_ru X d 179 [.ref 29, .int w1, .int w2] h).bind (fun z => ab_ex X (d + 1) 193 1136 [.ref 81, v1, .ref 29, .int x3] (ab_pu z.1 [.int y0]) z.2))) := (ab_ex_xN X (d + 1) 193 12 1122 _ _ _).trans rfl
set_option maxRecDepth 20000 in
theorem b193_1136 (X : ab_X) (d : Nat) (v0 : Value) (v1 : Value) (v2 : Value) (v3 : Value) (y0 : Int32) (y1 : Int32) (h : ab_H) : ab_ex X d 193 1136 [v0, v1, v2, v3] [.int y0, .int y1] h = if y1 = y0 then ab_ex X d 193 1288 [v0, v1, v2, v3] [] h else ab_ex X d 193 1139 [v0, v1, v2, v3] [] h := (ab_ex_xN X d 193 1 1136 _ _ _).trans rfl
set_option maxRecDepth 20000 in
theorem b193_1139 (X : ab_X) (d : Nat) (v0 : Value) (v1 : Value) (v2 : Value) (v3 : Value) (h : ab_H) : ab_ex X d 193 1139 [v0, v1, v2, v3] [] h = some (some (.int 0), h) := (ab_ex_xN X d 193 2 1139 _ _ _).trans rfl
set_option maxRecDepth 20000 in
theorem b193_1141 (X : ab_X) (d : Nat) (v2 : Value) (x3 : Int32) (h : ab_H) : ab_ex X (d + 1) 193 1141 [.ref 81, .ref 0, v2, .int x3] [] h = ab_ld X h 81 (x3 + 1) (fun w1 => ab_ld X h 81 (x3 + 2) (fun w2 => (ab_ru X d 92 [.ref 0, .int w1, .int w2] h).bind (fun z => ab_ex X (d + 1) 193 1155 [.ref 81, .ref 0, v2, .int x3] (ab_pu z.1 []) z.2))) := (ab_ex_xN X (d + 1) 193 12 1141 _ _ _).trans rfl
set_option maxRecDepth 20000 in
theorem b193_1155 (X : ab_X) (d : Nat) (v1 : Value) (x3 : Int32) (y0 : Int32) (h : ab_H) : ab_ex X (d + 1) 193 1155 [.ref 81, v1, .ref 29, .int x3] [.int y0] h = ab_ld X h 81 (x3 + 1) (fun w1 => ab_ld X h 81 (x3 + 2) (fun w2 => (ab_ru X d 180 [.ref 29, .int w1, .int w2] h).bind (fun z => ab_ex X (d + 1) 193 1169 [.ref 81, v1, .ref 29, .int x3] (ab_pu z.1 [.int y0]) z.2))) := (ab_ex_xN X (d + 1) 193 12 1155 _ _ _).trans rfl
set_option maxRecDepth 20000 in
theorem b193_1169 (X : ab_X) (d : Nat) (v0 : Value) (v1 : Value) (v2 : Value) (v3 : Value) (y0 : Int32) (y1 : Int32) (h : ab_H) : ab_ex X d 193 1169 [v0, v1, v2, v3] [.int y0, .int y1] h = if y1 = y0 then ab_ex X d 193 1288 [v0, v1, v2, v3] [] h else ab_ex X d 193 1172 [v0, v1, v2, v3] [] h := (ab_ex_xN X d 193 1 1169 _ _ _).trans rfl
set_option maxRecDepth 20000 in
theorem b193_1172 (X : ab_X) (d : Nat) (v0 : Value) (v1 : Value) (v2 : Value) (v3 : Value) (h : ab_H) : ab_ex X d 193 1172 [v0, v1, v2, v3] [] h = some (some (.int 0), h) := (ab_ex_xN X d 193 2 1172 _ _ _).trans rfl
set_option maxRecDepth 20000 in
theorem b193_1174 (X : ab_X) (d : Nat) (v0 : Value) (v2 : Value) (v3 : Value) (h : ab_H) : ab_ex X (d + 1) 193 1174 [v0, .ref 0, v2, v3] [] h = (ab_ru X d 94 [.ref 0] h).bind (fun z => ab_ex X (d + 1) 193 1178 [v0, .ref 0, v2, v3] (ab_pu z.1 []) z.2) := (ab_ex_xN X (d + 1) 193 2 1174 _ _ _).trans rfl
set_option maxRecDepth 20000 in
theorem b193_1178 (X : ab_X) (d : Nat) (v0 : Value) (v1 : Value) (v3 : Value) (y0 : Int32) (h : ab_H) : ab_ex X (d + 1) 193 1178 [v0, v1, .ref 29, v3] [.int y0] h = (ab_ru X d 181 [.ref 29] h).bind (fun z => ab_ex X (d + 1) 193 1182 [v0, v1, .ref 29, v3] (ab_pu z.1 [.int y0]) z.2) := (ab_ex_xN X (d + 1) 193 2 1178 _ _ _).trans rfl
set_option maxRecDepth 20000 in
theorem b193_1182 (X : ab_X) (d : Nat) (v0 : Value) (v1 : Value) (v2 : Value) (v3 : Value) (y0 : Int32) (y1 : Int32) (h : ab_H) : ab_ex X d 193 1182 [v0, v1, v2, v3] [.int y0, .int y1] h = if y1 = y0 then ab_ex X d 193 1288 [v0, v1, v2, v3] [] h else ab_ex X d 193 1185 [v0, v1, v2, v3] [] h := (ab_ex_xN X d 193 1 1182 _ _ _).trans rfl
set_option maxRecDepth 20000 in
theorem b193_1185 (X : ab_X) (d : Nat) (v0 : Value) (v1 : Value) (v2 : Value) (v3 : Value) (h : ab_H) : ab_ex X d 193 1185 [v0, v1, v2, v3] [] h = some (some (.int 0), h) := (ab_ex_xN X d 193 2 1185 _ _ _).trans rfl
set_option maxRecDepth 20000 in
theorem b193_1187 (X : ab_X) (d : Nat) (v0 : Value) (v2 : Value) (v3 : Value) (h : ab_H) : ab_ex X (d + 1) 193 1187 [v0, .ref 0, v2, v3] [] h = (ab_ru X d 95 [.ref 0] h).bind (fun z => ab_ex X (d + 1) 193 1191 [v0, .ref 0, v2, v3] (ab_pu z.1 []) z.2) := (ab_ex_xN X (d + 1) 193 2 1187 _ _ _).trans rfl
set_option maxRecDepth 20000 in
theorem b193_1191 (X : ab_X) (d : Nat) (v0 : Value) (v1 : Value) (v3 : Value) (k0 : Int64) (h : ab_H) : ab_ex X (d + 1) 193 1191 [v0, v1, .ref 29, v3] [.long k0] h = (ab_ru X d 182 [.ref 29] h).bind (fun z => ab_ex X (d + 1) 193 1195 [v0, v1, .ref 29, v3] (ab_pu z.1 [.long k0]) z.2) := (ab_ex_xN X (d + 1) 193 2 1191 _ _ _).trans rfl
set_option maxRecDepth 20000 in
theorem b193_1195 (X : ab_X) (d : Nat) (v0 : Value) (v1 : Value) (v2 : Value) (v3 : Value) (k0 : Int64) (k1 : Int64) (h : ab_H) : ab_ex X d 193 1195 [v0, v1, v2, v3] [.long k0, .long k1] h = if (lg_cmp k1 k0) = 0 then ab_ex X d 193 1288 [v0, v1, v2, v3] [] h else ab_ex X d 193 1199 [v0, v1, v2, v3] [] h := (ab_ex_xN X d 193 2 1195 _ _ _).trans rfl
set_option maxRecDepth 20000 in
theorem b193_1199 (X : ab_X) (d : Nat) (v0 : Value) (v1 : Value) (v2 : Value) (v3 : Value) (h : ab_H) : ab_ex X d 193 1199 [v0, v1, v2, v3] [] h = some (some (.int 0), h) := (ab_ex_xN X d 193 2 1199 _ _ _).trans rfl
set_option maxRecDepth 20000 in
theorem b193_1201 (X : ab_X) (d : Nat) (v0 : Value) (v2 : Value) (v3 : Value) (h : ab_H) : ab_ex X (d + 1) 193 1201 [v0, .ref 0, v2, v3] [] h = (ab_ru X d 96 [.ref 0] h).bind (fun z => ab_ex X (d + 1) 193 1205 [v0, .ref 0, v2, v3] (ab_pu z.1 []) z.2) := (ab_ex_xN X (d + 1) 193 2 1201 _ _ _).trans rfl
set_option maxRecDepth 20000 in
theorem b193_1205 (X : ab_X) (d : Nat) (v0 : Value) (v1 : Value) (v3 : Value) (k0 : Int64) (h : ab_H) : ab_ex X (d + 1) 193 1205 [v0, v1, .ref 29, v3] [.long k0] h = (ab_ru X d 183 [.ref 29] h).bind (fun z => ab_ex X (d + 1) 193 1209 [v0, v1, .ref 29, v3] (ab_pu z.1 [.long k0]) z.2) := (ab_ex_xN X (d + 1) 193 2 1205 _ _ _).trans rfl
set_option maxRecDepth 20000 in
theorem b193_1209 (X : ab_X) (d : Nat) (v0 : Value) (v1 : Value) (v2 : Value) (v3 : Value) (k0 : Int64) (k1 : Int64) (h : ab_H) : ab_ex X d 193 1209 [v0, v1, v2, v3] [.long k0, .long k1] h = if (lg_cmp k1 k0) = 0 then ab_ex X d 193 1288 [v0, v1, v2, v3] [] h else ab_ex X d 193 1213 [v0, v1, v2, v3] [] h := (ab_ex_xN X d 193 2 1209 _ _ _).trans rfl
set_option maxRecDepth 20000 in
theorem b193_1213 (X : ab_X) (d : Nat) (v0 : Value) (v1 : Value) (v2 : Value) (v3 : Value) (h : ab_H) : ab_ex X d 193 1213 [v0, v1, v2, v3] [] h = some (some (.int 0), h) := (ab_ex_xN X d 193 2 1213 _ _ _).trans rfl
set_option maxRecDepth 20000 in
theorem b193_1215 (X : ab_X) (d : Nat) (v2 : Value) (x3 : Int32) (h : ab_H) : ab_ex X (d + 1) 193 1215 [.ref 81, .ref 0, v2, .int x3] [] h = ab_ld X h 81 (x3 + 1) (fun w1 => (ab_ru X d 97 [.ref 0, .int w1] h).bind (fun z => ab_ex X (d + 1) 193 1224 [.ref 81, .ref 0, v2, .int x3] (ab_pu z.1 []) z.2)) := (ab_ex_xN X (d + 1) 193 7 1215 _ _ _).trans rfl
set_option maxRecDepth 20000 in
theorem b193_1224 (X : ab_X) (d : Nat) (v1 : Value) (x3 : Int32) (y0 : Int32) (h : ab_H) : ab_ex X (d + 1) 193 1224 [.ref 81, v1, .ref 29, .int x3] [.int y0] h = ab_ld X h 81 (x3 + 1) (fun w1 => (ab_ru X d 184 [.ref 29, .int w1] h).bind (fun z => ab_ex X (d + 1) 193 1233 [.ref 81, v1, .ref 29, .int x3] (ab_pu z.1 [.int y0]) z.2)) := (ab_ex_xN X (d + 1) 193 7 1224 _ _ _).trans rfl
set_option maxRecDepth 20000 in
theorem b193_1233 (X : ab_X) (d : Nat) (v0 : Value) (v1 : Value) (v2 : Value) (v3 : Value) (y0 : Int32) (y1 : Int32) (h : ab_H) : ab_ex X d 193 1233 [v0, v1, v2, v3] [.int y0, .int y1] h = if y1 = y0 then ab_ex X d 193 1288 [v0, v1, v2, v3] [] h else ab_ex X d 193 1236 [v0, v1, v2, v3] [] h := (ab_ex_xN X d 193 1 1233 _ _ _).trans rfl
set_option maxRecDepth 20000 in
theorem b193_1236 (X : ab_X) (d : Nat) (v0 : Value) (v1 : Value) (v2 : Value) (v3 : Value) (h : ab_H) : ab_ex X d 193 1236 [v0, v1, v2, v3] [] h = some (some (.int 0), h) := (ab_ex_xN X d 193 2 1236 _ _ _).trans rfl
set_option maxRecDepth 20000 in
theorem b193_1238 (X : ab_X) (d : Nat) (v0 : Value) (v2 : Value) (v3 : Value) (h : ab_H) : ab_ex X (d + 1) 193 1238 [v0, .ref 0, v2, v3] [] h = (ab_ru X d 101 [.ref 0] h).bind (fun z => ab_ex X (d + 1) 193 1242 [v0, .ref 0, v2, v3] (ab_pu z.1 []) z.2) := (ab_ex_xN X (d + 1) 193 2 1238 _ _ _).trans rfl
set_option maxRecDepth 20000 in
theorem b193_1242 (X : ab_X) (d : Nat) (v0 : Value) (v1 : Value) (v3 : Value) (y0 : Int32) (h : ab_H) : ab_ex X (d + 1) 193 1242 [v0, v1, .ref 29, v3] [.int y0] h = (ab_ru X d 188 [.ref 29] h).bind (fun z => ab_ex X (d + 1) 193 1246 [v0, v1, .ref 29, v3] (ab_pu z.1 [.int y0]) z.2) := (ab_ex_xN X (d + 1) 193 2 1242 _ _ _).trans rfl
set_option maxRecDepth 20000 in
theorem b193_1246 (X : ab_X) (d : Nat) (v0 : Value) (v1 : Value) (v2 : Value) (v3 : Value) (y0 : Int32) (y1 : Int32) (h : ab_H) : ab_ex X d 193 1246 [v0, v1, v2, v3] [.int y0, .int y1] h = if y1 = y0 then ab_ex X d 193 1288 [v0, v1, v2, v3] [] h else ab_ex X d 193 1249 [v0, v1, v2, v3] [] h := (ab_ex_xN X d 193 1 1246 _ _ _).trans rfl
set_option maxRecDepth 20000 in
theorem b193_1249 (X : ab_X) (d : Nat) (v0 : Value) (v1 : Value) (v2 : Value) (v3 : Value) (h : ab_H) : ab_ex X d 193 1249 [v0, v1, v2, v3] [] h = some (some (.int 0), h) := (ab_ex_xN X d 193 2 1249 _ _ _).trans rfl
set_option maxRecDepth 20000 in
theorem b193_1251 (X : ab_X) (d : Nat) (v2 : Value) (x3 : Int32) (h : ab_H) : ab_ex X (d + 1) 193 1251 [.ref 81, .ref 0, v2, .int x3] [] h = ab_ld X h 81 (x3 + 1) (fun w1 => (ab_ru X d 102 [.ref 0, .int w1] h).bind (fun z => ab_ex X (d + 1) 193 1260 [.ref 81, .ref 0, v2, .int x3] (ab_pu z.1 []) z.2)) := (ab_ex_xN X (d + 1) 193 7 1251 _ _ _).trans rfl
set_option maxRecDepth 20000 in
theorem b193_1260 (X : ab_X) (d : Nat) (v1 : Value) (x3 : Int32) (y0 : Int32) (h : ab_H) : ab_ex X (d + 1) 193 1260 [.ref 81, v1, .ref 29, .int x3] [.int y0] h = ab_ld X h 81 (x3 + 1) (fun w1 => (ab_ru X d 189 [.ref 29, .int w1] h).bind (fun z => ab_ex X (d + 1) 193 1269 [.ref 81, v1, .ref 29, .int x3] (ab_pu z.1 [.int y0]) z.2)) := (ab_ex_xN X (d + 1) 193 7 1260 _ _ _).trans rfl
set_option maxRecDepth 20000 in
theorem b193_1269 (X : ab_X) (d : Nat) (v0 : Value) (v1 : Value) (v2 : Value) (v3 : Value) (y0 : Int32) (y1 : Int32) (h : ab_H) : ab_ex X d 193 1269 [v0, v1, v2, v3] [.int y0, .int y1] h = if y1 = y0 then ab_ex X d 193 1288 [v0, v1, v2, v3] [] h else ab_ex X d 193 1272 [v0, v1, v2, v3] [] h := (ab_ex_xN X d 193 1 1269 _ _ _).trans rfl
set_option maxRecDepth 20000 in
theorem b193_1272 (X : ab_X) (d : Nat) (v0 : Value) (v1 : Value) (v2 : Value) (v3 : Value) (h : ab_H) : ab_ex X d 193 1272 [v0, v1, v2, v3] [] h = some (some (.int 0), h) := (ab_ex_xN X d 193 2 1272 _ _ _).trans rfl
set_option maxRecDepth 20000 in
theorem b193_1274 (X : ab_X) (d : Nat) (v0 : Value) (v2 : Value) (v3 : Value) (h : ab_H) : ab_ex X (d + 1) 193 1274 [v0, .ref 0, v2, v3] [] h = (ab_ru X d 103 [.ref 0] h).bind (fun z => ab_ex X (d + 1) 193 1278 [v0, .ref 0, v2, v3] (ab_pu z.1 []) z.2) := (ab_ex_xN X (d + 1) 193 2 1274 _ _ _).trans rfl
set_option maxRecDepth 20000 in
theorem b193_1278 (X : ab_X) (d : Nat) (v0 : Value) (v1 : Value) (v3 : Value) (k0 : Int64) (h : ab_H) : ab_ex X (d + 1) 193 1278 [v0, v1, .ref 29, v3] [.long k0] h = (ab_ru X d 190 [.ref 29] h).bind (fun z => ab_ex X (d + 1) 193 1282 [v0, v1, .ref 29, v3] (ab_pu z.1 [.long k0]) z.2) := (ab_ex_xN X (d + 1) 193 2 1278 _ _ _).trans rfl
set_option maxRecDepth 20000 in
theorem b193_1282 (X : ab_X) (d : Nat) (v0 : Value) (v1 : Value) (v2 : Value) (v3 : Value) (k0 : Int64) (k1 : Int64) (h : ab_H) : ab_ex X d 193 1282 [v0, v1, v2, v3] [.long k0, .long k1] h = if (lg_cmp k1 k0) = 0 then ab_ex X d 193 1288 [v0, v1, v2, v3] [] h else ab_ex X d 193 1286 [v0, v1, v2, v3] [] h := (ab_ex_xN X d 193 2 1282 _ _ _).trans rfl
set_option maxRecDepth 20000 in
theorem b193_1286 (X : ab_X) (d : Nat) (v0 : Value) (v1 : Value) (v2 : Value) (v3 : Value) (h : ab_H) : ab_ex X d 193 1286 [v0, v1, v2, v3] [] h = some (some (.int 0), h) := (ab_ex_xN X d 193 2 1286 _ _ _).trans rfl
set_option maxRecDepth 20000 in
theorem b193_1288 (X : ab_X) (d : Nat) (v0 : Value) (v1 : Value) (v2 : Value) (x3 : Int32) (h : ab_H) : ab_ex X d 193 1288 [v0, v1, v2, .int x3] [] h = ab_ex X d 193 18 [v0, v1, v2, .int (x3 + 6)] [] h := (ab_ex_xN X d 193 2 1288 _ _ _).trans rfl
set_option maxRecDepth 20000 in
theorem b193_1294 (X : ab_X) (d : Nat) (v0 : Value) (v1 : Value) (v2 : Value) (v3 : Value) (h : ab_H) : ab_ex X d 193 1294 [v0, v1, v2, v3] [] h = some (some (.int 1), h) := (ab_ex_xN X d 193 2 1294 _ _ _).trans rfl
