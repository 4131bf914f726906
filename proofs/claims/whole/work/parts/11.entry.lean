theorem inX0_init {d : Nat} {G : px_H} {Q : px_Q} {a : Nat} (h : pr d 0 (G.1 + 57, G.2.1 + 336) Q 0 [some (.ref a), none] [] G) : pcal (d + 1) 0 [.ref a] G Q := pcal_of rfl rfl rfl rfl rfl h
theorem inX0_forget {d : Nat} {G : px_H} {Q : px_Q} {a : Nat} (h : pr d 1 (G.1 + 0, G.2.1 + 0) Q 0 [some (.ref a)] [] G) : pcal (d + 1) 1 [.ref a] G Q := pcal_of rfl rfl rfl rfl rfl h
theorem inX0_remember {d : Nat} {G : px_H} {Q : px_Q} {a x0 : Nat} (h : pr d 2 (G.1 + 0, G.2.1 + 0) Q 0 [some (.ref a), some (.ref x0)] [] G) : pcal (d + 1) 2 [.ref a, .ref x0] G Q := pcal_of rfl rfl rfl rfl rfl h
theorem inX0_dropFirst {d : Nat} {G : px_H} {Q : px_Q} {a : Nat} (h : pr d 3 (G.1 + 0, G.2.1 + 0) Q 0 [some (.ref a), none, none] [] G) : pcal (d + 1) 3 [.ref a] G Q := pcal_of rfl rfl rfl rfl rfl h
theorem inX0_takeBack {d : Nat} {G : px_H} {Q : px_Q} {a x0 : Nat} (h : pr d 4 (G.1 + 0, G.2.1 + 0) Q 0 [some (.ref a), some (.ref x0)] [] G) : pcal (d + 1) 4 [.ref a, .ref x0] G Q := pcal_of rfl rfl rfl rfl rfl h
theorem inX1_init {d : Nat} {G : px_H} {Q : px_Q} {a : Nat} (h : pr d 5 (G.1 + 5, G.2.1 + 30) Q 0 [some (.ref a)] [] G) : pcal (d + 1) 5 [.ref a] G Q := pcal_of rfl rfl rfl rfl rfl h
theorem inX1_clear {d : Nat} {G : px_H} {Q : px_Q} {a : Nat} (h : pr d 6 (G.1 + 0, G.2.1 + 0) Q 0 [some (.ref a)] [] G) : pcal (d + 1) 6 [.ref a] G Q := pcal_of rfl rfl rfl rfl rfl h
theorem inX1_hasPlace {d : Nat} {G : px_H} {Q : px_Q} {a : Nat} {x0 : Int32} (h : pr d 7 (G.1 + 0, G.2.1 + 0) Q 0 [some (.ref a), some (.int x0)] [] G) : pcal (d + 1) 7 [.ref a, .int x0] G Q := pcal_of rfl rfl rfl rfl rfl h
theorem inX1_hasDitch {d : Nat} {G : px_H} {Q : px_Q} {a : Nat} {x0 : Int32} (h : pr d 8 (G.1 + 0, G.2.1 + 0) Q 0 [some (.ref a), some (.int x0)] [] G) : pcal (d + 1) 8 [.ref a, .int x0] G Q := pcal_of rfl rfl rfl rfl rfl h
theorem inX1_allDitches {d : Nat} {G : px_H} {Q : px_Q} {a : Nat} (h : pr d 9 (G.1 + 0, G.2.1 + 0) Q 0 [some (.ref a)] [] G) : pcal (d + 1) 9 [.ref a] G Q := pcal_of rfl rfl rfl rfl rfl h
theorem inX1_placesOf {d : Nat} {G : px_H} {Q : px_Q} {a : Nat} {x0 : Int32} (h : pr d 10 (G.1 + 0, G.2.1 + 0) Q 0 [some (.ref a), some (.int x0), none, none] [] G) : pcal (d + 1) 10 [.ref a, .int x0] G Q := pcal_of rfl rfl rfl rfl rfl h
theorem inX1_leastOpen {d : Nat} {G : px_H} {Q : px_Q} {a : Nat} {x0 x1 : Int32} (h : pr d 11 (G.1 + 0, G.2.1 + 0) Q 0 [some (.ref a), some (.int x0), some (.int x1), none] [] G) : pcal (d + 1) 11 [.ref a, .int x0, .int x1] G Q := pcal_of rfl rfl rfl rfl rfl h
theorem inX1_addPlace {d : Nat} {G : px_H} {Q : px_Q} {a : Nat} {x0 x1 x2 : Int32} (h : pr d 12 (G.1 + 0, G.2.1 + 0) Q 0 [some (.ref a), some (.int x0), some (.int x1), some (.int x2)] [] G) : pcal (d + 1) 12 [.ref a, .int x0, .int x1, .int x2] G Q := pcal_of rfl rfl rfl rfl rfl h
theorem inX1_addDitch {d : Nat} {G : px_H} {Q : px_Q} {a : Nat} {x0 x1 x2 : Int32} (h : pr d 13 (G.1 + 0, G.2.1 + 0) Q 0 [some (.ref a), some (.int x0), some (.int x1), some (.int x2)] [] G) : pcal (d + 1) 13 [.ref a, .int x0, .int x1, .int x2] G Q := pcal_of rfl rfl rfl rfl rfl h
theorem inX1_canDig {d : Nat} {G : px_H} {Q : px_Q} {a : Nat} (h : pr d 14 (G.1 + 0, G.2.1 + 0) Q 0 [some (.ref a), none, none] [] G) : pcal (d + 1) 14 [.ref a] G Q := pcal_of rfl rfl rfl rfl rfl h
theorem inX1_canDigFrom {d : Nat} {G : px_H} {Q : px_Q} {a : Nat} {x0 : Int32} (h : pr d 15 (G.1 + 0, G.2.1 + 0) Q 0 [some (.ref a), some (.int x0), none] [] G) : pcal (d + 1) 15 [.ref a, .int x0] G Q := pcal_of rfl rfl rfl rfl rfl h
theorem inX1_canDigTo {d : Nat} {G : px_H} {Q : px_Q} {a : Nat} {x0 x1 : Int32} (h : pr d 16 (G.1 + 0, G.2.1 + 0) Q 0 [some (.ref a), some (.int x0), some (.int x1)] [] G) : pcal (d + 1) 16 [.ref a, .int x0, .int x1] G Q := pcal_of rfl rfl rfl rfl rfl h
theorem inX1_isJoined {d : Nat} {G : px_H} {Q : px_Q} {a : Nat} {x0 x1 : Int32} (h : pr d 17 (G.1 + 0, G.2.1 + 0) Q 0 [some (.ref a), some (.int x0), some (.int x1), none] [] G) : pcal (d + 1) 17 [.ref a, .int x0, .int x1] G Q := pcal_of rfl rfl rfl rfl rfl h
theorem inX2_init {d : Nat} {G : px_H} {Q : px_Q} {a : Nat} (h : pr d 18 (G.1 + 0, G.2.1 + 0) Q 0 [some (.ref a)] [] G) : pcal (d + 1) 18 [.ref a] G Q := pcal_of rfl rfl rfl rfl rfl h
theorem inX2_read {d : Nat} {G : px_H} {Q : px_Q} {a x0 x1 : Nat} {x2 : Int32} (h : pr d 19 (G.1 + 0, G.2.1 + 0) Q 0 [some (.ref a), some (.ref x0), some (.ref x1), some (.int x2), none] [] G) : pcal (d + 1) 19 [.ref a, .ref x0, .ref x1, .int x2] G Q := pcal_of rfl rfl rfl rfl rfl h
theorem inX2_fits {d : Nat} {G : px_H} {Q : px_Q} {a x0 : Nat} {x1 : Int32} (h : pr d 20 (G.1 + 0, G.2.1 + 0) Q 0 [some (.ref a), some (.ref x0), some (.int x1), none] [] G) : pcal (d + 1) 20 [.ref a, .ref x0, .int x1] G Q := pcal_of rfl rfl rfl rfl rfl h
theorem inX2_fitsPart {d : Nat} {G : px_H} {Q : px_Q} {a x0 : Nat} {x1 : Int32} (h : pr d 21 (G.1 + 0, G.2.1 + 0) Q 0 [some (.ref a), some (.ref x0), some (.int x1)] [] G) : pcal (d + 1) 21 [.ref a, .ref x0, .int x1] G Q := pcal_of rfl rfl rfl rfl rfl h
theorem inX2_take {d : Nat} {G : px_H} {Q : px_Q} {a x0 : Nat} {x1 : Int32} (h : pr d 22 (G.1 + 0, G.2.1 + 0) Q 0 [some (.ref a), some (.ref x0), some (.int x1), none] [] G) : pcal (d + 1) 22 [.ref a, .ref x0, .int x1] G Q := pcal_of rfl rfl rfl rfl rfl h
theorem inX2_takePart {d : Nat} {G : px_H} {Q : px_Q} {a x0 : Nat} {x1 : Int32} (h : pr d 23 (G.1 + 0, G.2.1 + 0) Q 0 [some (.ref a), some (.ref x0), some (.int x1)] [] G) : pcal (d + 1) 23 [.ref a, .ref x0, .int x1] G Q := pcal_of rfl rfl rfl rfl rfl h
theorem inX3_init {d : Nat} {G : px_H} {Q : px_Q} {a : Nat} (h : pr d 24 (G.1 + 3, G.2.1 + 18) Q 0 [some (.ref a)] [] G) : pcal (d + 1) 24 [.ref a] G Q := pcal_of rfl rfl rfl rfl rfl h
theorem inX3_begin {d : Nat} {G : px_H} {Q : px_Q} {a x0 : Nat} (h : pr d 25 (G.1 + 0, G.2.1 + 0) Q 0 [some (.ref a), some (.ref x0), none, none] [] G) : pcal (d + 1) 25 [.ref a, .ref x0] G Q := pcal_of rfl rfl rfl rfl rfl h
theorem inX3_copy {d : Nat} {G : px_H} {Q : px_Q} {a x0 : Nat} (h : pr d 26 (G.1 + 0, G.2.1 + 0) Q 0 [some (.ref a), some (.ref x0), none] [] G) : pcal (d + 1) 26 [.ref a, .ref x0] G Q := pcal_of rfl rfl rfl rfl rfl h
theorem inX3_addOneTo {d : Nat} {G : px_H} {Q : px_Q} {a : Nat} {x0 : Int32} (h : pr d 27 (G.1 + 0, G.2.1 + 0) Q 0 [some (.ref a), some (.int x0), none] [] G) : pcal (d + 1) 27 [.ref a, .int x0] G Q := pcal_of rfl rfl rfl rfl rfl h
theorem inX3_isDone {d : Nat} {G : px_H} {Q : px_Q} {a : Nat} (h : pr d 28 (G.1 + 0, G.2.1 + 0) Q 0 [some (.ref a)] [] G) : pcal (d + 1) 28 [.ref a] G Q := pcal_of rfl rfl rfl rfl rfl h
theorem inX3_allDung {d : Nat} {G : px_H} {Q : px_Q} {a : Nat} (h : pr d 29 (G.1 + 0, G.2.1 + 0) Q 0 [some (.ref a), none, none] [] G) : pcal (d + 1) 29 [.ref a] G Q := pcal_of rfl rfl rfl rfl rfl h
theorem inX3_allBuckets {d : Nat} {G : px_H} {Q : px_Q} {a : Nat} (h : pr d 30 (G.1 + 0, G.2.1 + 0) Q 0 [some (.ref a), none, none] [] G) : pcal (d + 1) 30 [.ref a] G Q := pcal_of rfl rfl rfl rfl rfl h
theorem inX3_withDung {d : Nat} {G : px_H} {Q : px_Q} {a : Nat} (h : pr d 31 (G.1 + 0, G.2.1 + 0) Q 0 [some (.ref a), none, none] [] G) : pcal (d + 1) 31 [.ref a] G Q := pcal_of rfl rfl rfl rfl rfl h
theorem inX3_wetTowns {d : Nat} {G : px_H} {Q : px_Q} {a : Nat} (h : pr d 32 (G.1 + 0, G.2.1 + 0) Q 0 [some (.ref a), none, none] [] G) : pcal (d + 1) 32 [.ref a] G Q := pcal_of rfl rfl rfl rfl rfl h
theorem inX3_worth {d : Nat} {G : px_H} {Q : px_Q} {a x0 : Nat} (h : pr d 33 (G.1 + 0, G.2.1 + 0) Q 0 [some (.ref a), some (.ref x0), none, none] [] G) : pcal (d + 1) 33 [.ref a, .ref x0] G Q := pcal_of rfl rfl rfl rfl rfl h
theorem inX4_init {d : Nat} {G : px_H} {Q : px_Q} {a : Nat} (h : pr d 34 (G.1 + 3, G.2.1 + 18) Q 0 [some (.ref a)] [] G) : pcal (d + 1) 34 [.ref a] G Q := pcal_of rfl rfl rfl rfl rfl h
theorem inX4_note {d : Nat} {G : px_H} {Q : px_Q} {a : Nat} {x0 x1 x2 : Int32} (h : pr d 35 (G.1 + 0, G.2.1 + 0) Q 0 [some (.ref a), some (.int x0), some (.int x1), some (.int x2)] [] G) : pcal (d + 1) 35 [.ref a, .int x0, .int x1, .int x2] G Q := pcal_of rfl rfl rfl rfl rfl h
theorem inX4_lastTime {d : Nat} {G : px_H} {Q : px_Q} {a : Nat} (h : pr d 36 (G.1 + 0, G.2.1 + 0) Q 0 [some (.ref a), none, none] [] G) : pcal (d + 1) 36 [.ref a] G Q := pcal_of rfl rfl rfl rfl rfl h
theorem inX4_agree {d : Nat} {G : px_H} {Q : px_Q} {a x0 x1 : Nat} {x2 : Int32} (h : pr d 37 (G.1 + 0, G.2.1 + 0) Q 0 [some (.ref a), some (.ref x0), some (.ref x1), some (.int x2), none] [] G) : pcal (d + 1) 37 [.ref a, .ref x0, .ref x1, .int x2] G Q := pcal_of rfl rfl rfl rfl rfl h
theorem inX5_init {d : Nat} {G : px_H} {Q : px_Q} {a : Nat} (h : pr d 38 (G.1 + 1, G.2.1 + 6) Q 0 [some (.ref a)] [] G) : pcal (d + 1) 38 [.ref a] G Q := pcal_of rfl rfl rfl rfl rfl h
theorem inX5_pass {d : Nat} {G : px_H} {Q : px_Q} {a x0 x1 : Nat} {x2 : Int32} (h : pr d 39 (G.1 + 0, G.2.1 + 0) Q 0 [some (.ref a), some (.ref x0), some (.ref x1), some (.int x2), none, none, none, none] [] G) : pcal (d + 1) 39 [.ref a, .ref x0, .ref x1, .int x2] G Q := pcal_of rfl rfl rfl rfl rfl h
theorem inX5_arrive {d : Nat} {G : px_H} {Q : px_Q} {a x0 x1 : Nat} {x2 x3 : Int32} (h : pr d 40 (G.1 + 0, G.2.1 + 0) Q 0 [some (.ref a), some (.ref x0), some (.ref x1), some (.int x2), some (.int x3), none] [] G) : pcal (d + 1) 40 [.ref a, .ref x0, .ref x1, .int x2, .int x3] G Q := pcal_of rfl rfl rfl rfl rfl h
theorem inX6_init {d : Nat} {G : px_H} {Q : px_Q} {a : Nat} (h : pr d 41 (G.1 + 121, G.2.1 + 739) Q 0 [some (.ref a), none] [] G) : pcal (d + 1) 41 [.ref a] G Q := pcal_of rfl rfl rfl rfl rfl h
theorem inX6_write {d : Nat} {G : px_H} {Q : px_Q} {a : Nat} {x0 : Int32} (h : pr d 42 (G.1 + 0, G.2.1 + 0) Q 0 [some (.ref a), some (.int x0)] [] G) : pcal (d + 1) 42 [.ref a, .int x0] G Q := pcal_of rfl rfl rfl rfl rfl h
theorem inX6_wipe {d : Nat} {G : px_H} {Q : px_Q} {a : Nat} (h : pr d 43 (G.1 + 0, G.2.1 + 0) Q 0 [some (.ref a), none] [] G) : pcal (d + 1) 43 [.ref a] G Q := pcal_of rfl rfl rfl rfl rfl h
theorem inX6_fault {d : Nat} {G : px_H} {Q : px_Q} {a : Nat} (h : pr d 44 (G.1 + 0, G.2.1 + 0) Q 0 [some (.ref a)] [] G) : pcal (d + 1) 44 [.ref a] G Q := pcal_of rfl rfl rfl rfl rfl h
theorem inX6_land {d : Nat} {G : px_H} {Q : px_Q} {a : Nat} (h : pr d 45 (G.1 + 0, G.2.1 + 0) Q 0 [some (.ref a), none] [] G) : pcal (d + 1) 45 [.ref a] G Q := pcal_of rfl rfl rfl rfl rfl h
theorem inX6_place {d : Nat} {G : px_H} {Q : px_Q} {a : Nat} {x0 x1 : Int32} (h : pr d 46 (G.1 + 0, G.2.1 + 0) Q 0 [some (.ref a), some (.int x0), some (.int x1)] [] G) : pcal (d + 1) 46 [.ref a, .int x0, .int x1] G Q := pcal_of rfl rfl rfl rfl rfl h
theorem inX6_ditch {d : Nat} {G : px_H} {Q : px_Q} {a : Nat} {x0 x1 : Int32} (h : pr d 47 (G.1 + 0, G.2.1 + 0) Q 0 [some (.ref a), some (.int x0), some (.int x1)] [] G) : pcal (d + 1) 47 [.ref a, .int x0, .int x1] G Q := pcal_of rfl rfl rfl rfl rfl h
theorem inX6_hour {d : Nat} {G : px_H} {Q : px_Q} {a : Nat} (h : pr d 48 (G.1 + 0, G.2.1 + 0) Q 0 [some (.ref a)] [] G) : pcal (d + 1) 48 [.ref a] G Q := pcal_of rfl rfl rfl rfl rfl h
theorem inX6_turn {d : Nat} {G : px_H} {Q : px_Q} {a : Nat} {x0 : Int32} (h : pr d 49 (G.1 + 0, G.2.1 + 0) Q 0 [some (.ref a), some (.int x0)] [] G) : pcal (d + 1) 49 [.ref a, .int x0] G Q := pcal_of rfl rfl rfl rfl rfl h
theorem inX6_rain {d : Nat} {G : px_H} {Q : px_Q} {a : Nat} {x0 x1 : Int32} (h : pr d 50 (G.1 + 0, G.2.1 + 0) Q 0 [some (.ref a), some (.int x0), some (.int x1)] [] G) : pcal (d + 1) 50 [.ref a, .int x0, .int x1] G Q := pcal_of rfl rfl rfl rfl rfl h
theorem inX6_undo {d : Nat} {G : px_H} {Q : px_Q} {a : Nat} (h : pr d 51 (G.1 + 0, G.2.1 + 0) Q 0 [some (.ref a)] [] G) : pcal (d + 1) 51 [.ref a] G Q := pcal_of rfl rfl rfl rfl rfl h
theorem inX6_judge {d : Nat} {G : px_H} {Q : px_Q} {a : Nat} {x0 x1 : Int32} (h : pr d 52 (G.1 + 0, G.2.1 + 0) Q 0 [some (.ref a), some (.int x0), some (.int x1), none, none] [] G) : pcal (d + 1) 52 [.ref a, .int x0, .int x1] G Q := pcal_of rfl rfl rfl rfl rfl h
theorem inX6_readSteps {d : Nat} {G : px_H} {Q : px_Q} {a : Nat} {x0 x1 : Int32} (h : pr d 53 (G.1 + 0, G.2.1 + 0) Q 0 [some (.ref a), some (.int x0), some (.int x1), none, none] [] G) : pcal (d + 1) 53 [.ref a, .int x0, .int x1] G Q := pcal_of rfl rfl rfl rfl rfl h
theorem inX6_canStep {d : Nat} {G : px_H} {Q : px_Q} {a x0 : Nat} {x1 : Int32} (h : pr d 54 (G.1 + 0, G.2.1 + 0) Q 0 [some (.ref a), some (.ref x0), some (.int x1)] [] G) : pcal (d + 1) 54 [.ref a, .ref x0, .int x1] G Q := pcal_of rfl rfl rfl rfl rfl h
theorem inX6_behind {d : Nat} {G : px_H} {Q : px_Q} {a : Nat} {x0 x1 x2 : Int32} (h : pr d 55 (G.1 + 0, G.2.1 + 0) Q 0 [some (.ref a), some (.int x0), some (.int x1), some (.int x2)] [] G) : pcal (d + 1) 55 [.ref a, .int x0, .int x1, .int x2] G Q := pcal_of rfl rfl rfl rfl rfl h
theorem inX6_by {d : Nat} {G : px_H} {Q : px_Q} {a : Nat} {x0 x1 x2 : Int32} (h : pr d 56 (G.1 + 0, G.2.1 + 0) Q 0 [some (.ref a), some (.int x0), some (.int x1), some (.int x2)] [] G) : pcal (d + 1) 56 [.ref a, .int x0, .int x1, .int x2] G Q := pcal_of rfl rfl rfl rfl rfl h
theorem inX6_once {d : Nat} {G : px_H} {Q : px_Q} {a : Nat} {x0 x1 : Int32} (h : pr d 57 (G.1 + 0, G.2.1 + 0) Q 0 [some (.ref a), some (.int x0), some (.int x1), none] [] G) : pcal (d + 1) 57 [.ref a, .int x0, .int x1] G Q := pcal_of rfl rfl rfl rfl rfl h
theorem inX6_twice {d : Nat} {G : px_H} {Q : px_Q} {a : Nat} {x0 x1 : Int32} (h : pr d 58 (G.1 + 0, G.2.1 + 0) Q 0 [some (.ref a), some (.int x0), some (.int x1), none, none, none] [] G) : pcal (d + 1) 58 [.ref a, .int x0, .int x1] G Q := pcal_of rfl rfl rfl rfl rfl h
theorem inX6_richest {d : Nat} {G : px_H} {Q : px_Q} {a : Nat} {x0 : Int32} (h : pr d 59 (G.1 + 0, G.2.1 + 0) Q 0 [some (.ref a), some (.int x0), none, none, none, none] [] G) : pcal (d + 1) 59 [.ref a, .int x0] G Q := pcal_of rfl rfl rfl rfl rfl h
theorem inX6_barred {d : Nat} {G : px_H} {Q : px_Q} {a : Nat} {x0 : Int32} (h : pr d 60 (G.1 + 0, G.2.1 + 0) Q 0 [some (.ref a), some (.int x0), none, none, none] [] G) : pcal (d + 1) 60 [.ref a, .int x0] G Q := pcal_of rfl rfl rfl rfl rfl h
theorem inX6_free {d : Nat} {G : px_H} {Q : px_Q} {a : Nat} {x0 x1 : Int32} (h : pr d 61 (G.1 + 0, G.2.1 + 0) Q 0 [some (.ref a), some (.int x0), some (.int x1), none, none, none] [] G) : pcal (d + 1) 61 [.ref a, .int x0, .int x1] G Q := pcal_of rfl rfl rfl rfl rfl h
theorem inX6_stuck {d : Nat} {G : px_H} {Q : px_Q} {a : Nat} {x0 x1 : Int32} (h : pr d 62 (G.1 + 0, G.2.1 + 0) Q 0 [some (.ref a), some (.int x0), some (.int x1), none, none] [] G) : pcal (d + 1) 62 [.ref a, .int x0, .int x1] G Q := pcal_of rfl rfl rfl rfl rfl h
theorem inX6_leastBit {d : Nat} {G : px_H} {Q : px_Q} {x0 : Int32} (h : pr d 63 (G.1 + 0, G.2.1 + 0) Q 0 [some (.int x0), none] [] G) : pcal (d + 1) 63 [.int x0] G Q := pcal_of rfl rfl rfl rfl rfl h
theorem inX6_areHours {d : Nat} {G : px_H} {Q : px_Q} {x0 : Int32} (h : pr d 64 (G.1 + 0, G.2.1 + 0) Q 0 [some (.int x0)] [] G) : pcal (d + 1) 64 [.int x0] G Q := pcal_of rfl rfl rfl rfl rfl h
theorem inX6_tryTurning {d : Nat} {G : px_H} {Q : px_Q} {a : Nat} {x0 x1 : Int32} (h : pr d 65 (G.1 + 0, G.2.1 + 0) Q 0 [some (.ref a), some (.int x0), some (.int x1)] [] G) : pcal (d + 1) 65 [.ref a, .int x0, .int x1] G Q := pcal_of rfl rfl rfl rfl rfl h
theorem inX6_passHours {d : Nat} {G : px_H} {Q : px_Q} {a x0 : Nat} {x1 x2 : Int32} (h : pr d 66 (G.1 + 0, G.2.1 + 0) Q 0 [some (.ref a), some (.ref x0), some (.int x1), some (.int x2), none] [] G) : pcal (d + 1) 66 [.ref a, .ref x0, .int x1, .int x2] G Q := pcal_of rfl rfl rfl rfl rfl h
theorem inX6_fewestTurned {d : Nat} {G : px_H} {Q : px_Q} {a : Nat} {x0 x1 : Int32} (h : pr d 67 (G.1 + 0, G.2.1 + 0) Q 0 [some (.ref a), some (.int x0), some (.int x1), none, none, none, none, none] [] G) : pcal (d + 1) 67 [.ref a, .int x0, .int x1] G Q := pcal_of rfl rfl rfl rfl rfl h
theorem inX6_fewestBySecond {d : Nat} {G : px_H} {Q : px_Q} {a : Nat} {x0 x1 x2 x3 : Int32} (h : pr d 68 (G.1 + 0, G.2.1 + 0) Q 0 [some (.ref a), some (.int x0), some (.int x1), some (.int x2), some (.int x3), none, none, none, none, none] [] G) : pcal (d + 1) 68 [.ref a, .int x0, .int x1, .int x2, .int x3] G Q := pcal_of rfl rfl rfl rfl rfl h
theorem inX6_share {d : Nat} {G : px_H} {Q : px_Q} {a : Nat} {x0 x1 x2 : Int32} (h : pr d 69 (G.1 + 0, G.2.1 + 0) Q 0 [some (.ref a), some (.int x0), some (.int x1), some (.int x2), none, none, none, none, none, none, none, none] [] G) : pcal (d + 1) 69 [.ref a, .int x0, .int x1, .int x2] G Q := pcal_of rfl rfl rfl rfl rfl h
theorem inX6_chance {d : Nat} {G : px_H} {Q : px_Q} {a : Nat} {x0 x1 x2 : Int32} (h : pr d 70 (G.1 + 0, G.2.1 + 0) Q 0 [some (.ref a), some (.int x0), some (.int x1), some (.int x2)] [] G) : pcal (d + 1) 70 [.ref a, .int x0, .int x1, .int x2] G Q := pcal_of rfl rfl rfl rfl rfl h
theorem inX6_mean {d : Nat} {G : px_H} {Q : px_Q} {a : Nat} {x0 x1 x2 : Int32} (h : pr d 71 (G.1 + 0, G.2.1 + 0) Q 0 [some (.ref a), some (.int x0), some (.int x1), some (.int x2)] [] G) : pcal (d + 1) 71 [.ref a, .int x0, .int x1, .int x2] G Q := pcal_of rfl rfl rfl rfl rfl h
theorem inX6_dungHalting {d : Nat} {G : px_H} {Q : px_Q} {a : Nat} {x0 x1 : Int32} (h : pr d 72 (G.1 + 0, G.2.1 + 0) Q 0 [some (.ref a), some (.int x0), some (.int x1)] [] G) : pcal (d + 1) 72 [.ref a, .int x0, .int x1] G Q := pcal_of rfl rfl rfl rfl rfl h
theorem inX6_overRains {d : Nat} {G : px_H} {Q : px_Q} {a : Nat} {x0 x1 x2 x3 : Int32} (h : pr d 73 (G.1 + 0, G.2.1 + 0) Q 0 [some (.ref a), some (.int x0), some (.int x1), some (.int x2), some (.int x3), none, none, none, none, none] [] G) : pcal (d + 1) 73 [.ref a, .int x0, .int x1, .int x2, .int x3] G Q := pcal_of rfl rfl rfl rfl rfl h
theorem inX6_weightOf {d : Nat} {G : px_H} {Q : px_Q} {x0 x1 x2 : Int32} (h : pr d 74 (G.1 + 0, G.2.1 + 0) Q 0 [some (.int x0), some (.int x1), some (.int x2), none] [] G) : pcal (d + 1) 74 [.int x0, .int x1, .int x2] G Q := pcal_of rfl rfl rfl rfl rfl h
theorem inX6_power {d : Nat} {G : px_H} {Q : px_Q} {x0 x1 : Int32} (h : pr d 75 (G.1 + 0, G.2.1 + 0) Q 0 [some (.int x0), some (.int x1), none, none] [] G) : pcal (d + 1) 75 [.int x0, .int x1] G Q := pcal_of rfl rfl rfl rfl rfl h
theorem inX6_fraction {d : Nat} {G : px_H} {Q : px_Q} {x0 x1 x2 : Int32} (h : pr d 76 (G.1 + 0, G.2.1 + 0) Q 0 [some (.int x0), some (.int x1), some (.int x2), none] [] G) : pcal (d + 1) 76 [.int x0, .int x1, .int x2] G Q := pcal_of rfl rfl rfl rfl rfl h
theorem inX6_greatestDivisor {d : Nat} {G : px_H} {Q : px_Q} {x0 x1 : Int32} (h : pr d 77 (G.1 + 0, G.2.1 + 0) Q 0 [some (.int x0), some (.int x1), none, none, none, none] [] G) : pcal (d + 1) 77 [.int x0, .int x1] G Q := pcal_of rfl rfl rfl rfl rfl h
theorem inX6_see {d : Nat} {G : px_H} {Q : px_Q} {a : Nat} {x0 x1 x2 : Int32} (h : pr d 78 (G.1 + 0, G.2.1 + 0) Q 0 [some (.ref a), some (.int x0), some (.int x1), some (.int x2)] [] G) : pcal (d + 1) 78 [.ref a, .int x0, .int x1, .int x2] G Q := pcal_of rfl rfl rfl rfl rfl h
theorem inX6_unsee {d : Nat} {G : px_H} {Q : px_Q} {a : Nat} (h : pr d 79 (G.1 + 0, G.2.1 + 0) Q 0 [some (.ref a), none] [] G) : pcal (d + 1) 79 [.ref a] G Q := pcal_of rfl rfl rfl rfl rfl h
theorem inX6_fit {d : Nat} {G : px_H} {Q : px_Q} {a : Nat} {x0 : Int32} (h : pr d 80 (G.1 + 0, G.2.1 + 0) Q 0 [some (.ref a), some (.int x0), none, none, none, none, none] [] G) : pcal (d + 1) 80 [.ref a, .int x0] G Q := pcal_of rfl rfl rfl rfl rfl h
theorem inX6_isAsSeen {d : Nat} {G : px_H} {Q : px_Q} {a : Nat} {x0 : Int32} (h : pr d 81 (G.1 + 0, G.2.1 + 0) Q 0 [some (.ref a), some (.int x0), none, none] [] G) : pcal (d + 1) 81 [.ref a, .int x0] G Q := pcal_of rfl rfl rfl rfl rfl h
theorem inX6_kings {d : Nat} {G : px_H} {Q : px_Q} {a : Nat} {x0 x1 x2 : Int32} (h : pr d 82 (G.1 + 0, G.2.1 + 0) Q 0 [some (.ref a), some (.int x0), some (.int x1), some (.int x2), none, none, none, none] [] G) : pcal (d + 1) 82 [.ref a, .int x0, .int x1, .int x2] G Q := pcal_of rfl rfl rfl rfl rfl h
theorem inX6_leftByMove {d : Nat} {G : px_H} {Q : px_Q} {a : Nat} {x0 x1 x2 x3 : Int32} (h : pr d 83 (G.1 + 0, G.2.1 + 0) Q 0 [some (.ref a), some (.int x0), some (.int x1), some (.int x2), some (.int x3), none] [] G) : pcal (d + 1) 83 [.ref a, .int x0, .int x1, .int x2, .int x3] G Q := pcal_of rfl rfl rfl rfl rfl h
theorem inX6_leftFrom {d : Nat} {G : px_H} {Q : px_Q} {a : Nat} {x0 x1 x2 : Int32} (h : pr d 84 (G.1 + 0, G.2.1 + 0) Q 0 [some (.ref a), some (.int x0), some (.int x1), some (.int x2), none, none, none, none] [] G) : pcal (d + 1) 84 [.ref a, .int x0, .int x1, .int x2] G Q := pcal_of rfl rfl rfl rfl rfl h
theorem inX6_seed {d : Nat} {G : px_H} {Q : px_Q} {a : Nat} {x0 : Int64} (h : pr d 85 (G.1 + 0, G.2.1 + 0) Q 0 [some (.ref a), some (.long x0), none, none, none] [] G) : pcal (d + 1) 85 [.ref a, .long x0] G Q := pcal_of rfl rfl rfl rfl rfl h
theorem inX6_days {d : Nat} {G : px_H} {Q : px_Q} {a : Nat} {x0 : Int32} (h : pr d 86 (G.1 + 0, G.2.1 + 0) Q 0 [some (.ref a), some (.int x0), none, none, none] [] G) : pcal (d + 1) 86 [.ref a, .int x0] G Q := pcal_of rfl rfl rfl rfl rfl h
theorem inX6_keep {d : Nat} {G : px_H} {Q : px_Q} {a : Nat} {x0 : Int32} (h : pr d 87 (G.1 + 0, G.2.1 + 0) Q 0 [some (.ref a), some (.int x0)] [] G) : pcal (d + 1) 87 [.ref a, .int x0] G Q := pcal_of rfl rfl rfl rfl rfl h
theorem inX6_again {d : Nat} {G : px_H} {Q : px_Q} {a : Nat} {x0 : Int32} (h : pr d 88 (G.1 + 0, G.2.1 + 0) Q 0 [some (.ref a), some (.int x0)] [] G) : pcal (d + 1) 88 [.ref a, .int x0] G Q := pcal_of rfl rfl rfl rfl rfl h
theorem inX6_count {d : Nat} {G : px_H} {Q : px_Q} {a : Nat} {x0 : Int32} (h : pr d 89 (G.1 + 0, G.2.1 + 0) Q 0 [some (.ref a), some (.int x0)] [] G) : pcal (d + 1) 89 [.ref a, .int x0] G Q := pcal_of rfl rfl rfl rfl rfl h
theorem inX7_init {d : Nat} {G : px_H} {Q : px_Q} {a : Nat} (h : pr d 90 (G.1 + 22, G.2.1 + 632) Q 0 [some (.ref a)] [] G) : pcal (d + 1) 90 [.ref a] G Q := pcal_of rfl rfl rfl rfl rfl h
theorem inX7_in {d : Nat} {G : px_H} {Q : px_Q} {x0 x1 x2 : Int64} (h : pr d 91 (G.1 + 0, G.2.1 + 0) Q 0 [some (.long x0), none, some (.long x1), none, some (.long x2), none] [] G) : pcal (d + 1) 91 [.long x0, .long x1, .long x2] G Q := pcal_of rfl rfl rfl rfl rfl h
theorem inX7_has {d : Nat} {G : px_H} {Q : px_Q} {x0 x1 : Int32} (h : pr d 92 (G.1 + 0, G.2.1 + 0) Q 0 [some (.int x0), some (.int x1)] [] G) : pcal (d + 1) 92 [.int x0, .int x1] G Q := pcal_of rfl rfl rfl rfl rfl h
theorem inX7_ones {d : Nat} {G : px_H} {Q : px_Q} {x0 : Int32} (h : pr d 93 (G.1 + 0, G.2.1 + 0) Q 0 [some (.int x0), none, none] [] G) : pcal (d + 1) 93 [.int x0] G Q := pcal_of rfl rfl rfl rfl rfl h
theorem inX7_write {d : Nat} {G : px_H} {Q : px_Q} {a : Nat} {x0 : Int32} (h : pr d 94 (G.1 + 0, G.2.1 + 0) Q 0 [some (.ref a), some (.int x0)] [] G) : pcal (d + 1) 94 [.ref a, .int x0] G Q := pcal_of rfl rfl rfl rfl rfl h
theorem inX7_wipe {d : Nat} {G : px_H} {Q : px_Q} {a : Nat} (h : pr d 95 (G.1 + 0, G.2.1 + 0) Q 0 [some (.ref a), none] [] G) : pcal (d + 1) 95 [.ref a] G Q := pcal_of rfl rfl rfl rfl rfl h
theorem inX7_figure {d : Nat} {G : px_H} {Q : px_Q} {a : Nat} {x0 : Int32} (h : pr d 96 (G.1 + 0, G.2.1 + 0) Q 0 [some (.ref a), some (.int x0), none] [] G) : pcal (d + 1) 96 [.ref a, .int x0] G Q := pcal_of rfl rfl rfl rfl rfl h
theorem inX7_left {d : Nat} {G : px_H} {Q : px_Q} {a : Nat} {x0 : Int32} (h : pr d 97 (G.1 + 0, G.2.1 + 0) Q 0 [some (.ref a), some (.int x0)] [] G) : pcal (d + 1) 97 [.ref a, .int x0] G Q := pcal_of rfl rfl rfl rfl rfl h
theorem inX7_begins {d : Nat} {G : px_H} {Q : px_Q} {a : Nat} (h : pr d 98 (G.1 + 0, G.2.1 + 0) Q 0 [some (.ref a), none, none] [] G) : pcal (d + 1) 98 [.ref a] G Q := pcal_of rfl rfl rfl rfl rfl h
theorem inX7_readText {d : Nat} {G : px_H} {Q : px_Q} {a : Nat} (h : pr d 99 (G.1 + 0, G.2.1 + 0) Q 0 [some (.ref a)] [] G) : pcal (d + 1) 99 [.ref a] G Q := pcal_of rfl rfl rfl rfl rfl h
theorem inX7_readPart {d : Nat} {G : px_H} {Q : px_Q} {a : Nat} {x0 : Int32} (h : pr d 100 (G.1 + 0, G.2.1 + 0) Q 0 [some (.ref a), some (.int x0), none, none, none, none] [] G) : pcal (d + 1) 100 [.ref a, .int x0] G Q := pcal_of rfl rfl rfl rfl rfl h
theorem inX7_fault {d : Nat} {G : px_H} {Q : px_Q} {a : Nat} (h : pr d 101 (G.1 + 0, G.2.1 + 0) Q 0 [some (.ref a)] [] G) : pcal (d + 1) 101 [.ref a] G Q := pcal_of rfl rfl rfl rfl rfl h
theorem inX7_land {d : Nat} {G : px_H} {Q : px_Q} {a : Nat} (h : pr d 102 (G.1 + 0, G.2.1 + 0) Q 0 [some (.ref a), none, none] [] G) : pcal (d + 1) 102 [.ref a] G Q := pcal_of rfl rfl rfl rfl rfl h
theorem inX7_isPlace {d : Nat} {G : px_H} {Q : px_Q} {a : Nat} {x0 : Int32} (h : pr d 103 (G.1 + 0, G.2.1 + 0) Q 0 [some (.ref a), some (.int x0)] [] G) : pcal (d + 1) 103 [.ref a, .int x0] G Q := pcal_of rfl rfl rfl rfl rfl h
theorem inX7_isDitch {d : Nat} {G : px_H} {Q : px_Q} {a : Nat} {x0 : Int32} (h : pr d 104 (G.1 + 0, G.2.1 + 0) Q 0 [some (.ref a), some (.int x0)] [] G) : pcal (d + 1) 104 [.ref a, .int x0] G Q := pcal_of rfl rfl rfl rfl rfl h
theorem inX7_leastOpen {d : Nat} {G : px_H} {Q : px_Q} {a : Nat} {x0 x1 : Int32} (h : pr d 105 (G.1 + 0, G.2.1 + 0) Q 0 [some (.ref a), some (.int x0), some (.int x1), none] [] G) : pcal (d + 1) 105 [.ref a, .int x0, .int x1] G Q := pcal_of rfl rfl rfl rfl rfl h
theorem inX7_place {d : Nat} {G : px_H} {Q : px_Q} {a : Nat} {x0 x1 : Int32} (h : pr d 106 (G.1 + 0, G.2.1 + 0) Q 0 [some (.ref a), some (.int x0), some (.int x1)] [] G) : pcal (d + 1) 106 [.ref a, .int x0, .int x1] G Q := pcal_of rfl rfl rfl rfl rfl h
theorem inX7_ditch {d : Nat} {G : px_H} {Q : px_Q} {a : Nat} {x0 x1 : Int32} (h : pr d 107 (G.1 + 0, G.2.1 + 0) Q 0 [some (.ref a), some (.int x0), some (.int x1)] [] G) : pcal (d + 1) 107 [.ref a, .int x0, .int x1] G Q := pcal_of rfl rfl rfl rfl rfl h
theorem inX7_pass {d : Nat} {G : px_H} {Q : px_Q} {a : Nat} {x0 x1 : Int32} (h : pr d 108 (G.1 + 0, G.2.1 + 0) Q 0 [some (.ref a), some (.int x0), some (.int x1), none, none, none, none, none, none] [] G) : pcal (d + 1) 108 [.ref a, .int x0, .int x1] G Q := pcal_of rfl rfl rfl rfl rfl h
theorem inX7_passes {d : Nat} {G : px_H} {Q : px_Q} {a : Nat} {x0 x1 x2 : Int32} (h : pr d 109 (G.1 + 0, G.2.1 + 0) Q 0 [some (.ref a), some (.int x0), some (.int x1), some (.int x2), none] [] G) : pcal (d + 1) 109 [.ref a, .int x0, .int x1, .int x2] G Q := pcal_of rfl rfl rfl rfl rfl h
theorem inX7_wet {d : Nat} {G : px_H} {Q : px_Q} {a : Nat} {x0 : Int32} (h : pr d 110 (G.1 + 0, G.2.1 + 0) Q 0 [some (.ref a), some (.int x0), none, none] [] G) : pcal (d + 1) 110 [.ref a, .int x0] G Q := pcal_of rfl rfl rfl rfl rfl h
theorem inX7_allDung {d : Nat} {G : px_H} {Q : px_Q} {a : Nat} {x0 : Int32} (h : pr d 111 (G.1 + 0, G.2.1 + 0) Q 0 [some (.ref a), some (.int x0), none, none] [] G) : pcal (d + 1) 111 [.ref a, .int x0] G Q := pcal_of rfl rfl rfl rfl rfl h
theorem inX7_worth {d : Nat} {G : px_H} {Q : px_Q} {a : Nat} {x0 : Int32} (h : pr d 112 (G.1 + 0, G.2.1 + 0) Q 0 [some (.ref a), some (.int x0), none, none] [] G) : pcal (d + 1) 112 [.ref a, .int x0] G Q := pcal_of rfl rfl rfl rfl rfl h
theorem inX7_does {d : Nat} {G : px_H} {Q : px_Q} {a : Nat} {x0 : Int32} (h : pr d 113 (G.1 + 0, G.2.1 + 0) Q 0 [some (.ref a), some (.int x0)] [] G) : pcal (d + 1) 113 [.ref a, .int x0] G Q := pcal_of rfl rfl rfl rfl rfl h
theorem inX7_lay {d : Nat} {G : px_H} {Q : px_Q} {a : Nat} {x0 x1 : Int32} (h : pr d 114 (G.1 + 0, G.2.1 + 0) Q 0 [some (.ref a), some (.int x0), some (.int x1), none] [] G) : pcal (d + 1) 114 [.ref a, .int x0, .int x1] G Q := pcal_of rfl rfl rfl rfl rfl h
theorem inX7_keepAct {d : Nat} {G : px_H} {Q : px_Q} {a : Nat} (h : pr d 115 (G.1 + 0, G.2.1 + 0) Q 0 [some (.ref a), none] [] G) : pcal (d + 1) 115 [.ref a] G Q := pcal_of rfl rfl rfl rfl rfl h
theorem inX7_hour {d : Nat} {G : px_H} {Q : px_Q} {a : Nat} (h : pr d 116 (G.1 + 0, G.2.1 + 0) Q 0 [some (.ref a)] [] G) : pcal (d + 1) 116 [.ref a] G Q := pcal_of rfl rfl rfl rfl rfl h
theorem inX7_turn {d : Nat} {G : px_H} {Q : px_Q} {a : Nat} {x0 : Int32} (h : pr d 117 (G.1 + 0, G.2.1 + 0) Q 0 [some (.ref a), some (.int x0)] [] G) : pcal (d + 1) 117 [.ref a, .int x0] G Q := pcal_of rfl rfl rfl rfl rfl h
theorem inX7_rain {d : Nat} {G : px_H} {Q : px_Q} {a : Nat} {x0 x1 : Int32} (h : pr d 118 (G.1 + 0, G.2.1 + 0) Q 0 [some (.ref a), some (.int x0), some (.int x1)] [] G) : pcal (d + 1) 118 [.ref a, .int x0, .int x1] G Q := pcal_of rfl rfl rfl rfl rfl h
theorem inX7_undo {d : Nat} {G : px_H} {Q : px_Q} {a : Nat} (h : pr d 119 (G.1 + 0, G.2.1 + 0) Q 0 [some (.ref a), none] [] G) : pcal (d + 1) 119 [.ref a] G Q := pcal_of rfl rfl rfl rfl rfl h
theorem inX7_tenTo {d : Nat} {G : px_H} {Q : px_Q} {x0 : Int32} (h : pr d 120 (G.1 + 0, G.2.1 + 0) Q 0 [some (.int x0), none, none] [] G) : pcal (d + 1) 120 [.int x0] G Q := pcal_of rfl rfl rfl rfl rfl h
theorem inX7_judge {d : Nat} {G : px_H} {Q : px_Q} {a : Nat} {x0 x1 : Int32} (h : pr d 121 (G.1 + 0, G.2.1 + 0) Q 0 [some (.ref a), some (.int x0), some (.int x1), none, none, none] [] G) : pcal (d + 1) 121 [.ref a, .int x0, .int x1] G Q := pcal_of rfl rfl rfl rfl rfl h
theorem inX7_behind {d : Nat} {G : px_H} {Q : px_Q} {a : Nat} {x0 x1 x2 : Int32} (h : pr d 122 (G.1 + 0, G.2.1 + 0) Q 0 [some (.ref a), some (.int x0), some (.int x1), some (.int x2)] [] G) : pcal (d + 1) 122 [.ref a, .int x0, .int x1, .int x2] G Q := pcal_of rfl rfl rfl rfl rfl h
theorem inX7_run {d : Nat} {G : px_H} {Q : px_Q} {a : Nat} {x0 x1 : Int32} (h : pr d 123 (G.1 + 0, G.2.1 + 0) Q 0 [some (.ref a), some (.int x0), some (.int x1)] [] G) : pcal (d + 1) 123 [.ref a, .int x0, .int x1] G Q := pcal_of rfl rfl rfl rfl rfl h
theorem inX7_by {d : Nat} {G : px_H} {Q : px_Q} {a : Nat} {x0 x1 x2 : Int32} (h : pr d 124 (G.1 + 0, G.2.1 + 0) Q 0 [some (.ref a), some (.int x0), some (.int x1), some (.int x2)] [] G) : pcal (d + 1) 124 [.ref a, .int x0, .int x1, .int x2] G Q := pcal_of rfl rfl rfl rfl rfl h
theorem inX7_turned {d : Nat} {G : px_H} {Q : px_Q} {a : Nat} {x0 : Int32} (h : pr d 125 (G.1 + 0, G.2.1 + 0) Q 0 [some (.ref a), some (.int x0)] [] G) : pcal (d + 1) 125 [.ref a, .int x0] G Q := pcal_of rfl rfl rfl rfl rfl h
theorem inX7_onceBy {d : Nat} {G : px_H} {Q : px_Q} {a : Nat} {x0 x1 : Int32} (h : pr d 126 (G.1 + 0, G.2.1 + 0) Q 0 [some (.ref a), some (.int x0), some (.int x1), none, none, none, none] [] G) : pcal (d + 1) 126 [.ref a, .int x0, .int x1] G Q := pcal_of rfl rfl rfl rfl rfl h
theorem inX7_once {d : Nat} {G : px_H} {Q : px_Q} {a : Nat} {x0 x1 : Int32} (h : pr d 127 (G.1 + 0, G.2.1 + 0) Q 0 [some (.ref a), some (.int x0), some (.int x1), none] [] G) : pcal (d + 1) 127 [.ref a, .int x0, .int x1] G Q := pcal_of rfl rfl rfl rfl rfl h
theorem inX7_twice {d : Nat} {G : px_H} {Q : px_Q} {a : Nat} {x0 x1 : Int32} (h : pr d 128 (G.1 + 0, G.2.1 + 0) Q 0 [some (.ref a), some (.int x0), some (.int x1), none, none, none, none] [] G) : pcal (d + 1) 128 [.ref a, .int x0, .int x1] G Q := pcal_of rfl rfl rfl rfl rfl h
theorem inX7_richest {d : Nat} {G : px_H} {Q : px_Q} {a : Nat} {x0 : Int32} (h : pr d 129 (G.1 + 0, G.2.1 + 0) Q 0 [some (.ref a), some (.int x0), none, none, none, none] [] G) : pcal (d + 1) 129 [.ref a, .int x0] G Q := pcal_of rfl rfl rfl rfl rfl h
theorem inX7_barred {d : Nat} {G : px_H} {Q : px_Q} {a : Nat} {x0 : Int32} (h : pr d 130 (G.1 + 0, G.2.1 + 0) Q 0 [some (.ref a), some (.int x0), none, none, none] [] G) : pcal (d + 1) 130 [.ref a, .int x0] G Q := pcal_of rfl rfl rfl rfl rfl h
theorem inX7_free {d : Nat} {G : px_H} {Q : px_Q} {a : Nat} {x0 x1 : Int32} (h : pr d 131 (G.1 + 0, G.2.1 + 0) Q 0 [some (.ref a), some (.int x0), some (.int x1), none, none] [] G) : pcal (d + 1) 131 [.ref a, .int x0, .int x1] G Q := pcal_of rfl rfl rfl rfl rfl h
theorem inX7_stuck {d : Nat} {G : px_H} {Q : px_Q} {a : Nat} {x0 x1 : Int32} (h : pr d 132 (G.1 + 0, G.2.1 + 0) Q 0 [some (.ref a), some (.int x0), some (.int x1), none, none] [] G) : pcal (d + 1) 132 [.ref a, .int x0, .int x1] G Q := pcal_of rfl rfl rfl rfl rfl h
theorem inX7_factorial {d : Nat} {G : px_H} {Q : px_Q} {x0 : Int32} (h : pr d 133 (G.1 + 0, G.2.1 + 0) Q 0 [some (.int x0), none, none] [] G) : pcal (d + 1) 133 [.int x0] G Q := pcal_of rfl rfl rfl rfl rfl h
theorem inX7_common {d : Nat} {G : px_H} {Q : px_Q} {x0 x1 : Int32} (h : pr d 134 (G.1 + 0, G.2.1 + 0) Q 0 [some (.int x0), some (.int x1), none, none, none] [] G) : pcal (d + 1) 134 [.int x0, .int x1] G Q := pcal_of rfl rfl rfl rfl rfl h
theorem inX7_dams {d : Nat} {G : px_H} {Q : px_Q} {a : Nat} (h : pr d 135 (G.1 + 0, G.2.1 + 0) Q 0 [some (.ref a), none, none] [] G) : pcal (d + 1) 135 [.ref a] G Q := pcal_of rfl rfl rfl rfl rfl h
theorem inX7_dungBy {d : Nat} {G : px_H} {Q : px_Q} {a : Nat} {x0 x1 : Int32} (h : pr d 136 (G.1 + 0, G.2.1 + 0) Q 0 [some (.ref a), some (.int x0), some (.int x1)] [] G) : pcal (d + 1) 136 [.ref a, .int x0, .int x1] G Q := pcal_of rfl rfl rfl rfl rfl h
theorem inX7_share {d : Nat} {G : px_H} {Q : px_Q} {a : Nat} {x0 x1 x2 : Int32} (h : pr d 137 (G.1 + 0, G.2.1 + 0) Q 0 [some (.ref a), some (.int x0), some (.int x1), some (.int x2), none, none, none, none] [] G) : pcal (d + 1) 137 [.ref a, .int x0, .int x1, .int x2] G Q := pcal_of rfl rfl rfl rfl rfl h
theorem inX7_parts {d : Nat} {G : px_H} {Q : px_Q} {a : Nat} {x0 x1 x2 : Int32} (h : pr d 138 (G.1 + 0, G.2.1 + 0) Q 0 [some (.ref a), some (.int x0), some (.int x1), some (.int x2), none, none, none, none] [] G) : pcal (d + 1) 138 [.ref a, .int x0, .int x1, .int x2] G Q := pcal_of rfl rfl rfl rfl rfl h
theorem inX7_chance {d : Nat} {G : px_H} {Q : px_Q} {a : Nat} {x0 x1 x2 : Int32} (h : pr d 139 (G.1 + 0, G.2.1 + 0) Q 0 [some (.ref a), some (.int x0), some (.int x1), some (.int x2), none, none] [] G) : pcal (d + 1) 139 [.ref a, .int x0, .int x1, .int x2] G Q := pcal_of rfl rfl rfl rfl rfl h
theorem inX7_mean {d : Nat} {G : px_H} {Q : px_Q} {a : Nat} {x0 x1 x2 : Int32} (h : pr d 140 (G.1 + 0, G.2.1 + 0) Q 0 [some (.ref a), some (.int x0), some (.int x1), some (.int x2), none, none] [] G) : pcal (d + 1) 140 [.ref a, .int x0, .int x1, .int x2] G Q := pcal_of rfl rfl rfl rfl rfl h
theorem inX7_see {d : Nat} {G : px_H} {Q : px_Q} {a : Nat} {x0 x1 x2 : Int32} (h : pr d 141 (G.1 + 0, G.2.1 + 0) Q 0 [some (.ref a), some (.int x0), some (.int x1), some (.int x2)] [] G) : pcal (d + 1) 141 [.ref a, .int x0, .int x1, .int x2] G Q := pcal_of rfl rfl rfl rfl rfl h
theorem inX7_unsee {d : Nat} {G : px_H} {Q : px_Q} {a : Nat} (h : pr d 142 (G.1 + 0, G.2.1 + 0) Q 0 [some (.ref a), none] [] G) : pcal (d + 1) 142 [.ref a] G Q := pcal_of rfl rfl rfl rfl rfl h
theorem inX7_isSeen {d : Nat} {G : px_H} {Q : px_Q} {a : Nat} {x0 : Int32} (h : pr d 143 (G.1 + 0, G.2.1 + 0) Q 0 [some (.ref a), some (.int x0), none, none] [] G) : pcal (d + 1) 143 [.ref a, .int x0] G Q := pcal_of rfl rfl rfl rfl rfl h
theorem inX7_fit {d : Nat} {G : px_H} {Q : px_Q} {a : Nat} {x0 : Int32} (h : pr d 144 (G.1 + 0, G.2.1 + 0) Q 0 [some (.ref a), some (.int x0), none, none, none, none] [] G) : pcal (d + 1) 144 [.ref a, .int x0] G Q := pcal_of rfl rfl rfl rfl rfl h
theorem inX7_kings {d : Nat} {G : px_H} {Q : px_Q} {a : Nat} {x0 x1 x2 : Int32} (h : pr d 145 (G.1 + 0, G.2.1 + 0) Q 0 [some (.ref a), some (.int x0), some (.int x1), some (.int x2), none, none, none] [] G) : pcal (d + 1) 145 [.ref a, .int x0, .int x1, .int x2] G Q := pcal_of rfl rfl rfl rfl rfl h
theorem inX7_seed {d : Nat} {G : px_H} {Q : px_Q} {a : Nat} {x0 : Int64} (h : pr d 146 (G.1 + 0, G.2.1 + 0) Q 0 [some (.ref a), some (.long x0), none, none, none] [] G) : pcal (d + 1) 146 [.ref a, .long x0] G Q := pcal_of rfl rfl rfl rfl rfl h
theorem inX7_days {d : Nat} {G : px_H} {Q : px_Q} {a : Nat} {x0 : Int32} (h : pr d 147 (G.1 + 0, G.2.1 + 0) Q 0 [some (.ref a), some (.int x0), none, none] [] G) : pcal (d + 1) 147 [.ref a, .int x0] G Q := pcal_of rfl rfl rfl rfl rfl h
theorem inX7_keep {d : Nat} {G : px_H} {Q : px_Q} {a : Nat} {x0 : Int32} (h : pr d 148 (G.1 + 0, G.2.1 + 0) Q 0 [some (.ref a), some (.int x0), none] [] G) : pcal (d + 1) 148 [.ref a, .int x0] G Q := pcal_of rfl rfl rfl rfl rfl h
theorem inX7_again {d : Nat} {G : px_H} {Q : px_Q} {a : Nat} {x0 : Int32} (h : pr d 149 (G.1 + 0, G.2.1 + 0) Q 0 [some (.ref a), some (.int x0), none] [] G) : pcal (d + 1) 149 [.ref a, .int x0] G Q := pcal_of rfl rfl rfl rfl rfl h
theorem inX7_count {d : Nat} {G : px_H} {Q : px_Q} {a : Nat} {x0 : Int32} (h : pr d 150 (G.1 + 0, G.2.1 + 0) Q 0 [some (.ref a), some (.int x0), none, none] [] G) : pcal (d + 1) 150 [.ref a, .int x0] G Q := pcal_of rfl rfl rfl rfl rfl h
theorem inJ6_bitCount_0f7a4 {d : Nat} {G : px_H} {Q : px_Q} {x0 : Int32} (h : pr d 151 (G.1 + 0, G.2.1 + 0) Q 0 [some (.int x0)] [] G) : pcal (d + 1) 151 [.int x0] G Q := pcal_of rfl rfl rfl rfl rfl h
theorem cl_0 : Int32.toNatClampNeg 0 = 0 := by decide
theorem cl_1 : Int32.toNatClampNeg 1 = 1 := by decide
theorem cl_2 : Int32.toNatClampNeg 2 = 2 := by decide
theorem cl_3 : Int32.toNatClampNeg 3 = 3 := by decide
theorem cl_4 : Int32.toNatClampNeg 4 = 4 := by decide
theorem cl_5 : Int32.toNatClampNeg 5 = 5 := by decide
theorem cl_6 : Int32.toNatClampNeg 6 = 6 := by decide
theorem cl_7 : Int32.toNatClampNeg 7 = 7 := by decide
theorem cl_8 : Int32.toNatClampNeg 8 = 8 := by decide
theorem cl_9 : Int32.toNatClampNeg 9 = 9 := by decide
theorem cl_10 : Int32.toNatClampNeg 10 = 10 := by decide
theorem cl_11 : Int32.toNatClampNeg 11 = 11 := by decide
theorem cl_12 : Int32.toNatClampNeg 12 = 12 := by decide
theorem cl_13 : Int32.toNatClampNeg 13 = 13 := by decide
theorem cl_14 : Int32.toNatClampNeg 14 = 14 := by decide
theorem cl_15 : Int32.toNatClampNeg 15 = 15 := by decide
theorem cl_16 : Int32.toNatClampNeg 16 = 16 := by decide
theorem cl_17 : Int32.toNatClampNeg 17 = 17 := by decide
theorem cl_18 : Int32.toNatClampNeg 18 = 18 := by decide
theorem cl_19 : Int32.toNatClampNeg 19 = 19 := by decide
theorem cl_20 : Int32.toNatClampNeg 20 = 20 := by decide
theorem cl_21 : Int32.toNatClampNeg 21 = 21 := by decide
theorem cl_22 : Int32.toNatClampNeg 22 = 22 := by decide
theorem cl_23 : Int32.toNatClampNeg 23 = 23 := by decide
theorem cl_24 : Int32.toNatClampNeg 24 = 24 := by decide
theorem cl_25 : Int32.toNatClampNeg 25 = 25 := by decide
theorem cl_26 : Int32.toNatClampNeg 26 = 26 := by decide
theorem cl_27 : Int32.toNatClampNeg 27 = 27 := by decide
theorem cl_28 : Int32.toNatClampNeg 28 = 28 := by decide
theorem cl_29 : Int32.toNatClampNeg 29 = 29 := by decide
theorem cl_30 : Int32.toNatClampNeg 30 = 30 := by decide
theorem cl_31 : Int32.toNatClampNeg 31 = 31 := by decide
theorem cl_32 : Int32.toNatClampNeg 32 = 32 := by decide
theorem cl_33 : Int32.toNatClampNeg 33 = 33 := by decide
theorem cl_34 : Int32.toNatClampNeg 34 = 34 := by decide
theorem cl_35 : Int32.toNatClampNeg 35 = 35 := by decide
theorem cl_36 : Int32.toNatClampNeg 36 = 36 := by decide
theorem cl_37 : Int32.toNatClampNeg 37 = 37 := by decide
theorem cl_38 : Int32.toNatClampNeg 38 = 38 := by decide
theorem cl_39 : Int32.toNatClampNeg 39 = 39 := by decide
theorem cl_40 : Int32.toNatClampNeg 40 = 40 := by decide
theorem cl_41 : Int32.toNatClampNeg 41 = 41 := by decide
theorem cl_42 : Int32.toNatClampNeg 42 = 42 := by decide
theorem cl_43 : Int32.toNatClampNeg 43 = 43 := by decide
theorem cl_44 : Int32.toNatClampNeg 44 = 44 := by decide
theorem cl_45 : Int32.toNatClampNeg 45 = 45 := by decide
theorem cl_46 : Int32.toNatClampNeg 46 = 46 := by decide
theorem cl_47 : Int32.toNatClampNeg 47 = 47 := by decide
theorem cl_48 : Int32.toNatClampNeg 48 = 48 := by decide
theorem cl_49 : Int32.toNatClampNeg 49 = 49 := by decide
theorem cl_50 : Int32.toNatClampNeg 50 = 50 := by decide
theorem cl_51 : Int32.toNatClampNeg 51 = 51 := by decide
theorem cl_52 : Int32.toNatClampNeg 52 = 52 := by decide
theorem cl_53 : Int32.toNatClampNeg 53 = 53 := by decide
theorem cl_54 : Int32.toNatClampNeg 54 = 54 := by decide
theorem cl_55 : Int32.toNatClampNeg 55 = 55 := by decide
theorem cl_56 : Int32.toNatClampNeg 56 = 56 := by decide
theorem cl_57 : Int32.toNatClampNeg 57 = 57 := by decide
theorem cl_58 : Int32.toNatClampNeg 58 = 58 := by decide
theorem cl_59 : Int32.toNatClampNeg 59 = 59 := by decide
theorem cl_60 : Int32.toNatClampNeg 60 = 60 := by decide
theorem cl_61 : Int32.toNatClampNeg 61 = 61 := by decide
theorem cl_62 : Int32.toNatClampNeg 62 = 62 := by decide
theorem cl_63 : Int32.toNatClampNeg 63 = 63 := by decide
theorem cl_64 : Int32.toNatClampNeg 64 = 64 := by decide
theorem cl_65 : Int32.toNatClampNeg 65 = 65 := by decide
theorem cl_66 : Int32.toNatClampNeg 66 = 66 := by decide
theorem cl_67 : Int32.toNatClampNeg 67 = 67 := by decide
theorem cl_68 : Int32.toNatClampNeg 68 = 68 := by decide
theorem cl_69 : Int32.toNatClampNeg 69 = 69 := by decide
theorem cl_70 : Int32.toNatClampNeg 70 = 70 := by decide
theorem cl_71 : Int32.toNatClampNeg 71 = 71 := by decide
theorem cl_72 : Int32.toNatClampNeg 72 = 72 := by decide
theorem cl_73 : Int32.toNatClampNeg 73 = 73 := by decide
theorem cl_74 : Int32.toNatClampNeg 74 = 74 := by decide
theorem cl_75 : Int32.toNatClampNeg 75 = 75 := by decide
theorem cl_76 : Int32.toNatClampNeg 76 = 76 := by decide
theorem cl_77 : Int32.toNatClampNeg 77 = 77 := by decide
theorem cl_78 : Int32.toNatClampNeg 78 = 78 := by decide
theorem cl_79 : Int32.toNatClampNeg 79 = 79 := by decide
theorem cl_80 : Int32.toNatClampNeg 80 = 80 := by decide
theorem cl_81 : Int32.toNatClampNeg 81 = 81 := by decide
theorem cl_82 : Int32.toNatClampNeg 82 = 82 := by decide
theorem cl_83 : Int32.toNatClampNeg 83 = 83 := by decide
theorem cl_84 : Int32.toNatClampNeg 84 = 84 := by decide
theorem cl_85 : Int32.toNatClampNeg 85 = 85 := by decide
theorem cl_86 : Int32.toNatClampNeg 86 = 86 := by decide
theorem cl_87 : Int32.toNatClampNeg 87 = 87 := by decide
theorem cl_88 : Int32.toNatClampNeg 88 = 88 := by decide
theorem cl_89 : Int32.toNatClampNeg 89 = 89 := by decide
theorem cl_90 : Int32.toNatClampNeg 90 = 90 := by decide
theorem cl_91 : Int32.toNatClampNeg 91 = 91 := by decide
theorem cl_92 : Int32.toNatClampNeg 92 = 92 := by decide
theorem cl_93 : Int32.toNatClampNeg 93 = 93 := by decide
theorem cl_94 : Int32.toNatClampNeg 94 = 94 := by decide
theorem cl_95 : Int32.toNatClampNeg 95 = 95 := by decide
theorem cl_96 : Int32.toNatClampNeg 96 = 96 := by decide
theorem cl_97 : Int32.toNatClampNeg 97 = 97 := by decide
theorem cl_98 : Int32.toNatClampNeg 98 = 98 := by decide
theorem cl_99 : Int32.toNatClampNeg 99 = 99 := by decide
theorem cl_100 : Int32.toNatClampNeg 100 = 100 := by decide
theorem cl_101 : Int32.toNatClampNeg 101 = 101 := by decide
theorem cl_102 : Int32.toNatClampNeg 102 = 102 := by decide
theorem cl_103 : Int32.toNatClampNeg 103 = 103 := by decide
theorem cl_104 : Int32.toNatClampNeg 104 = 104 := by decide
theorem cl_105 : Int32.toNatClampNeg 105 = 105 := by decide
theorem cl_106 : Int32.toNatClampNeg 106 = 106 := by decide
theorem cl_107 : Int32.toNatClampNeg 107 = 107 := by decide
theorem cl_108 : Int32.toNatClampNeg 108 = 108 := by decide
theorem cl_109 : Int32.toNatClampNeg 109 = 109 := by decide
theorem cl_110 : Int32.toNatClampNeg 110 = 110 := by decide
theorem cl_111 : Int32.toNatClampNeg 111 = 111 := by decide
theorem cl_112 : Int32.toNatClampNeg 112 = 112 := by decide
theorem cl_113 : Int32.toNatClampNeg 113 = 113 := by decide
theorem cl_114 : Int32.toNatClampNeg 114 = 114 := by decide
theorem cl_115 : Int32.toNatClampNeg 115 = 115 := by decide
theorem cl_116 : Int32.toNatClampNeg 116 = 116 := by decide
theorem cl_117 : Int32.toNatClampNeg 117 = 117 := by decide
theorem cl_118 : Int32.toNatClampNeg 118 = 118 := by decide
theorem cl_119 : Int32.toNatClampNeg 119 = 119 := by decide
theorem cl_120 : Int32.toNatClampNeg 120 = 120 := by decide
theorem cl_121 : Int32.toNatClampNeg 121 = 121 := by decide
theorem cl_122 : Int32.toNatClampNeg 122 = 122 := by decide
theorem cl_123 : Int32.toNatClampNeg 123 = 123 := by decide
theorem cl_124 : Int32.toNatClampNeg 124 = 124 := by decide
theorem cl_125 : Int32.toNatClampNeg 125 = 125 := by decide
theorem cl_126 : Int32.toNatClampNeg 126 = 126 := by decide
theorem cl_127 : Int32.toNatClampNeg 127 = 127 := by decide
theorem cl_128 : Int32.toNatClampNeg 128 = 128 := by decide
theorem cl_129 : Int32.toNatClampNeg 129 = 129 := by decide
theorem cl_130 : Int32.toNatClampNeg 130 = 130 := by decide
theorem cl_131 : Int32.toNatClampNeg 131 = 131 := by decide
theorem cl_132 : Int32.toNatClampNeg 132 = 132 := by decide
theorem cl_133 : Int32.toNatClampNeg 133 = 133 := by decide
theorem cl_134 : Int32.toNatClampNeg 134 = 134 := by decide
theorem cl_135 : Int32.toNatClampNeg 135 = 135 := by decide
theorem cl_136 : Int32.toNatClampNeg 136 = 136 := by decide
theorem cl_137 : Int32.toNatClampNeg 137 = 137 := by decide
theorem cl_138 : Int32.toNatClampNeg 138 = 138 := by decide
theorem cl_139 : Int32.toNatClampNeg 139 = 139 := by decide
theorem cl_140 : Int32.toNatClampNeg 140 = 140 := by decide
theorem cl_141 : Int32.toNatClampNeg 141 = 141 := by decide
theorem cl_142 : Int32.toNatClampNeg 142 = 142 := by decide
theorem cl_143 : Int32.toNatClampNeg 143 = 143 := by decide
theorem cl_144 : Int32.toNatClampNeg 144 = 144 := by decide
theorem cl_145 : Int32.toNatClampNeg 145 = 145 := by decide
theorem cl_146 : Int32.toNatClampNeg 146 = 146 := by decide
theorem cl_147 : Int32.toNatClampNeg 147 = 147 := by decide
theorem cl_148 : Int32.toNatClampNeg 148 = 148 := by decide
theorem cl_149 : Int32.toNatClampNeg 149 = 149 := by decide
theorem cl_150 : Int32.toNatClampNeg 150 = 150 := by decide
theorem cl_151 : Int32.toNatClampNeg 151 = 151 := by decide
theorem cl_152 : Int32.toNatClampNeg 152 = 152 := by decide
theorem cl_153 : Int32.toNatClampNeg 153 = 153 := by decide
theorem cl_154 : Int32.toNatClampNeg 154 = 154 := by decide
theorem cl_155 : Int32.toNatClampNeg 155 = 155 := by decide
theorem cl_156 : Int32.toNatClampNeg 156 = 156 := by decide
theorem cl_157 : Int32.toNatClampNeg 157 = 157 := by decide
theorem cl_158 : Int32.toNatClampNeg 158 = 158 := by decide
theorem cl_159 : Int32.toNatClampNeg 159 = 159 := by decide
theorem cl_160 : Int32.toNatClampNeg 160 = 160 := by decide
theorem cl_161 : Int32.toNatClampNeg 161 = 161 := by decide
theorem cl_162 : Int32.toNatClampNeg 162 = 162 := by decide
theorem cl_163 : Int32.toNatClampNeg 163 = 163 := by decide
theorem cl_164 : Int32.toNatClampNeg 164 = 164 := by decide
theorem cl_165 : Int32.toNatClampNeg 165 = 165 := by decide
theorem cl_166 : Int32.toNatClampNeg 166 = 166 := by decide
theorem cl_167 : Int32.toNatClampNeg 167 = 167 := by decide
theorem cl_168 : Int32.toNatClampNeg 168 = 168 := by decide
theorem cl_169 : Int32.toNatClampNeg 169 = 169 := by decide
theorem cl_170 : Int32.toNatClampNeg 170 = 170 := by decide
theorem cl_171 : Int32.toNatClampNeg 171 = 171 := by decide
theorem cl_172 : Int32.toNatClampNeg 172 = 172 := by decide
theorem cl_173 : Int32.toNatClampNeg 173 = 173 := by decide
theorem cl_174 : Int32.toNatClampNeg 174 = 174 := by decide
theorem cl_175 : Int32.toNatClampNeg 175 = 175 := by decide
theorem cl_176 : Int32.toNatClampNeg 176 = 176 := by decide
theorem cl_177 : Int32.toNatClampNeg 177 = 177 := by decide
theorem cl_178 : Int32.toNatClampNeg 178 = 178 := by decide
theorem cl_179 : Int32.toNatClampNeg 179 = 179 := by decide
theorem cl_180 : Int32.toNatClampNeg 180 = 180 := by decide
theorem cl_181 : Int32.toNatClampNeg 181 = 181 := by decide
theorem cl_182 : Int32.toNatClampNeg 182 = 182 := by decide
theorem cl_183 : Int32.toNatClampNeg 183 = 183 := by decide
theorem cl_184 : Int32.toNatClampNeg 184 = 184 := by decide
theorem cl_185 : Int32.toNatClampNeg 185 = 185 := by decide
theorem cl_186 : Int32.toNatClampNeg 186 = 186 := by decide
theorem cl_187 : Int32.toNatClampNeg 187 = 187 := by decide
theorem cl_188 : Int32.toNatClampNeg 188 = 188 := by decide
theorem cl_189 : Int32.toNatClampNeg 189 = 189 := by decide
theorem cl_190 : Int32.toNatClampNeg 190 = 190 := by decide
theorem cl_191 : Int32.toNatClampNeg 191 = 191 := by decide
theorem cl_192 : Int32.toNatClampNeg 192 = 192 := by decide
theorem cl_193 : Int32.toNatClampNeg 193 = 193 := by decide
theorem cl_194 : Int32.toNatClampNeg 194 = 194 := by decide
theorem cl_195 : Int32.toNatClampNeg 195 = 195 := by decide
theorem cl_196 : Int32.toNatClampNeg 196 = 196 := by decide
theorem cl_197 : Int32.toNatClampNeg 197 = 197 := by decide
theorem cl_198 : Int32.toNatClampNeg 198 = 198 := by decide
theorem cl_199 : Int32.toNatClampNeg 199 = 199 := by decide
