theorem tt_L_law {X : ev_E} : (ev_TT X).1 309 = ev_lkp (tb_L_law X) := rfl
set_option maxRecDepth 100000 in
theorem e_L_law_0 {X : ev_E} : (ev_TT X).1 309 0 = i_nw 10 7 [.null, .null, .null, .null, .null, .int 0, .int 0] 3 := (congrFun tt_L_law 0).trans rfl
theorem t_L_law_0 {X : ev_E} {st : List Value} {lo : List Value} {h : ev_M} {n q : Nat} {P : ev_O → ev_M → Nat → Nat → Prop} : ev_ok (ev_TT X) 309 0 lo st h n q P ↔ ev_ok (ev_TT X) 309 3 lo (.ref n :: st) (ev_up h n (.inr (10, [.null, .null, .null, .null, .null, .int 0, .int 0]))) (n + 1) (q + 7) P := ev_go (congrFun (e_L_law_0 (X := X)) _)
set_option maxRecDepth 100000 in
theorem e_L_law_3 {X : ev_E} : (ev_TT X).1 309 3 = i_dup 4 := (congrFun tt_L_law 3).trans rfl
theorem t_L_law_3 {X : ev_E} {x : Nat} {st : List Value} {lo : List Value} {h : ev_M} {n q : Nat} {P : ev_O → ev_M → Nat → Nat → Prop} : ev_ok (ev_TT X) 309 3 lo (.ref x :: st) h n q P ↔ ev_ok (ev_TT X) 309 4 lo (.ref x :: .ref x :: st) h n q P := ev_go (congrFun (e_L_law_3 (X := X)) _)
theorem t_L_law_3_i {X : ev_E} {x : Int32} {st : List Value} {lo : List Value} {h : ev_M} {n q : Nat} {P : ev_O → ev_M → Nat → Nat → Prop} : ev_ok (ev_TT X) 309 3 lo (.int x :: st) h n q P ↔ ev_ok (ev_TT X) 309 4 lo (.int x :: .int x :: st) h n q P := ev_go (congrFun (e_L_law_3 (X := X)) _)
set_option maxRecDepth 100000 in
theorem e_L_law_4 {X : ev_E} : (ev_TT X).1 309 4 = i_cI 152 0 2 7 := (congrFun tt_L_law 4).trans rfl
theorem t_L_law_4 {X : ev_E} {x : Nat} {c0 : Value} {lo : List Value} {h : ev_M} {n q : Nat} {P : ev_O → ev_M → Nat → Nat → Prop} : ev_ok (ev_TT X) 309 4 lo [.ref x, c0] h n q P ↔ ev_ok (ev_TT X) 152 0 [.ref x, ev_J] [] h n q (ev_kr (ev_TT X) 309 4 7 lo [c0] P) := (ev_caG (congrFun (e_L_law_4 (X := X)) _)).trans ⟨fun k => k.2, fun k => ⟨⟨rfl, Or.inl (Nat.le_of_ble_eq_true rfl), Nat.le_of_ble_eq_true rfl⟩, k⟩⟩
set_option maxRecDepth 100000 in
theorem e_L_law_7 {X : ev_E} : (ev_TT X).1 309 7 = i_as 1 8 := (congrFun tt_L_law 7).trans rfl
theorem t_L_law_7 {X : ev_E} {st : List Value} {v : Nat} {a0 a1 a2 a3 a4 a5 a6 : Value} {h : ev_M} {n q : Nat} {P : ev_O → ev_M → Nat → Nat → Prop} : ev_ok (ev_TT X) 309 7 [a0, a1, a2, a3, a4, a5, a6] ((.ref v) :: st) h n q P ↔ ev_ok (ev_TT X) 309 8 [ev_k a0, .ref v, a2, a3, a4, a5, a6] st h n q P := ev_go (congrFun (e_L_law_7 (X := X)) _)
set_option maxRecDepth 100000 in
theorem e_L_law_8 {X : ev_E} : (ev_TT X).1 309 8 = i_nw 13 5 [.int 0, .int 0, .int 0, .null, .null] 11 := (congrFun tt_L_law 8).trans rfl
theorem t_L_law_8 {X : ev_E} {st : List Value} {lo : List Value} {h : ev_M} {n q : Nat} {P : ev_O → ev_M → Nat → Nat → Prop} : ev_ok (ev_TT X) 309 8 lo st h n q P ↔ ev_ok (ev_TT X) 309 11 lo (.ref n :: st) (ev_up h n (.inr (13, [.int 0, .int 0, .int 0, .null, .null]))) (n + 1) (q + 5) P := ev_go (congrFun (e_L_law_8 (X := X)) _)
set_option maxRecDepth 100000 in
theorem e_L_law_11 {X : ev_E} : (ev_TT X).1 309 11 = i_dup 12 := (congrFun tt_L_law 11).trans rfl
theorem t_L_law_11 {X : ev_E} {x : Nat} {st : List Value} {lo : List Value} {h : ev_M} {n q : Nat} {P : ev_O → ev_M → Nat → Nat → Prop} : ev_ok (ev_TT X) 309 11 lo (.ref x :: st) h n q P ↔ ev_ok (ev_TT X) 309 12 lo (.ref x :: .ref x :: st) h n q P := ev_go (congrFun (e_L_law_11 (X := X)) _)
theorem t_L_law_11_i {X : ev_E} {x : Int32} {st : List Value} {lo : List Value} {h : ev_M} {n q : Nat} {P : ev_O → ev_M → Nat → Nat → Prop} : ev_ok (ev_TT X) 309 11 lo (.int x :: st) h n q P ↔ ev_ok (ev_TT X) 309 12 lo (.int x :: .int x :: st) h n q P := ev_go (congrFun (e_L_law_11 (X := X)) _)
set_option maxRecDepth 100000 in
theorem e_L_law_12 {X : ev_E} : (ev_TT X).1 309 12 = i_cI 234 0 1 15 := (congrFun tt_L_law 12).trans rfl
theorem t_L_law_12 {X : ev_E} {x : Nat} {c0 : Value} {lo : List Value} {h : ev_M} {n q : Nat} {P : ev_O → ev_M → Nat → Nat → Prop} : ev_ok (ev_TT X) 309 12 lo [.ref x, c0] h n q P ↔ ev_ok (ev_TT X) 234 0 [.ref x] [] h n q (ev_kr (ev_TT X) 309 12 15 lo [c0] P) := (ev_caG (congrFun (e_L_law_12 (X := X)) _)).trans ⟨fun k => k.2, fun k => ⟨⟨rfl, Or.inl (Nat.le_of_ble_eq_true rfl), Nat.le_of_ble_eq_true rfl⟩, k⟩⟩
set_option maxRecDepth 100000 in
theorem e_L_law_15 {X : ev_E} : (ev_TT X).1 309 15 = i_as 2 16 := (congrFun tt_L_law 15).trans rfl
theorem t_L_law_15 {X : ev_E} {st : List Value} {v : Nat} {a0 a1 a2 a3 a4 a5 a6 : Value} {h : ev_M} {n q : Nat} {P : ev_O → ev_M → Nat → Nat → Prop} : ev_ok (ev_TT X) 309 15 [a0, a1, a2, a3, a4, a5, a6] ((.ref v) :: st) h n q P ↔ ev_ok (ev_TT X) 309 16 [a0, ev_k a1, .ref v, a3, a4, a5, a6] st h n q P := ev_go (congrFun (e_L_law_15 (X := X)) _)
set_option maxRecDepth 100000 in
theorem e_L_law_16 {X : ev_E} : (ev_TT X).1 309 16 = i_nw 11 2 [.long 0, .null] 19 := (congrFun tt_L_law 16).trans rfl
theorem t_L_law_16 {X : ev_E} {st : List Value} {lo : List Value} {h : ev_M} {n q : Nat} {P : ev_O → ev_M → Nat → Nat → Prop} : ev_ok (ev_TT X) 309 16 lo st h n q P ↔ ev_ok (ev_TT X) 309 19 lo (.ref n :: st) (ev_up h n (.inr (11, [.long 0, .null]))) (n + 1) (q + 2) P := ev_go (congrFun (e_L_law_16 (X := X)) _)
set_option maxRecDepth 100000 in
theorem e_L_law_19 {X : ev_E} : (ev_TT X).1 309 19 = i_dup 20 := (congrFun tt_L_law 19).trans rfl
theorem t_L_law_19 {X : ev_E} {x : Nat} {st : List Value} {lo : List Value} {h : ev_M} {n q : Nat} {P : ev_O → ev_M → Nat → Nat → Prop} : ev_ok (ev_TT X) 309 19 lo (.ref x :: st) h n q P ↔ ev_ok (ev_TT X) 309 20 lo (.ref x :: .ref x :: st) h n q P := ev_go (congrFun (e_L_law_19 (X := X)) _)
theorem t_L_law_19_i {X : ev_E} {x : Int32} {st : List Value} {lo : List Value} {h : ev_M} {n q : Nat} {P : ev_O → ev_M → Nat → Nat → Prop} : ev_ok (ev_TT X) 309 19 lo (.int x :: st) h n q P ↔ ev_ok (ev_TT X) 309 20 lo (.int x :: .int x :: st) h n q P := ev_go (congrFun (e_L_law_19 (X := X)) _)
set_option maxRecDepth 100000 in
theorem e_L_law_20 {X : ev_E} : (ev_TT X).1 309 20 = i_cI 60 0 1 23 := (congrFun tt_L_law 20).trans rfl
theorem t_L_law_20 {X : ev_E} {x : Nat} {c0 : Value} {lo : List Value} {h : ev_M} {n q : Nat} {P : ev_O → ev_M → Nat → Nat → Prop} : ev_ok (ev_TT X) 309 20 lo [.ref x, c0] h n q P ↔ ev_ok (ev_TT X) 60 0 [.ref x] [] h n q (ev_kr (ev_TT X) 309 20 23 lo [c0] P) := (ev_caG (congrFun (e_L_law_20 (X := X)) _)).trans ⟨fun k => k.2, fun k => ⟨⟨rfl, Or.inl (Nat.le_of_ble_eq_true rfl), Nat.le_of_ble_eq_true rfl⟩, k⟩⟩
set_option maxRecDepth 100000 in
theorem e_L_law_23 {X : ev_E} : (ev_TT X).1 309 23 = i_as 3 24 := (congrFun tt_L_law 23).trans rfl
theorem t_L_law_23 {X : ev_E} {st : List Value} {v : Nat} {a0 a1 a2 a3 a4 a5 a6 : Value} {h : ev_M} {n q : Nat} {P : ev_O → ev_M → Nat → Nat → Prop} : ev_ok (ev_TT X) 309 23 [a0, a1, a2, a3, a4, a5, a6] ((.ref v) :: st) h n q P ↔ ev_ok (ev_TT X) 309 24 [a0, a1, ev_k a2, .ref v, a4, a5, a6] st h n q P := ev_go (congrFun (e_L_law_23 (X := X)) _)
set_option maxRecDepth 100000 in
theorem e_L_law_24 {X : ev_E} : (ev_TT X).1 309 24 = i_psh (.int (0)) 25 := (congrFun tt_L_law 24).trans rfl
theorem t_L_law_24 {X : ev_E} {st : List Value} {lo : List Value} {h : ev_M} {n q : Nat} {P : ev_O → ev_M → Nat → Nat → Prop} : ev_ok (ev_TT X) 309 24 lo st h n q P ↔ ev_ok (ev_TT X) 309 25 lo ((.int (0)) :: st) h n q P := ev_go (congrFun (e_L_law_24 (X := X)) _)
set_option maxRecDepth 100000 in
theorem e_L_law_25 {X : ev_E} : (ev_TT X).1 309 25 = i_is 4 27 := (congrFun tt_L_law 25).trans rfl
theorem t_L_law_25 {X : ev_E} {st : List Value} {v : Int32} {a0 a1 a2 a3 a4 a5 a6 : Value} {h : ev_M} {n q : Nat} {P : ev_O → ev_M → Nat → Nat → Prop} : ev_ok (ev_TT X) 309 25 [a0, a1, a2, a3, a4, a5, a6] ((.int v) :: st) h n q P ↔ ev_ok (ev_TT X) 309 27 [a0, a1, a2, ev_k a3, .int v, a5, a6] st h n q P := ev_go (congrFun (e_L_law_25 (X := X)) _)
set_option maxRecDepth 100000 in
theorem e_L_law_27 {X : ev_E} : (ev_TT X).1 309 27 = i_il 4 29 := (congrFun tt_L_law 27).trans rfl
theorem t_L_law_27 {X : ev_E} {st : List Value} {v : Int32} {a0 a1 a2 a3 a5 a6 : Value} {h : ev_M} {n q : Nat} {P : ev_O → ev_M → Nat → Nat → Prop} : ev_ok (ev_TT X) 309 27 [a0, a1, a2, a3, .int v, a5, a6] st h n q P ↔ ev_ok (ev_TT X) 309 29 [a0, a1, a2, a3, .int v, a5, a6] ((.int v) :: st) h n q P := ev_go (congrFun (e_L_law_27 (X := X)) _)
set_option maxRecDepth 100000 in
theorem e_L_law_29 {X : ev_E} : (ev_TT X).1 309 29 = i_al 0 30 := (congrFun tt_L_law 29).trans rfl
theorem t_L_law_29 {X : ev_E} {st : List Value} {v : Nat} {a1 a2 a3 a4 a5 a6 : Value} {h : ev_M} {n q : Nat} {P : ev_O → ev_M → Nat → Nat → Prop} : ev_ok (ev_TT X) 309 29 [.ref v, a1, a2, a3, a4, a5, a6] st h n q P ↔ ev_ok (ev_TT X) 309 30 [.ref v, a1, a2, a3, a4, a5, a6] ((.ref v) :: st) h n q P := ev_go (congrFun (e_L_law_29 (X := X)) _)
set_option maxRecDepth 100000 in
theorem e_L_law_30 {X : ev_E} : (ev_TT X).1 309 30 = i_len X 31 := (congrFun tt_L_law 30).trans rfl
theorem t_L_law_30 {X : ev_E} {x : Nat} {st : List Value} {lo : List Value} {h : ev_M} {n q : Nat} {P : ev_O → ev_M → Nat → Nat → Prop} : ev_ok (ev_TT X) 309 30 lo (.ref x :: st) h n q P ↔ ev_isA (ev_lk X h x) ∧ ev_ok (ev_TT X) 309 31 lo (.int (Int32.ofNat (ev_aN (ev_lk X h x))) :: st) h n q P := ev_goG (congrFun (e_L_law_30 (X := X)) _)
set_option maxRecDepth 100000 in
theorem e_L_law_31 {X : ev_E} : (ev_TT X).1 309 31 = i_psh (.int (4)) 32 := (congrFun tt_L_law 31).trans rfl
theorem t_L_law_31 {X : ev_E} {st : List Value} {lo : List Value} {h : ev_M} {n q : Nat} {P : ev_O → ev_M → Nat → Nat → Prop} : ev_ok (ev_TT X) 309 31 lo st h n q P ↔ ev_ok (ev_TT X) 309 32 lo ((.int (4)) :: st) h n q P := ev_go (congrFun (e_L_law_31 (X := X)) _)
set_option maxRecDepth 100000 in
theorem e_L_law_32 {X : ev_E} : (ev_TT X).1 309 32 = i_ii (fun a b => a - b) 33 := (congrFun tt_L_law 32).trans rfl
theorem t_L_law_32 {X : ev_E} {x y : Int32} {st : List Value} {lo : List Value} {h : ev_M} {n q : Nat} {P : ev_O → ev_M → Nat → Nat → Prop} : ev_ok (ev_TT X) 309 32 lo (.int y :: .int x :: st) h n q P ↔ ev_ok (ev_TT X) 309 33 lo (.int (x - y) :: st) h n q P := ev_go (congrFun (e_L_law_32 (X := X)) _)
set_option maxRecDepth 100000 in
theorem e_L_law_33 {X : ev_E} : (ev_TT X).1 309 33 = i_icgt 1719 36 := (congrFun tt_L_law 33).trans rfl
theorem t_L_law_33 {X : ev_E} {x y : Int32} {st : List Value} {lo : List Value} {h : ev_M} {n q : Nat} {P : ev_O → ev_M → Nat → Nat → Prop} : ev_ok (ev_TT X) 309 33 lo (.int y :: .int x :: st) h n q P ↔ (if y < x then ev_ok (ev_TT X) 309 1719 lo st h n q P else ev_ok (ev_TT X) 309 36 lo st h n q P) := ev_goI (congrFun (e_L_law_33 (X := X)) _)
set_option maxRecDepth 100000 in
theorem e_L_law_36 {X : ev_E} : (ev_TT X).1 309 36 = i_al 0 37 := (congrFun tt_L_law 36).trans rfl
theorem t_L_law_36 {X : ev_E} {st : List Value} {v : Nat} {a1 a2 a3 a4 a5 a6 : Value} {h : ev_M} {n q : Nat} {P : ev_O → ev_M → Nat → Nat → Prop} : ev_ok (ev_TT X) 309 36 [.ref v, a1, a2, a3, a4, a5, a6] st h n q P ↔ ev_ok (ev_TT X) 309 37 [.ref v, a1, a2, a3, a4, a5, a6] ((.ref v) :: st) h n q P := ev_go (congrFun (e_L_law_36 (X := X)) _)
set_option maxRecDepth 100000 in
theorem e_L_law_37 {X : ev_E} : (ev_TT X).1 309 37 = i_il 4 39 := (congrFun tt_L_law 37).trans rfl
theorem t_L_law_37 {X : ev_E} {st : List Value} {v : Int32} {a0 a1 a2 a3 a5 a6 : Value} {h : ev_M} {n q : Nat} {P : ev_O → ev_M → Nat → Nat → Prop} : ev_ok (ev_TT X) 309 37 [a0, a1, a2, a3, .int v, a5, a6] st h n q P ↔ ev_ok (ev_TT X) 309 39 [a0, a1, a2, a3, .int v, a5, a6] ((.int v) :: st) h n q P := ev_go (congrFun (e_L_law_37 (X := X)) _)
set_option maxRecDepth 100000 in
theorem e_L_law_39 {X : ev_E} : (ev_TT X).1 309 39 = i_ald X ev_tI 40 := (congrFun tt_L_law 39).trans rfl
theorem t_L_law_39 {X : ev_E} {i : Int32} {x : Nat} {st : List Value} {lo : List Value} {h : ev_M} {n q : Nat} {P : ev_O → ev_M → Nat → Nat → Prop} : ev_ok (ev_TT X) 309 39 lo (.int i :: .ref x :: st) h n q P ↔ ev_inA (ev_lk X h x) i ev_tI ∧ ev_ok (ev_TT X) 309 40 lo (ev_aG (ev_lk X h x) i :: st) h n q P := ev_goG (congrFun (e_L_law_39 (X := X)) _)
set_option maxRecDepth 100000 in
theorem e_L_law_40 {X : ev_E} : (ev_TT X).1 309 40 = i_psh (.int (63)) 42 := (congrFun tt_L_law 40).trans rfl
theorem t_L_law_40 {X : ev_E} {st : List Value} {lo : List Value} {h : ev_M} {n q : Nat} {P : ev_O → ev_M → Nat → Nat → Prop} : ev_ok (ev_TT X) 309 40 lo st h n q P ↔ ev_ok (ev_TT X) 309 42 lo ((.int (63)) :: st) h n q P := ev_go (congrFun (e_L_law_40 (X := X)) _)
set_option maxRecDepth 100000 in
theorem e_L_law_42 {X : ev_E} : (ev_TT X).1 309 42 = i_ii (fun a b => a &&& b) 43 := (congrFun tt_L_law 42).trans rfl
theorem t_L_law_42 {X : ev_E} {x y : Int32} {st : List Value} {lo : List Value} {h : ev_M} {n q : Nat} {P : ev_O → ev_M → Nat → Nat → Prop} : ev_ok (ev_TT X) 309 42 lo (.int y :: .int x :: st) h n q P ↔ ev_ok (ev_TT X) 309 43 lo (.int (x &&& y) :: st) h n q P := ev_go (congrFun (e_L_law_42 (X := X)) _)
set_option maxRecDepth 100000 in
theorem e_L_law_43 {X : ev_E} : (ev_TT X).1 309 43 = i_sw (0) [236, 304, 356, 408, 448, 500, 540, 568, 620, 660, 700, 728, 768, 808, 848, 888, 916, 944, 984, 1024, 1064, 1092, 1120, 1148, 1176, 1204, 1232, 1284, 1297, 1310, 1335, 1360, 1388, 1401, 1429, 1469, 1509, 1537, 1565, 1593, 1618, 1646, 1674, 1687, 1700] 1713 := (congrFun tt_L_law 43).trans rfl
theorem t_L_law_43 {X : ev_E} {x : Int32} {st : List Value} {lo : List Value} {h : ev_M} {n q : Nat} {P : ev_O → ev_M → Nat → Nat → Prop} : ev_ok (ev_TT X) 309 43 lo (.int x :: st) h n q P ↔ ev_ok (ev_TT X) 309 (if x.toInt < (0) ∨ (0) + ([236, 304, 356, 408, 448, 500, 540, 568, 620, 660, 700, 728, 768, 808, 848, 888, 916, 944, 984, 1024, 1064, 1092, 1120, 1148, 1176, 1204, 1232, 1284, 1297, 1310, 1335, 1360, 1388, 1401, 1429, 1469, 1509, 1537, 1565, 1593, 1618, 1646, 1674, 1687, 1700] : List Nat).length ≤ x.toInt then 1713 else ([236, 304, 356, 408, 448, 500, 540, 568, 620, 660, 700, 728, 768, 808, 848, 888, 916, 944, 984, 1024, 1064, 1092, 1120, 1148, 1176, 1204, 1232, 1284, 1297, 1310, 1335, 1360, 1388, 1401, 1429, 1469, 1509, 1537, 1565, 1593, 1618, 1646, 1674, 1687, 1700] : List Nat).getD (x.toInt - (0)).toNat 1713) lo st h n q P := ev_go (congrFun (e_L_law_43 (X := X)) _)
set_option maxRecDepth 100000 in
theorem e_L_law_236 {X : ev_E} : (ev_TT X).1 309 236 = i_al 1 237 := (congrFun tt_L_law 236).trans rfl
theorem t_L_law_236 {X : ev_E} {st : List Value} {v : Nat} {a0 a2 a3 a4 a5 a6 : Value} {h : ev_M} {n q : Nat} {P : ev_O → ev_M → Nat → Nat → Prop} : ev_ok (ev_TT X) 309 236 [a0, .ref v, a2, a3, a4, a5, a6] st h n q P ↔ ev_ok (ev_TT X) 309 237 [a0, .ref v, a2, a3, a4, a5, a6] ((.ref v) :: st) h n q P := ev_go (congrFun (e_L_law_236 (X := X)) _)
set_option maxRecDepth 100000 in
theorem e_L_law_237 {X : ev_E} : (ev_TT X).1 309 237 = i_al 0 238 := (congrFun tt_L_law 237).trans rfl
theorem t_L_law_237 {X : ev_E} {st : List Value} {v : Nat} {a1 a2 a3 a4 a5 a6 : Value} {h : ev_M} {n q : Nat} {P : ev_O → ev_M → Nat → Nat → Prop} : ev_ok (ev_TT X) 309 237 [.ref v, a1, a2, a3, a4, a5, a6] st h n q P ↔ ev_ok (ev_TT X) 309 238 [.ref v, a1, a2, a3, a4, a5, a6] ((.ref v) :: st) h n q P := ev_go (congrFun (e_L_law_237 (X := X)) _)
set_option maxRecDepth 100000 in
theorem e_L_law_238 {X : ev_E} : (ev_TT X).1 309 238 = i_il 4 240 := (congrFun tt_L_law 238).trans rfl
theorem t_L_law_238 {X : ev_E} {st : List Value} {v : Int32} {a0 a1 a2 a3 a5 a6 : Value} {h : ev_M} {n q : Nat} {P : ev_O → ev_M → Nat → Nat → Prop} : ev_ok (ev_TT X) 309 238 [a0, a1, a2, a3, .int v, a5, a6] st h n q P ↔ ev_ok (ev_TT X) 309 240 [a0, a1, a2, a3, .int v, a5, a6] ((.int v) :: st) h n q P := ev_go (congrFun (e_L_law_238 (X := X)) _)
set_option maxRecDepth 100000 in
theorem e_L_law_240 {X : ev_E} : (ev_TT X).1 309 240 = i_psh (.int (1)) 241 := (congrFun tt_L_law 240).trans rfl
theorem t_L_law_240 {X : ev_E} {st : List Value} {lo : List Value} {h : ev_M} {n q : Nat} {P : ev_O → ev_M → Nat → Nat → Prop} : ev_ok (ev_TT X) 309 240 lo st h n q P ↔ ev_ok (ev_TT X) 309 241 lo ((.int (1)) :: st) h n q P := ev_go (congrFun (e_L_law_240 (X := X)) _)
set_option maxRecDepth 100000 in
theorem e_L_law_241 {X : ev_E} : (ev_TT X).1 309 241 = i_ii (fun a b => a + b) 242 := (congrFun tt_L_law 241).trans rfl
theorem t_L_law_241 {X : ev_E} {x y : Int32} {st : List Value} {lo : List Value} {h : ev_M} {n q : Nat} {P : ev_O → ev_M → Nat → Nat → Prop} : ev_ok (ev_TT X) 309 241 lo (.int y :: .int x :: st) h n q P ↔ ev_ok (ev_TT X) 309 242 lo (.int (x + y) :: st) h n q P := ev_go (congrFun (e_L_law_241 (X := X)) _)
set_option maxRecDepth 100000 in
theorem e_L_law_242 {X : ev_E} : (ev_TT X).1 309 242 = i_ald X ev_tI 243 := (congrFun tt_L_law 242).trans rfl
theorem t_L_law_242 {X : ev_E} {i : Int32} {x : Nat} {st : List Value} {lo : List Value} {h : ev_M} {n q : Nat} {P : ev_O → ev_M → Nat → Nat → Prop} : ev_ok (ev_TT X) 309 242 lo (.int i :: .ref x :: st) h n q P ↔ ev_inA (ev_lk X h x) i ev_tI ∧ ev_ok (ev_TT X) 309 243 lo (ev_aG (ev_lk X h x) i :: st) h n q P := ev_goG (congrFun (e_L_law_242 (X := X)) _)
set_option maxRecDepth 100000 in
theorem e_L_law_243 {X : ev_E} : (ev_TT X).1 309 243 = i_al 0 244 := (congrFun tt_L_law 243).trans rfl
theorem t_L_law_243 {X : ev_E} {st : List Value} {v : Nat} {a1 a2 a3 a4 a5 a6 : Value} {h : ev_M} {n q : Nat} {P : ev_O → ev_M → Nat → Nat → Prop} : ev_ok (ev_TT X) 309 243 [.ref v, a1, a2, a3, a4, a5, a6] st h n q P ↔ ev_ok (ev_TT X) 309 244 [.ref v, a1, a2, a3, a4, a5, a6] ((.ref v) :: st) h n q P := ev_go (congrFun (e_L_law_243 (X := X)) _)
set_option maxRecDepth 100000 in
theorem e_L_law_244 {X : ev_E} : (ev_TT X).1 309 244 = i_il 4 246 := (congrFun tt_L_law 244).trans rfl
theorem t_L_law_244 {X : ev_E} {st : List Value} {v : Int32} {a0 a1 a2 a3 a5 a6 : Value} {h : ev_M} {n q : Nat} {P : ev_O → ev_M → Nat → Nat → Prop} : ev_ok (ev_TT X) 309 244 [a0, a1, a2, a3, .int v, a5, a6] st h n q P ↔ ev_ok (ev_TT X) 309 246 [a0, a1, a2, a3, .int v, a5, a6] ((.int v) :: st) h n q P := ev_go (congrFun (e_L_law_244 (X := X)) _)
set_option maxRecDepth 100000 in
theorem e_L_law_246 {X : ev_E} : (ev_TT X).1 309 246 = i_psh (.int (2)) 247 := (congrFun tt_L_law 246).trans rfl
theorem t_L_law_246 {X : ev_E} {st : List Value} {lo : List Value} {h : ev_M} {n q : Nat} {P : ev_O → ev_M → Nat → Nat → Prop} : ev_ok (ev_TT X) 309 246 lo st h n q P ↔ ev_ok (ev_TT X) 309 247 lo ((.int (2)) :: st) h n q P := ev_go (congrFun (e_L_law_246 (X := X)) _)
set_option maxRecDepth 100000 in
theorem e_L_law_247 {X : ev_E} : (ev_TT X).1 309 247 = i_ii (fun a b => a + b) 248 := (congrFun tt_L_law 247).trans rfl
theorem t_L_law_247 {X : ev_E} {x y : Int32} {st : List Value} {lo : List Value} {h : ev_M} {n q : Nat} {P : ev_O → ev_M → Nat → Nat → Prop} : ev_ok (ev_TT X) 309 247 lo (.int y :: .int x :: st) h n q P ↔ ev_ok (ev_TT X) 309 248 lo (.int (x + y) :: st) h n q P := ev_go (congrFun (e_L_law_247 (X := X)) _)
set_option maxRecDepth 100000 in
theorem e_L_law_248 {X : ev_E} : (ev_TT X).1 309 248 = i_ald X ev_tI 249 := (congrFun tt_L_law 248).trans rfl
theorem t_L_law_248 {X : ev_E} {i : Int32} {x : Nat} {st : List Value} {lo : List Value} {h : ev_M} {n q : Nat} {P : ev_O → ev_M → Nat → Nat → Prop} : ev_ok (ev_TT X) 309 248 lo (.int i :: .ref x :: st) h n q P ↔ ev_inA (ev_lk X h x) i ev_tI ∧ ev_ok (ev_TT X) 309 249 lo (ev_aG (ev_lk X h x) i :: st) h n q P := ev_goG (congrFun (e_L_law_248 (X := X)) _)
set_option maxRecDepth 100000 in
theorem e_L_law_249 {X : ev_E} : (ev_TT X).1 309 249 = i_ifeq 256 252 := (congrFun tt_L_law 249).trans rfl
theorem t_L_law_249 {X : ev_E} {x : Int32} {st : List Value} {lo : List Value} {h : ev_M} {n q : Nat} {P : ev_O → ev_M → Nat → Nat → Prop} : ev_ok (ev_TT X) 309 249 lo (.int x :: st) h n q P ↔ (if x = 0 then ev_ok (ev_TT X) 309 256 lo st h n q P else ev_ok (ev_TT X) 309 252 lo st h n q P) := ev_goI (congrFun (e_L_law_249 (X := X)) _)
set_option maxRecDepth 100000 in
theorem e_L_law_252 {X : ev_E} : (ev_TT X).1 309 252 = i_psh (.int (1)) 253 := (congrFun tt_L_law 252).trans rfl
theorem t_L_law_252 {X : ev_E} {st : List Value} {lo : List Value} {h : ev_M} {n q : Nat} {P : ev_O → ev_M → Nat → Nat → Prop} : ev_ok (ev_TT X) 309 252 lo st h n q P ↔ ev_ok (ev_TT X) 309 253 lo ((.int (1)) :: st) h n q P := ev_go (congrFun (e_L_law_252 (X := X)) _)
set_option maxRecDepth 100000 in
theorem e_L_law_253 {X : ev_E} : (ev_TT X).1 309 253 = i_goto 257 := (congrFun tt_L_law 253).trans rfl
theorem t_L_law_253 {X : ev_E} {st : List Value} {lo : List Value} {h : ev_M} {n q : Nat} {P : ev_O → ev_M → Nat → Nat → Prop} : ev_ok (ev_TT X) 309 253 lo st h n q P ↔ ev_ok (ev_TT X) 309 257 lo st h n q P := ev_go (congrFun (e_L_law_253 (X := X)) _)
set_option maxRecDepth 100000 in
theorem e_L_law_256 {X : ev_E} : (ev_TT X).1 309 256 = i_psh (.int (0)) 257 := (congrFun tt_L_law 256).trans rfl
theorem t_L_law_256 {X : ev_E} {st : List Value} {lo : List Value} {h : ev_M} {n q : Nat} {P : ev_O → ev_M → Nat → Nat → Prop} : ev_ok (ev_TT X) 309 256 lo st h n q P ↔ ev_ok (ev_TT X) 309 257 lo ((.int (0)) :: st) h n q P := ev_go (congrFun (e_L_law_256 (X := X)) _)
set_option maxRecDepth 100000 in
theorem e_L_law_257 {X : ev_E} : (ev_TT X).1 309 257 = i_al 0 258 := (congrFun tt_L_law 257).trans rfl
theorem t_L_law_257 {X : ev_E} {st : List Value} {v : Nat} {a1 a2 a3 a4 a5 a6 : Value} {h : ev_M} {n q : Nat} {P : ev_O → ev_M → Nat → Nat → Prop} : ev_ok (ev_TT X) 309 257 [.ref v, a1, a2, a3, a4, a5, a6] st h n q P ↔ ev_ok (ev_TT X) 309 258 [.ref v, a1, a2, a3, a4, a5, a6] ((.ref v) :: st) h n q P := ev_go (congrFun (e_L_law_257 (X := X)) _)
set_option maxRecDepth 100000 in
theorem e_L_law_258 {X : ev_E} : (ev_TT X).1 309 258 = i_il 4 260 := (congrFun tt_L_law 258).trans rfl
theorem t_L_law_258 {X : ev_E} {st : List Value} {v : Int32} {a0 a1 a2 a3 a5 a6 : Value} {h : ev_M} {n q : Nat} {P : ev_O → ev_M → Nat → Nat → Prop} : ev_ok (ev_TT X) 309 258 [a0, a1, a2, a3, .int v, a5, a6] st h n q P ↔ ev_ok (ev_TT X) 309 260 [a0, a1, a2, a3, .int v, a5, a6] ((.int v) :: st) h n q P := ev_go (congrFun (e_L_law_258 (X := X)) _)
set_option maxRecDepth 100000 in
theorem e_L_law_260 {X : ev_E} : (ev_TT X).1 309 260 = i_psh (.int (3)) 261 := (congrFun tt_L_law 260).trans rfl
theorem t_L_law_260 {X : ev_E} {st : List Value} {lo : List Value} {h : ev_M} {n q : Nat} {P : ev_O → ev_M → Nat → Nat → Prop} : ev_ok (ev_TT X) 309 260 lo st h n q P ↔ ev_ok (ev_TT X) 309 261 lo ((.int (3)) :: st) h n q P := ev_go (congrFun (e_L_law_260 (X := X)) _)
set_option maxRecDepth 100000 in
theorem e_L_law_261 {X : ev_E} : (ev_TT X).1 309 261 = i_ii (fun a b => a + b) 262 := (congrFun tt_L_law 261).trans rfl
theorem t_L_law_261 {X : ev_E} {x y : Int32} {st : List Value} {lo : List Value} {h : ev_M} {n q : Nat} {P : ev_O → ev_M → Nat → Nat → Prop} : ev_ok (ev_TT X) 309 261 lo (.int y :: .int x :: st) h n q P ↔ ev_ok (ev_TT X) 309 262 lo (.int (x + y) :: st) h n q P := ev_go (congrFun (e_L_law_261 (X := X)) _)
set_option maxRecDepth 100000 in
theorem e_L_law_262 {X : ev_E} : (ev_TT X).1 309 262 = i_ald X ev_tI 263 := (congrFun tt_L_law 262).trans rfl
theorem t_L_law_262 {X : ev_E} {i : Int32} {x : Nat} {st : List Value} {lo : List Value} {h : ev_M} {n q : Nat} {P : ev_O → ev_M → Nat → Nat → Prop} : ev_ok (ev_TT X) 309 262 lo (.int i :: .ref x :: st) h n q P ↔ ev_inA (ev_lk X h x) i ev_tI ∧ ev_ok (ev_TT X) 309 263 lo (ev_aG (ev_lk X h x) i :: st) h n q P := ev_goG (congrFun (e_L_law_262 (X := X)) _)
set_option maxRecDepth 100000 in
theorem e_L_law_263 {X : ev_E} : (ev_TT X).1 309 263 = i_al 3 264 := (congrFun tt_L_law 263).trans rfl
theorem t_L_law_263 {X : ev_E} {st : List Value} {v : Nat} {a0 a1 a2 a4 a5 a6 : Value} {h : ev_M} {n q : Nat} {P : ev_O → ev_M → Nat → Nat → Prop} : ev_ok (ev_TT X) 309 263 [a0, a1, a2, .ref v, a4, a5, a6] st h n q P ↔ ev_ok (ev_TT X) 309 264 [a0, a1, a2, .ref v, a4, a5, a6] ((.ref v) :: st) h n q P := ev_go (congrFun (e_L_law_263 (X := X)) _)
set_option maxRecDepth 100000 in
theorem e_L_law_264 {X : ev_E} : (ev_TT X).1 309 264 = i_cS 188 5 6 267 := (congrFun tt_L_law 264).trans rfl
theorem t_L_law_264 {X : ev_E} {y4 : Nat} {y3 : Int32} {y2 : Int32} {y1 : Int32} {y0 : Nat} {lo : List Value} {h : ev_M} {n q : Nat} {P : ev_O → ev_M → Nat → Nat → Prop} : ev_ok (ev_TT X) 309 264 lo [.ref y4, .int y3, .int y2, .int y1, .ref y0] h n q P ↔ ev_ok (ev_TT X) 188 0 [.ref y0, .int y1, .int y2, .int y3, .ref y4, ev_J] [] h n q (ev_kr (ev_TT X) 309 264 267 lo [] P) := (ev_caG (congrFun (e_L_law_264 (X := X)) _)).trans ⟨fun k => k.2, fun k => ⟨⟨rfl, Nat.le_of_ble_eq_true rfl, Nat.le_of_ble_eq_true rfl⟩, k⟩⟩
set_option maxRecDepth 100000 in
theorem e_L_law_267 {X : ev_E} : (ev_TT X).1 309 267 = i_is 5 269 := (congrFun tt_L_law 267).trans rfl
theorem t_L_law_267 {X : ev_E} {st : List Value} {v : Int32} {a0 a1 a2 a3 a4 a5 a6 : Value} {h : ev_M} {n q : Nat} {P : ev_O → ev_M → Nat → Nat → Prop} : ev_ok (ev_TT X) 309 267 [a0, a1, a2, a3, a4, a5, a6] ((.int v) :: st) h n q P ↔ ev_ok (ev_TT X) 309 269 [a0, a1, a2, a3, ev_k a4, .int v, a6] st h n q P := ev_go (congrFun (e_L_law_267 (X := X)) _)
set_option maxRecDepth 100000 in
theorem e_L_law_269 {X : ev_E} : (ev_TT X).1 309 269 = i_al 2 270 := (congrFun tt_L_law 269).trans rfl
theorem t_L_law_269 {X : ev_E} {st : List Value} {v : Nat} {a0 a1 a3 a4 a5 a6 : Value} {h : ev_M} {n q : Nat} {P : ev_O → ev_M → Nat → Nat → Prop} : ev_ok (ev_TT X) 309 269 [a0, a1, .ref v, a3, a4, a5, a6] st h n q P ↔ ev_ok (ev_TT X) 309 270 [a0, a1, .ref v, a3, a4, a5, a6] ((.ref v) :: st) h n q P := ev_go (congrFun (e_L_law_269 (X := X)) _)
set_option maxRecDepth 100000 in
theorem e_L_law_270 {X : ev_E} : (ev_TT X).1 309 270 = i_al 0 271 := (congrFun tt_L_law 270).trans rfl
theorem t_L_law_270 {X : ev_E} {st : List Value} {v : Nat} {a1 a2 a3 a4 a5 a6 : Value} {h : ev_M} {n q : Nat} {P : ev_O → ev_M → Nat → Nat → Prop} : ev_ok (ev_TT X) 309 270 [.ref v, a1, a2, a3, a4, a5, a6] st h n q P ↔ ev_ok (ev_TT X) 309 271 [.ref v, a1, a2, a3, a4, a5, a6] ((.ref v) :: st) h n q P := ev_go (congrFun (e_L_law_270 (X := X)) _)
set_option maxRecDepth 100000 in
theorem e_L_law_271 {X : ev_E} : (ev_TT X).1 309 271 = i_il 4 273 := (congrFun tt_L_law 271).trans rfl
theorem t_L_law_271 {X : ev_E} {st : List Value} {v : Int32} {a0 a1 a2 a3 a5 a6 : Value} {h : ev_M} {n q : Nat} {P : ev_O → ev_M → Nat → Nat → Prop} : ev_ok (ev_TT X) 309 271 [a0, a1, a2, a3, .int v, a5, a6] st h n q P ↔ ev_ok (ev_TT X) 309 273 [a0, a1, a2, a3, .int v, a5, a6] ((.int v) :: st) h n q P := ev_go (congrFun (e_L_law_271 (X := X)) _)
set_option maxRecDepth 100000 in
theorem e_L_law_273 {X : ev_E} : (ev_TT X).1 309 273 = i_psh (.int (1)) 274 := (congrFun tt_L_law 273).trans rfl
theorem t_L_law_273 {X : ev_E} {st : List Value} {lo : List Value} {h : ev_M} {n q : Nat} {P : ev_O → ev_M → Nat → Nat → Prop} : ev_ok (ev_TT X) 309 273 lo st h n q P ↔ ev_ok (ev_TT X) 309 274 lo ((.int (1)) :: st) h n q P := ev_go (congrFun (e_L_law_273 (X := X)) _)
set_option maxRecDepth 100000 in
theorem e_L_law_274 {X : ev_E} : (ev_TT X).1 309 274 = i_ii (fun a b => a + b) 275 := (congrFun tt_L_law 274).trans rfl
theorem t_L_law_274 {X : ev_E} {x y : Int32} {st : List Value} {lo : List Value} {h : ev_M} {n q : Nat} {P : ev_O → ev_M → Nat → Nat → Prop} : ev_ok (ev_TT X) 309 274 lo (.int y :: .int x :: st) h n q P ↔ ev_ok (ev_TT X) 309 275 lo (.int (x + y) :: st) h n q P := ev_go (congrFun (e_L_law_274 (X := X)) _)
set_option maxRecDepth 100000 in
theorem e_L_law_275 {X : ev_E} : (ev_TT X).1 309 275 = i_ald X ev_tI 276 := (congrFun tt_L_law 275).trans rfl
theorem t_L_law_275 {X : ev_E} {i : Int32} {x : Nat} {st : List Value} {lo : List Value} {h : ev_M} {n q : Nat} {P : ev_O → ev_M → Nat → Nat → Prop} : ev_ok (ev_TT X) 309 275 lo (.int i :: .ref x :: st) h n q P ↔ ev_inA (ev_lk X h x) i ev_tI ∧ ev_ok (ev_TT X) 309 276 lo (ev_aG (ev_lk X h x) i :: st) h n q P := ev_goG (congrFun (e_L_law_275 (X := X)) _)
set_option maxRecDepth 100000 in
theorem e_L_law_276 {X : ev_E} : (ev_TT X).1 309 276 = i_al 0 277 := (congrFun tt_L_law 276).trans rfl
theorem t_L_law_276 {X : ev_E} {st : List Value} {v : Nat} {a1 a2 a3 a4 a5 a6 : Value} {h : ev_M} {n q : Nat} {P : ev_O → ev_M → Nat → Nat → Prop} : ev_ok (ev_TT X) 309 276 [.ref v, a1, a2, a3, a4, a5, a6] st h n q P ↔ ev_ok (ev_TT X) 309 277 [.ref v, a1, a2, a3, a4, a5, a6] ((.ref v) :: st) h n q P := ev_go (congrFun (e_L_law_276 (X := X)) _)
set_option maxRecDepth 100000 in
theorem e_L_law_277 {X : ev_E} : (ev_TT X).1 309 277 = i_il 4 279 := (congrFun tt_L_law 277).trans rfl
theorem t_L_law_277 {X : ev_E} {st : List Value} {v : Int32} {a0 a1 a2 a3 a5 a6 : Value} {h : ev_M} {n q : Nat} {P : ev_O → ev_M → Nat → Nat → Prop} : ev_ok (ev_TT X) 309 277 [a0, a1, a2, a3, .int v, a5, a6] st h n q P ↔ ev_ok (ev_TT X) 309 279 [a0, a1, a2, a3, .int v, a5, a6] ((.int v) :: st) h n q P := ev_go (congrFun (e_L_law_277 (X := X)) _)
set_option maxRecDepth 100000 in
theorem e_L_law_279 {X : ev_E} : (ev_TT X).1 309 279 = i_psh (.int (2)) 280 := (congrFun tt_L_law 279).trans rfl
theorem t_L_law_279 {X : ev_E} {st : List Value} {lo : List Value} {h : ev_M} {n q : Nat} {P : ev_O → ev_M → Nat → Nat → Prop} : ev_ok (ev_TT X) 309 279 lo st h n q P ↔ ev_ok (ev_TT X) 309 280 lo ((.int (2)) :: st) h n q P := ev_go (congrFun (e_L_law_279 (X := X)) _)
set_option maxRecDepth 100000 in
theorem e_L_law_280 {X : ev_E} : (ev_TT X).1 309 280 = i_ii (fun a b => a + b) 281 := (congrFun tt_L_law 280).trans rfl
theorem t_L_law_280 {X : ev_E} {x y : Int32} {st : List Value} {lo : List Value} {h : ev_M} {n q : Nat} {P : ev_O → ev_M → Nat → Nat → Prop} : ev_ok (ev_TT X) 309 280 lo (.int y :: .int x :: st) h n q P ↔ ev_ok (ev_TT X) 309 281 lo (.int (x + y) :: st) h n q P := ev_go (congrFun (e_L_law_280 (X := X)) _)
set_option maxRecDepth 100000 in
theorem e_L_law_281 {X : ev_E} : (ev_TT X).1 309 281 = i_ald X ev_tI 282 := (congrFun tt_L_law 281).trans rfl
theorem t_L_law_281 {X : ev_E} {i : Int32} {x : Nat} {st : List Value} {lo : List Value} {h : ev_M} {n q : Nat} {P : ev_O → ev_M → Nat → Nat → Prop} : ev_ok (ev_TT X) 309 281 lo (.int i :: .ref x :: st) h n q P ↔ ev_inA (ev_lk X h x) i ev_tI ∧ ev_ok (ev_TT X) 309 282 lo (ev_aG (ev_lk X h x) i :: st) h n q P := ev_goG (congrFun (e_L_law_281 (X := X)) _)
set_option maxRecDepth 100000 in
theorem e_L_law_282 {X : ev_E} : (ev_TT X).1 309 282 = i_ifeq 289 285 := (congrFun tt_L_law 282).trans rfl
theorem t_L_law_282 {X : ev_E} {x : Int32} {st : List Value} {lo : List Value} {h : ev_M} {n q : Nat} {P : ev_O → ev_M → Nat → Nat → Prop} : ev_ok (ev_TT X) 309 282 lo (.int x :: st) h n q P ↔ (if x = 0 then ev_ok (ev_TT X) 309 289 lo st h n q P else ev_ok (ev_TT X) 309 285 lo st h n q P) := ev_goI (congrFun (e_L_law_282 (X := X)) _)
set_option maxRecDepth 100000 in
theorem e_L_law_285 {X : ev_E} : (ev_TT X).1 309 285 = i_psh (.int (1)) 286 := (congrFun tt_L_law 285).trans rfl
theorem t_L_law_285 {X : ev_E} {st : List Value} {lo : List Value} {h : ev_M} {n q : Nat} {P : ev_O → ev_M → Nat → Nat → Prop} : ev_ok (ev_TT X) 309 285 lo st h n q P ↔ ev_ok (ev_TT X) 309 286 lo ((.int (1)) :: st) h n q P := ev_go (congrFun (e_L_law_285 (X := X)) _)
set_option maxRecDepth 100000 in
theorem e_L_law_286 {X : ev_E} : (ev_TT X).1 309 286 = i_goto 290 := (congrFun tt_L_law 286).trans rfl
theorem t_L_law_286 {X : ev_E} {st : List Value} {lo : List Value} {h : ev_M} {n q : Nat} {P : ev_O → ev_M → Nat → Nat → Prop} : ev_ok (ev_TT X) 309 286 lo st h n q P ↔ ev_ok (ev_TT X) 309 290 lo st h n q P := ev_go (congrFun (e_L_law_286 (X := X)) _)
set_option maxRecDepth 100000 in
theorem e_L_law_289 {X : ev_E} : (ev_TT X).1 309 289 = i_psh (.int (0)) 290 := (congrFun tt_L_law 289).trans rfl
theorem t_L_law_289 {X : ev_E} {st : List Value} {lo : List Value} {h : ev_M} {n q : Nat} {P : ev_O → ev_M → Nat → Nat → Prop} : ev_ok (ev_TT X) 309 289 lo st h n q P ↔ ev_ok (ev_TT X) 309 290 lo ((.int (0)) :: st) h n q P := ev_go (congrFun (e_L_law_289 (X := X)) _)
set_option maxRecDepth 100000 in
theorem e_L_law_290 {X : ev_E} : (ev_TT X).1 309 290 = i_al 0 291 := (congrFun tt_L_law 290).trans rfl
theorem t_L_law_290 {X : ev_E} {st : List Value} {v : Nat} {a1 a2 a3 a4 a5 a6 : Value} {h : ev_M} {n q : Nat} {P : ev_O → ev_M → Nat → Nat → Prop} : ev_ok (ev_TT X) 309 290 [.ref v, a1, a2, a3, a4, a5, a6] st h n q P ↔ ev_ok (ev_TT X) 309 291 [.ref v, a1, a2, a3, a4, a5, a6] ((.ref v) :: st) h n q P := ev_go (congrFun (e_L_law_290 (X := X)) _)
set_option maxRecDepth 100000 in
theorem e_L_law_291 {X : ev_E} : (ev_TT X).1 309 291 = i_il 4 293 := (congrFun tt_L_law 291).trans rfl
theorem t_L_law_291 {X : ev_E} {st : List Value} {v : Int32} {a0 a1 a2 a3 a5 a6 : Value} {h : ev_M} {n q : Nat} {P : ev_O → ev_M → Nat → Nat → Prop} : ev_ok (ev_TT X) 309 291 [a0, a1, a2, a3, .int v, a5, a6] st h n q P ↔ ev_ok (ev_TT X) 309 293 [a0, a1, a2, a3, .int v, a5, a6] ((.int v) :: st) h n q P := ev_go (congrFun (e_L_law_291 (X := X)) _)
set_option maxRecDepth 100000 in
theorem e_L_law_293 {X : ev_E} : (ev_TT X).1 309 293 = i_psh (.int (3)) 294 := (congrFun tt_L_law 293).trans rfl
theorem t_L_law_293 {X : ev_E} {st : List Value} {lo : List Value} {h : ev_M} {n q : Nat} {P : ev_O → ev_M → Nat → Nat → Prop} : ev_ok (ev_TT X) 309 293 lo st h n q P ↔ ev_ok (ev_TT X) 309 294 lo ((.int (3)) :: st) h n q P := ev_go (congrFun (e_L_law_293 (X := X)) _)
set_option maxRecDepth 100000 in
theorem e_L_law_294 {X : ev_E} : (ev_TT X).1 309 294 = i_ii (fun a b => a + b) 295 := (congrFun tt_L_law 294).trans rfl
theorem t_L_law_294 {X : ev_E} {x y : Int32} {st : List Value} {lo : List Value} {h : ev_M} {n q : Nat} {P : ev_O → ev_M → Nat → Nat → Prop} : ev_ok (ev_TT X) 309 294 lo (.int y :: .int x :: st) h n q P ↔ ev_ok (ev_TT X) 309 295 lo (.int (x + y) :: st) h n q P := ev_go (congrFun (e_L_law_294 (X := X)) _)
set_option maxRecDepth 100000 in
theorem e_L_law_295 {X : ev_E} : (ev_TT X).1 309 295 = i_ald X ev_tI 296 := (congrFun tt_L_law 295).trans rfl
theorem t_L_law_295 {X : ev_E} {i : Int32} {x : Nat} {st : List Value} {lo : List Value} {h : ev_M} {n q : Nat} {P : ev_O → ev_M → Nat → Nat → Prop} : ev_ok (ev_TT X) 309 295 lo (.int i :: .ref x :: st) h n q P ↔ ev_inA (ev_lk X h x) i ev_tI ∧ ev_ok (ev_TT X) 309 296 lo (ev_aG (ev_lk X h x) i :: st) h n q P := ev_goG (congrFun (e_L_law_295 (X := X)) _)
set_option maxRecDepth 100000 in
theorem e_L_law_296 {X : ev_E} : (ev_TT X).1 309 296 = i_cV X 167 3 13 6 299 := (congrFun tt_L_law 296).trans rfl
theorem t_L_law_296 {X : ev_E} {x : Nat} {y2 : Int32} {y1 : Int32} {y0 : Int32} {lo : List Value} {h : ev_M} {n q : Nat} {P : ev_O → ev_M → Nat → Nat → Prop} : ev_ok (ev_TT X) 309 296 lo [.int y2, .int y1, .int y0, .ref x] h n q P ↔ ev_isK (ev_lk X h x) 13 ∧ ev_ok (ev_TT X) 167 0 [.ref x, .int y0, .int y1, .int y2, ev_J, ev_J] [] h n q (ev_kr (ev_TT X) 309 296 299 lo [] P) := (ev_caG (congrFun (e_L_law_296 (X := X)) _)).trans (and_congr_left' ⟨fun k => k.1, fun k => ⟨k, rfl, Or.inl (Nat.le_of_ble_eq_true rfl), Nat.le_of_ble_eq_true rfl⟩⟩)
theorem x_L_law_296 {X : ev_E} {lo st : List Value} {h : ev_M} {n q : Nat} {P : ev_O → ev_M → Nat → Nat → Prop} {E : Nat} : ev_kr (ev_TT X) 309 296 299 lo st P (.inr E) h n q ↔ P (.inr E) h n q := ev_kr_x rfl
set_option maxRecDepth 100000 in
theorem e_L_law_299 {X : ev_E} : (ev_TT X).1 309 299 = i_is 6 301 := (congrFun tt_L_law 299).trans rfl
theorem t_L_law_299 {X : ev_E} {st : List Value} {v : Int32} {a0 a1 a2 a3 a4 a5 a6 : Value} {h : ev_M} {n q : Nat} {P : ev_O → ev_M → Nat → Nat → Prop} : ev_ok (ev_TT X) 309 299 [a0, a1, a2, a3, a4, a5, a6] ((.int v) :: st) h n q P ↔ ev_ok (ev_TT X) 309 301 [a0, a1, a2, a3, a4, ev_k a5, .int v] st h n q P := ev_go (congrFun (e_L_law_299 (X := X)) _)
set_option maxRecDepth 100000 in
theorem e_L_law_301 {X : ev_E} : (ev_TT X).1 309 301 = i_goto 1713 := (congrFun tt_L_law 301).trans rfl
theorem t_L_law_301 {X : ev_E} {st : List Value} {lo : List Value} {h : ev_M} {n q : Nat} {P : ev_O → ev_M → Nat → Nat → Prop} : ev_ok (ev_TT X) 309 301 lo st h n q P ↔ ev_ok (ev_TT X) 309 1713 lo st h n q P := ev_go (congrFun (e_L_law_301 (X := X)) _)
set_option maxRecDepth 100000 in
theorem e_L_law_304 {X : ev_E} : (ev_TT X).1 309 304 = i_al 1 305 := (congrFun tt_L_law 304).trans rfl
theorem t_L_law_304 {X : ev_E} {st : List Value} {v : Nat} {a0 a2 a3 a4 a5 a6 : Value} {h : ev_M} {n q : Nat} {P : ev_O → ev_M → Nat → Nat → Prop} : ev_ok (ev_TT X) 309 304 [a0, .ref v, a2, a3, a4, a5, a6] st h n q P ↔ ev_ok (ev_TT X) 309 305 [a0, .ref v, a2, a3, a4, a5, a6] ((.ref v) :: st) h n q P := ev_go (congrFun (e_L_law_304 (X := X)) _)
set_option maxRecDepth 100000 in
theorem e_L_law_305 {X : ev_E} : (ev_TT X).1 309 305 = i_al 0 306 := (congrFun tt_L_law 305).trans rfl
theorem t_L_law_305 {X : ev_E} {st : List Value} {v : Nat} {a1 a2 a3 a4 a5 a6 : Value} {h : ev_M} {n q : Nat} {P : ev_O → ev_M → Nat → Nat → Prop} : ev_ok (ev_TT X) 309 305 [.ref v, a1, a2, a3, a4, a5, a6] st h n q P ↔ ev_ok (ev_TT X) 309 306 [.ref v, a1, a2, a3, a4, a5, a6] ((.ref v) :: st) h n q P := ev_go (congrFun (e_L_law_305 (X := X)) _)
set_option maxRecDepth 100000 in
theorem e_L_law_306 {X : ev_E} : (ev_TT X).1 309 306 = i_il 4 308 := (congrFun tt_L_law 306).trans rfl
theorem t_L_law_306 {X : ev_E} {st : List Value} {v : Int32} {a0 a1 a2 a3 a5 a6 : Value} {h : ev_M} {n q : Nat} {P : ev_O → ev_M → Nat → Nat → Prop} : ev_ok (ev_TT X) 309 306 [a0, a1, a2, a3, .int v, a5, a6] st h n q P ↔ ev_ok (ev_TT X) 309 308 [a0, a1, a2, a3, .int v, a5, a6] ((.int v) :: st) h n q P := ev_go (congrFun (e_L_law_306 (X := X)) _)
set_option maxRecDepth 100000 in
theorem e_L_law_308 {X : ev_E} : (ev_TT X).1 309 308 = i_psh (.int (1)) 309 := (congrFun tt_L_law 308).trans rfl
theorem t_L_law_308 {X : ev_E} {st : List Value} {lo : List Value} {h : ev_M} {n q : Nat} {P : ev_O → ev_M → Nat → Nat → Prop} : ev_ok (ev_TT X) 309 308 lo st h n q P ↔ ev_ok (ev_TT X) 309 309 lo ((.int (1)) :: st) h n q P := ev_go (congrFun (e_L_law_308 (X := X)) _)
set_option maxRecDepth 100000 in
theorem e_L_law_309 {X : ev_E} : (ev_TT X).1 309 309 = i_ii (fun a b => a + b) 310 := (congrFun tt_L_law 309).trans rfl
theorem t_L_law_309 {X : ev_E} {x y : Int32} {st : List Value} {lo : List Value} {h : ev_M} {n q : Nat} {P : ev_O → ev_M → Nat → Nat → Prop} : ev_ok (ev_TT X) 309 309 lo (.int y :: .int x :: st) h n q P ↔ ev_ok (ev_TT X) 309 310 lo (.int (x + y) :: st) h n q P := ev_go (congrFun (e_L_law_309 (X := X)) _)
set_option maxRecDepth 100000 in
theorem e_L_law_310 {X : ev_E} : (ev_TT X).1 309 310 = i_ald X ev_tI 311 := (congrFun tt_L_law 310).trans rfl
theorem t_L_law_310 {X : ev_E} {i : Int32} {x : Nat} {st : List Value} {lo : List Value} {h : ev_M} {n q : Nat} {P : ev_O → ev_M → Nat → Nat → Prop} : ev_ok (ev_TT X) 309 310 lo (.int i :: .ref x :: st) h n q P ↔ ev_inA (ev_lk X h x) i ev_tI ∧ ev_ok (ev_TT X) 309 311 lo (ev_aG (ev_lk X h x) i :: st) h n q P := ev_goG (congrFun (e_L_law_310 (X := X)) _)
set_option maxRecDepth 100000 in
theorem e_L_law_311 {X : ev_E} : (ev_TT X).1 309 311 = i_al 0 312 := (congrFun tt_L_law 311).trans rfl
theorem t_L_law_311 {X : ev_E} {st : List Value} {v : Nat} {a1 a2 a3 a4 a5 a6 : Value} {h : ev_M} {n q : Nat} {P : ev_O → ev_M → Nat → Nat → Prop} : ev_ok (ev_TT X) 309 311 [.ref v, a1, a2, a3, a4, a5, a6] st h n q P ↔ ev_ok (ev_TT X) 309 312 [.ref v, a1, a2, a3, a4, a5, a6] ((.ref v) :: st) h n q P := ev_go (congrFun (e_L_law_311 (X := X)) _)
set_option maxRecDepth 100000 in
theorem e_L_law_312 {X : ev_E} : (ev_TT X).1 309 312 = i_il 4 314 := (congrFun tt_L_law 312).trans rfl
theorem t_L_law_312 {X : ev_E} {st : List Value} {v : Int32} {a0 a1 a2 a3 a5 a6 : Value} {h : ev_M} {n q : Nat} {P : ev_O → ev_M → Nat → Nat → Prop} : ev_ok (ev_TT X) 309 312 [a0, a1, a2, a3, .int v, a5, a6] st h n q P ↔ ev_ok (ev_TT X) 309 314 [a0, a1, a2, a3, .int v, a5, a6] ((.int v) :: st) h n q P := ev_go (congrFun (e_L_law_312 (X := X)) _)
set_option maxRecDepth 100000 in
theorem e_L_law_314 {X : ev_E} : (ev_TT X).1 309 314 = i_psh (.int (2)) 315 := (congrFun tt_L_law 314).trans rfl
theorem t_L_law_314 {X : ev_E} {st : List Value} {lo : List Value} {h : ev_M} {n q : Nat} {P : ev_O → ev_M → Nat → Nat → Prop} : ev_ok (ev_TT X) 309 314 lo st h n q P ↔ ev_ok (ev_TT X) 309 315 lo ((.int (2)) :: st) h n q P := ev_go (congrFun (e_L_law_314 (X := X)) _)
set_option maxRecDepth 100000 in
theorem e_L_law_315 {X : ev_E} : (ev_TT X).1 309 315 = i_ii (fun a b => a + b) 316 := (congrFun tt_L_law 315).trans rfl
theorem t_L_law_315 {X : ev_E} {x y : Int32} {st : List Value} {lo : List Value} {h : ev_M} {n q : Nat} {P : ev_O → ev_M → Nat → Nat → Prop} : ev_ok (ev_TT X) 309 315 lo (.int y :: .int x :: st) h n q P ↔ ev_ok (ev_TT X) 309 316 lo (.int (x + y) :: st) h n q P := ev_go (congrFun (e_L_law_315 (X := X)) _)
set_option maxRecDepth 100000 in
theorem e_L_law_316 {X : ev_E} : (ev_TT X).1 309 316 = i_ald X ev_tI 317 := (congrFun tt_L_law 316).trans rfl
theorem t_L_law_316 {X : ev_E} {i : Int32} {x : Nat} {st : List Value} {lo : List Value} {h : ev_M} {n q : Nat} {P : ev_O → ev_M → Nat → Nat → Prop} : ev_ok (ev_TT X) 309 316 lo (.int i :: .ref x :: st) h n q P ↔ ev_inA (ev_lk X h x) i ev_tI ∧ ev_ok (ev_TT X) 309 317 lo (ev_aG (ev_lk X h x) i :: st) h n q P := ev_goG (congrFun (e_L_law_316 (X := X)) _)
set_option maxRecDepth 100000 in
theorem e_L_law_317 {X : ev_E} : (ev_TT X).1 309 317 = i_al 0 318 := (congrFun tt_L_law 317).trans rfl
theorem t_L_law_317 {X : ev_E} {st : List Value} {v : Nat} {a1 a2 a3 a4 a5 a6 : Value} {h : ev_M} {n q : Nat} {P : ev_O → ev_M → Nat → Nat → Prop} : ev_ok (ev_TT X) 309 317 [.ref v, a1, a2, a3, a4, a5, a6] st h n q P ↔ ev_ok (ev_TT X) 309 318 [.ref v, a1, a2, a3, a4, a5, a6] ((.ref v) :: st) h n q P := ev_go (congrFun (e_L_law_317 (X := X)) _)
set_option maxRecDepth 100000 in
theorem e_L_law_318 {X : ev_E} : (ev_TT X).1 309 318 = i_il 4 320 := (congrFun tt_L_law 318).trans rfl
theorem t_L_law_318 {X : ev_E} {st : List Value} {v : Int32} {a0 a1 a2 a3 a5 a6 : Value} {h : ev_M} {n q : Nat} {P : ev_O → ev_M → Nat → Nat → Prop} : ev_ok (ev_TT X) 309 318 [a0, a1, a2, a3, .int v, a5, a6] st h n q P ↔ ev_ok (ev_TT X) 309 320 [a0, a1, a2, a3, .int v, a5, a6] ((.int v) :: st) h n q P := ev_go (congrFun (e_L_law_318 (X := X)) _)
set_option maxRecDepth 100000 in
theorem e_L_law_320 {X : ev_E} : (ev_TT X).1 309 320 = i_psh (.int (3)) 321 := (congrFun tt_L_law 320).trans rfl
theorem t_L_law_320 {X : ev_E} {st : List Value} {lo : List Value} {h : ev_M} {n q : Nat} {P : ev_O → ev_M → Nat → Nat → Prop} : ev_ok (ev_TT X) 309 320 lo st h n q P ↔ ev_ok (ev_TT X) 309 321 lo ((.int (3)) :: st) h n q P := ev_go (congrFun (e_L_law_320 (X := X)) _)
set_option maxRecDepth 100000 in
theorem e_L_law_321 {X : ev_E} : (ev_TT X).1 309 321 = i_ii (fun a b => a + b) 322 := (congrFun tt_L_law 321).trans rfl
theorem t_L_law_321 {X : ev_E} {x y : Int32} {st : List Value} {lo : List Value} {h : ev_M} {n q : Nat} {P : ev_O → ev_M → Nat → Nat → Prop} : ev_ok (ev_TT X) 309 321 lo (.int y :: .int x :: st) h n q P ↔ ev_ok (ev_TT X) 309 322 lo (.int (x + y) :: st) h n q P := ev_go (congrFun (e_L_law_321 (X := X)) _)
set_option maxRecDepth 100000 in
theorem e_L_law_322 {X : ev_E} : (ev_TT X).1 309 322 = i_ald X ev_tI 323 := (congrFun tt_L_law 322).trans rfl
theorem t_L_law_322 {X : ev_E} {i : Int32} {x : Nat} {st : List Value} {lo : List Value} {h : ev_M} {n q : Nat} {P : ev_O → ev_M → Nat → Nat → Prop} : ev_ok (ev_TT X) 309 322 lo (.int i :: .ref x :: st) h n q P ↔ ev_inA (ev_lk X h x) i ev_tI ∧ ev_ok (ev_TT X) 309 323 lo (ev_aG (ev_lk X h x) i :: st) h n q P := ev_goG (congrFun (e_L_law_322 (X := X)) _)
set_option maxRecDepth 100000 in
theorem e_L_law_323 {X : ev_E} : (ev_TT X).1 309 323 = i_al 3 324 := (congrFun tt_L_law 323).trans rfl
theorem t_L_law_323 {X : ev_E} {st : List Value} {v : Nat} {a0 a1 a2 a4 a5 a6 : Value} {h : ev_M} {n q : Nat} {P : ev_O → ev_M → Nat → Nat → Prop} : ev_ok (ev_TT X) 309 323 [a0, a1, a2, .ref v, a4, a5, a6] st h n q P ↔ ev_ok (ev_TT X) 309 324 [a0, a1, a2, .ref v, a4, a5, a6] ((.ref v) :: st) h n q P := ev_go (congrFun (e_L_law_323 (X := X)) _)
set_option maxRecDepth 100000 in
theorem e_L_law_324 {X : ev_E} : (ev_TT X).1 309 324 = i_cS 251 5 6 327 := (congrFun tt_L_law 324).trans rfl
theorem t_L_law_324 {X : ev_E} {y4 : Nat} {y3 : Int32} {y2 : Int32} {y1 : Int32} {y0 : Nat} {lo : List Value} {h : ev_M} {n q : Nat} {P : ev_O → ev_M → Nat → Nat → Prop} : ev_ok (ev_TT X) 309 324 lo [.ref y4, .int y3, .int y2, .int y1, .ref y0] h n q P ↔ ev_ok (ev_TT X) 251 0 [.ref y0, .int y1, .int y2, .int y3, .ref y4, ev_J] [] h n q (ev_kr (ev_TT X) 309 324 327 lo [] P) := (ev_caG (congrFun (e_L_law_324 (X := X)) _)).trans ⟨fun k => k.2, fun k => ⟨⟨rfl, Nat.le_of_ble_eq_true rfl, Nat.le_of_ble_eq_true rfl⟩, k⟩⟩
set_option maxRecDepth 100000 in
theorem e_L_law_327 {X : ev_E} : (ev_TT X).1 309 327 = i_is 5 329 := (congrFun tt_L_law 327).trans rfl
theorem t_L_law_327 {X : ev_E} {st : List Value} {v : Int32} {a0 a1 a2 a3 a4 a5 a6 : Value} {h : ev_M} {n q : Nat} {P : ev_O → ev_M → Nat → Nat → Prop} : ev_ok (ev_TT X) 309 327 [a0, a1, a2, a3, a4, a5, a6] ((.int v) :: st) h n q P ↔ ev_ok (ev_TT X) 309 329 [a0, a1, a2, a3, ev_k a4, .int v, a6] st h n q P := ev_go (congrFun (e_L_law_327 (X := X)) _)
set_option maxRecDepth 100000 in
theorem e_L_law_329 {X : ev_E} : (ev_TT X).1 309 329 = i_al 2 330 := (congrFun tt_L_law 329).trans rfl
theorem t_L_law_329 {X : ev_E} {st : List Value} {v : Nat} {a0 a1 a3 a4 a5 a6 : Value} {h : ev_M} {n q : Nat} {P : ev_O → ev_M → Nat → Nat → Prop} : ev_ok (ev_TT X) 309 329 [a0, a1, .ref v, a3, a4, a5, a6] st h n q P ↔ ev_ok (ev_TT X) 309 330 [a0, a1, .ref v, a3, a4, a5, a6] ((.ref v) :: st) h n q P := ev_go (congrFun (e_L_law_329 (X := X)) _)
set_option maxRecDepth 100000 in
theorem e_L_law_330 {X : ev_E} : (ev_TT X).1 309 330 = i_al 0 331 := (congrFun tt_L_law 330).trans rfl
theorem t_L_law_330 {X : ev_E} {st : List Value} {v : Nat} {a1 a2 a3 a4 a5 a6 : Value} {h : ev_M} {n q : Nat} {P : ev_O → ev_M → Nat → Nat → Prop} : ev_ok (ev_TT X) 309 330 [.ref v, a1, a2, a3, a4, a5, a6] st h n q P ↔ ev_ok (ev_TT X) 309 331 [.ref v, a1, a2, a3, a4, a5, a6] ((.ref v) :: st) h n q P := ev_go (congrFun (e_L_law_330 (X := X)) _)
set_option maxRecDepth 100000 in
theorem e_L_law_331 {X : ev_E} : (ev_TT X).1 309 331 = i_il 4 333 := (congrFun tt_L_law 331).trans rfl
theorem t_L_law_331 {X : ev_E} {st : List Value} {v : Int32} {a0 a1 a2 a3 a5 a6 : Value} {h : ev_M} {n q : Nat} {P : ev_O → ev_M → Nat → Nat → Prop} : ev_ok (ev_TT X) 309 331 [a0, a1, a2, a3, .int v, a5, a6] st h n q P ↔ ev_ok (ev_TT X) 309 333 [a0, a1, a2, a3, .int v, a5, a6] ((.int v) :: st) h n q P := ev_go (congrFun (e_L_law_331 (X := X)) _)
set_option maxRecDepth 100000 in
theorem e_L_law_333 {X : ev_E} : (ev_TT X).1 309 333 = i_psh (.int (1)) 334 := (congrFun tt_L_law 333).trans rfl
theorem t_L_law_333 {X : ev_E} {st : List Value} {lo : List Value} {h : ev_M} {n q : Nat} {P : ev_O → ev_M → Nat → Nat → Prop} : ev_ok (ev_TT X) 309 333 lo st h n q P ↔ ev_ok (ev_TT X) 309 334 lo ((.int (1)) :: st) h n q P := ev_go (congrFun (e_L_law_333 (X := X)) _)
set_option maxRecDepth 100000 in
theorem e_L_law_334 {X : ev_E} : (ev_TT X).1 309 334 = i_ii (fun a b => a + b) 335 := (congrFun tt_L_law 334).trans rfl
theorem t_L_law_334 {X : ev_E} {x y : Int32} {st : List Value} {lo : List Value} {h : ev_M} {n q : Nat} {P : ev_O → ev_M → Nat → Nat → Prop} : ev_ok (ev_TT X) 309 334 lo (.int y :: .int x :: st) h n q P ↔ ev_ok (ev_TT X) 309 335 lo (.int (x + y) :: st) h n q P := ev_go (congrFun (e_L_law_334 (X := X)) _)
set_option maxRecDepth 100000 in
theorem e_L_law_335 {X : ev_E} : (ev_TT X).1 309 335 = i_ald X ev_tI 336 := (congrFun tt_L_law 335).trans rfl
theorem t_L_law_335 {X : ev_E} {i : Int32} {x : Nat} {st : List Value} {lo : List Value} {h : ev_M} {n q : Nat} {P : ev_O → ev_M → Nat → Nat → Prop} : ev_ok (ev_TT X) 309 335 lo (.int i :: .ref x :: st) h n q P ↔ ev_inA (ev_lk X h x) i ev_tI ∧ ev_ok (ev_TT X) 309 336 lo (ev_aG (ev_lk X h x) i :: st) h n q P := ev_goG (congrFun (e_L_law_335 (X := X)) _)
set_option maxRecDepth 100000 in
theorem e_L_law_336 {X : ev_E} : (ev_TT X).1 309 336 = i_al 0 337 := (congrFun tt_L_law 336).trans rfl
theorem t_L_law_336 {X : ev_E} {st : List Value} {v : Nat} {a1 a2 a3 a4 a5 a6 : Value} {h : ev_M} {n q : Nat} {P : ev_O → ev_M → Nat → Nat → Prop} : ev_ok (ev_TT X) 309 336 [.ref v, a1, a2, a3, a4, a5, a6] st h n q P ↔ ev_ok (ev_TT X) 309 337 [.ref v, a1, a2, a3, a4, a5, a6] ((.ref v) :: st) h n q P := ev_go (congrFun (e_L_law_336 (X := X)) _)
set_option maxRecDepth 100000 in
theorem e_L_law_337 {X : ev_E} : (ev_TT X).1 309 337 = i_il 4 339 := (congrFun tt_L_law 337).trans rfl
theorem t_L_law_337 {X : ev_E} {st : List Value} {v : Int32} {a0 a1 a2 a3 a5 a6 : Value} {h : ev_M} {n q : Nat} {P : ev_O → ev_M → Nat → Nat → Prop} : ev_ok (ev_TT X) 309 337 [a0, a1, a2, a3, .int v, a5, a6] st h n q P ↔ ev_ok (ev_TT X) 309 339 [a0, a1, a2, a3, .int v, a5, a6] ((.int v) :: st) h n q P := ev_go (congrFun (e_L_law_337 (X := X)) _)
set_option maxRecDepth 100000 in
theorem e_L_law_339 {X : ev_E} : (ev_TT X).1 309 339 = i_psh (.int (2)) 340 := (congrFun tt_L_law 339).trans rfl
theorem t_L_law_339 {X : ev_E} {st : List Value} {lo : List Value} {h : ev_M} {n q : Nat} {P : ev_O → ev_M → Nat → Nat → Prop} : ev_ok (ev_TT X) 309 339 lo st h n q P ↔ ev_ok (ev_TT X) 309 340 lo ((.int (2)) :: st) h n q P := ev_go (congrFun (e_L_law_339 (X := X)) _)
set_option maxRecDepth 100000 in
theorem e_L_law_340 {X : ev_E} : (ev_TT X).1 309 340 = i_ii (fun a b => a + b) 341 := (congrFun tt_L_law 340).trans rfl
theorem t_L_law_340 {X : ev_E} {x y : Int32} {st : List Value} {lo : List Value} {h : ev_M} {n q : Nat} {P : ev_O → ev_M → Nat → Nat → Prop} : ev_ok (ev_TT X) 309 340 lo (.int y :: .int x :: st) h n q P ↔ ev_ok (ev_TT X) 309 341 lo (.int (x + y) :: st) h n q P := ev_go (congrFun (e_L_law_340 (X := X)) _)
set_option maxRecDepth 100000 in
theorem e_L_law_341 {X : ev_E} : (ev_TT X).1 309 341 = i_ald X ev_tI 342 := (congrFun tt_L_law 341).trans rfl
theorem t_L_law_341 {X : ev_E} {i : Int32} {x : Nat} {st : List Value} {lo : List Value} {h : ev_M} {n q : Nat} {P : ev_O → ev_M → Nat → Nat → Prop} : ev_ok (ev_TT X) 309 341 lo (.int i :: .ref x :: st) h n q P ↔ ev_inA (ev_lk X h x) i ev_tI ∧ ev_ok (ev_TT X) 309 342 lo (ev_aG (ev_lk X h x) i :: st) h n q P := ev_goG (congrFun (e_L_law_341 (X := X)) _)
set_option maxRecDepth 100000 in
theorem e_L_law_342 {X : ev_E} : (ev_TT X).1 309 342 = i_al 0 343 := (congrFun tt_L_law 342).trans rfl
theorem t_L_law_342 {X : ev_E} {st : List Value} {v : Nat} {a1 a2 a3 a4 a5 a6 : Value} {h : ev_M} {n q : Nat} {P : ev_O → ev_M → Nat → Nat → Prop} : ev_ok (ev_TT X) 309 342 [.ref v, a1, a2, a3, a4, a5, a6] st h n q P ↔ ev_ok (ev_TT X) 309 343 [.ref v, a1, a2, a3, a4, a5, a6] ((.ref v) :: st) h n q P := ev_go (congrFun (e_L_law_342 (X := X)) _)
set_option maxRecDepth 100000 in
theorem e_L_law_343 {X : ev_E} : (ev_TT X).1 309 343 = i_il 4 345 := (congrFun tt_L_law 343).trans rfl
theorem t_L_law_343 {X : ev_E} {st : List Value} {v : Int32} {a0 a1 a2 a3 a5 a6 : Value} {h : ev_M} {n q : Nat} {P : ev_O → ev_M → Nat → Nat → Prop} : ev_ok (ev_TT X) 309 343 [a0, a1, a2, a3, .int v, a5, a6] st h n q P ↔ ev_ok (ev_TT X) 309 345 [a0, a1, a2, a3, .int v, a5, a6] ((.int v) :: st) h n q P := ev_go (congrFun (e_L_law_343 (X := X)) _)
set_option maxRecDepth 100000 in
theorem e_L_law_345 {X : ev_E} : (ev_TT X).1 309 345 = i_psh (.int (3)) 346 := (congrFun tt_L_law 345).trans rfl
theorem t_L_law_345 {X : ev_E} {st : List Value} {lo : List Value} {h : ev_M} {n q : Nat} {P : ev_O → ev_M → Nat → Nat → Prop} : ev_ok (ev_TT X) 309 345 lo st h n q P ↔ ev_ok (ev_TT X) 309 346 lo ((.int (3)) :: st) h n q P := ev_go (congrFun (e_L_law_345 (X := X)) _)
set_option maxRecDepth 100000 in
theorem e_L_law_346 {X : ev_E} : (ev_TT X).1 309 346 = i_ii (fun a b => a + b) 347 := (congrFun tt_L_law 346).trans rfl
theorem t_L_law_346 {X : ev_E} {x y : Int32} {st : List Value} {lo : List Value} {h : ev_M} {n q : Nat} {P : ev_O → ev_M → Nat → Nat → Prop} : ev_ok (ev_TT X) 309 346 lo (.int y :: .int x :: st) h n q P ↔ ev_ok (ev_TT X) 309 347 lo (.int (x + y) :: st) h n q P := ev_go (congrFun (e_L_law_346 (X := X)) _)
set_option maxRecDepth 100000 in
theorem e_L_law_347 {X : ev_E} : (ev_TT X).1 309 347 = i_ald X ev_tI 348 := (congrFun tt_L_law 347).trans rfl
theorem t_L_law_347 {X : ev_E} {i : Int32} {x : Nat} {st : List Value} {lo : List Value} {h : ev_M} {n q : Nat} {P : ev_O → ev_M → Nat → Nat → Prop} : ev_ok (ev_TT X) 309 347 lo (.int i :: .ref x :: st) h n q P ↔ ev_inA (ev_lk X h x) i ev_tI ∧ ev_ok (ev_TT X) 309 348 lo (ev_aG (ev_lk X h x) i :: st) h n q P := ev_goG (congrFun (e_L_law_347 (X := X)) _)
set_option maxRecDepth 100000 in
theorem e_L_law_348 {X : ev_E} : (ev_TT X).1 309 348 = i_cV X 293 3 13 7 351 := (congrFun tt_L_law 348).trans rfl
theorem t_L_law_348 {X : ev_E} {x : Nat} {y2 : Int32} {y1 : Int32} {y0 : Int32} {lo : List Value} {h : ev_M} {n q : Nat} {P : ev_O → ev_M → Nat → Nat → Prop} : ev_ok (ev_TT X) 309 348 lo [.int y2, .int y1, .int y0, .ref x] h n q P ↔ ev_isK (ev_lk X h x) 13 ∧ ev_ok (ev_TT X) 293 0 [.ref x, .int y0, .int y1, .int y2, ev_J, ev_J, ev_J] [] h n q (ev_kr (ev_TT X) 309 348 351 lo [] P) := (ev_caG (congrFun (e_L_law_348 (X := X)) _)).trans (and_congr_left' ⟨fun k => k.1, fun k => ⟨k, rfl, Or.inl (Nat.le_of_ble_eq_true rfl), Nat.le_of_ble_eq_true rfl⟩⟩)
theorem x_L_law_348 {X : ev_E} {lo st : List Value} {h : ev_M} {n q : Nat} {P : ev_O → ev_M → Nat → Nat → Prop} {E : Nat} : ev_kr (ev_TT X) 309 348 351 lo st P (.inr E) h n q ↔ P (.inr E) h n q := ev_kr_x rfl
set_option maxRecDepth 100000 in
theorem e_L_law_351 {X : ev_E} : (ev_TT X).1 309 351 = i_is 6 353 := (congrFun tt_L_law 351).trans rfl
theorem t_L_law_351 {X : ev_E} {st : List Value} {v : Int32} {a0 a1 a2 a3 a4 a5 a6 : Value} {h : ev_M} {n q : Nat} {P : ev_O → ev_M → Nat → Nat → Prop} : ev_ok (ev_TT X) 309 351 [a0, a1, a2, a3, a4, a5, a6] ((.int v) :: st) h n q P ↔ ev_ok (ev_TT X) 309 353 [a0, a1, a2, a3, a4, ev_k a5, .int v] st h n q P := ev_go (congrFun (e_L_law_351 (X := X)) _)
set_option maxRecDepth 100000 in
theorem e_L_law_353 {X : ev_E} : (ev_TT X).1 309 353 = i_goto 1713 := (congrFun tt_L_law 353).trans rfl
theorem t_L_law_353 {X : ev_E} {st : List Value} {lo : List Value} {h : ev_M} {n q : Nat} {P : ev_O → ev_M → Nat → Nat → Prop} : ev_ok (ev_TT X) 309 353 lo st h n q P ↔ ev_ok (ev_TT X) 309 1713 lo st h n q P := ev_go (congrFun (e_L_law_353 (X := X)) _)
set_option maxRecDepth 100000 in
theorem e_L_law_356 {X : ev_E} : (ev_TT X).1 309 356 = i_al 1 357 := (congrFun tt_L_law 356).trans rfl
theorem t_L_law_356 {X : ev_E} {st : List Value} {v : Nat} {a0 a2 a3 a4 a5 a6 : Value} {h : ev_M} {n q : Nat} {P : ev_O → ev_M → Nat → Nat → Prop} : ev_ok (ev_TT X) 309 356 [a0, .ref v, a2, a3, a4, a5, a6] st h n q P ↔ ev_ok (ev_TT X) 309 357 [a0, .ref v, a2, a3, a4, a5, a6] ((.ref v) :: st) h n q P := ev_go (congrFun (e_L_law_356 (X := X)) _)
set_option maxRecDepth 100000 in
theorem e_L_law_357 {X : ev_E} : (ev_TT X).1 309 357 = i_al 0 358 := (congrFun tt_L_law 357).trans rfl
theorem t_L_law_357 {X : ev_E} {st : List Value} {v : Nat} {a1 a2 a3 a4 a5 a6 : Value} {h : ev_M} {n q : Nat} {P : ev_O → ev_M → Nat → Nat → Prop} : ev_ok (ev_TT X) 309 357 [.ref v, a1, a2, a3, a4, a5, a6] st h n q P ↔ ev_ok (ev_TT X) 309 358 [.ref v, a1, a2, a3, a4, a5, a6] ((.ref v) :: st) h n q P := ev_go (congrFun (e_L_law_357 (X := X)) _)
set_option maxRecDepth 100000 in
theorem e_L_law_358 {X : ev_E} : (ev_TT X).1 309 358 = i_il 4 360 := (congrFun tt_L_law 358).trans rfl
theorem t_L_law_358 {X : ev_E} {st : List Value} {v : Int32} {a0 a1 a2 a3 a5 a6 : Value} {h : ev_M} {n q : Nat} {P : ev_O → ev_M → Nat → Nat → Prop} : ev_ok (ev_TT X) 309 358 [a0, a1, a2, a3, .int v, a5, a6] st h n q P ↔ ev_ok (ev_TT X) 309 360 [a0, a1, a2, a3, .int v, a5, a6] ((.int v) :: st) h n q P := ev_go (congrFun (e_L_law_358 (X := X)) _)
set_option maxRecDepth 100000 in
theorem e_L_law_360 {X : ev_E} : (ev_TT X).1 309 360 = i_psh (.int (1)) 361 := (congrFun tt_L_law 360).trans rfl
theorem t_L_law_360 {X : ev_E} {st : List Value} {lo : List Value} {h : ev_M} {n q : Nat} {P : ev_O → ev_M → Nat → Nat → Prop} : ev_ok (ev_TT X) 309 360 lo st h n q P ↔ ev_ok (ev_TT X) 309 361 lo ((.int (1)) :: st) h n q P := ev_go (congrFun (e_L_law_360 (X := X)) _)
set_option maxRecDepth 100000 in
theorem e_L_law_361 {X : ev_E} : (ev_TT X).1 309 361 = i_ii (fun a b => a + b) 362 := (congrFun tt_L_law 361).trans rfl
theorem t_L_law_361 {X : ev_E} {x y : Int32} {st : List Value} {lo : List Value} {h : ev_M} {n q : Nat} {P : ev_O → ev_M → Nat → Nat → Prop} : ev_ok (ev_TT X) 309 361 lo (.int y :: .int x :: st) h n q P ↔ ev_ok (ev_TT X) 309 362 lo (.int (x + y) :: st) h n q P := ev_go (congrFun (e_L_law_361 (X := X)) _)
set_option maxRecDepth 100000 in
theorem e_L_law_362 {X : ev_E} : (ev_TT X).1 309 362 = i_ald X ev_tI 363 := (congrFun tt_L_law 362).trans rfl
theorem t_L_law_362 {X : ev_E} {i : Int32} {x : Nat} {st : List Value} {lo : List Value} {h : ev_M} {n q : Nat} {P : ev_O → ev_M → Nat → Nat → Prop} : ev_ok (ev_TT X) 309 362 lo (.int i :: .ref x :: st) h n q P ↔ ev_inA (ev_lk X h x) i ev_tI ∧ ev_ok (ev_TT X) 309 363 lo (ev_aG (ev_lk X h x) i :: st) h n q P := ev_goG (congrFun (e_L_law_362 (X := X)) _)
set_option maxRecDepth 100000 in
theorem e_L_law_363 {X : ev_E} : (ev_TT X).1 309 363 = i_al 0 364 := (congrFun tt_L_law 363).trans rfl
theorem t_L_law_363 {X : ev_E} {st : List Value} {v : Nat} {a1 a2 a3 a4 a5 a6 : Value} {h : ev_M} {n q : Nat} {P : ev_O → ev_M → Nat → Nat → Prop} : ev_ok (ev_TT X) 309 363 [.ref v, a1, a2, a3, a4, a5, a6] st h n q P ↔ ev_ok (ev_TT X) 309 364 [.ref v, a1, a2, a3, a4, a5, a6] ((.ref v) :: st) h n q P := ev_go (congrFun (e_L_law_363 (X := X)) _)
set_option maxRecDepth 100000 in
theorem e_L_law_364 {X : ev_E} : (ev_TT X).1 309 364 = i_il 4 366 := (congrFun tt_L_law 364).trans rfl
theorem t_L_law_364 {X : ev_E} {st : List Value} {v : Int32} {a0 a1 a2 a3 a5 a6 : Value} {h : ev_M} {n q : Nat} {P : ev_O → ev_M → Nat → Nat → Prop} : ev_ok (ev_TT X) 309 364 [a0, a1, a2, a3, .int v, a5, a6] st h n q P ↔ ev_ok (ev_TT X) 309 366 [a0, a1, a2, a3, .int v, a5, a6] ((.int v) :: st) h n q P := ev_go (congrFun (e_L_law_364 (X := X)) _)
set_option maxRecDepth 100000 in
theorem e_L_law_366 {X : ev_E} : (ev_TT X).1 309 366 = i_psh (.int (2)) 367 := (congrFun tt_L_law 366).trans rfl
theorem t_L_law_366 {X : ev_E} {st : List Value} {lo : List Value} {h : ev_M} {n q : Nat} {P : ev_O → ev_M → Nat → Nat → Prop} : ev_ok (ev_TT X) 309 366 lo st h n q P ↔ ev_ok (ev_TT X) 309 367 lo ((.int (2)) :: st) h n q P := ev_go (congrFun (e_L_law_366 (X := X)) _)
set_option maxRecDepth 100000 in
theorem e_L_law_367 {X : ev_E} : (ev_TT X).1 309 367 = i_ii (fun a b => a + b) 368 := (congrFun tt_L_law 367).trans rfl
theorem t_L_law_367 {X : ev_E} {x y : Int32} {st : List Value} {lo : List Value} {h : ev_M} {n q : Nat} {P : ev_O → ev_M → Nat → Nat → Prop} : ev_ok (ev_TT X) 309 367 lo (.int y :: .int x :: st) h n q P ↔ ev_ok (ev_TT X) 309 368 lo (.int (x + y) :: st) h n q P := ev_go (congrFun (e_L_law_367 (X := X)) _)
set_option maxRecDepth 100000 in
theorem e_L_law_368 {X : ev_E} : (ev_TT X).1 309 368 = i_ald X ev_tI 369 := (congrFun tt_L_law 368).trans rfl
theorem t_L_law_368 {X : ev_E} {i : Int32} {x : Nat} {st : List Value} {lo : List Value} {h : ev_M} {n q : Nat} {P : ev_O → ev_M → Nat → Nat → Prop} : ev_ok (ev_TT X) 309 368 lo (.int i :: .ref x :: st) h n q P ↔ ev_inA (ev_lk X h x) i ev_tI ∧ ev_ok (ev_TT X) 309 369 lo (ev_aG (ev_lk X h x) i :: st) h n q P := ev_goG (congrFun (e_L_law_368 (X := X)) _)
set_option maxRecDepth 100000 in
theorem e_L_law_369 {X : ev_E} : (ev_TT X).1 309 369 = i_al 0 370 := (congrFun tt_L_law 369).trans rfl
theorem t_L_law_369 {X : ev_E} {st : List Value} {v : Nat} {a1 a2 a3 a4 a5 a6 : Value} {h : ev_M} {n q : Nat} {P : ev_O → ev_M → Nat → Nat → Prop} : ev_ok (ev_TT X) 309 369 [.ref v, a1, a2, a3, a4, a5, a6] st h n q P ↔ ev_ok (ev_TT X) 309 370 [.ref v, a1, a2, a3, a4, a5, a6] ((.ref v) :: st) h n q P := ev_go (congrFun (e_L_law_369 (X := X)) _)
set_option maxRecDepth 100000 in
theorem e_L_law_370 {X : ev_E} : (ev_TT X).1 309 370 = i_il 4 372 := (congrFun tt_L_law 370).trans rfl
theorem t_L_law_370 {X : ev_E} {st : List Value} {v : Int32} {a0 a1 a2 a3 a5 a6 : Value} {h : ev_M} {n q : Nat} {P : ev_O → ev_M → Nat → Nat → Prop} : ev_ok (ev_TT X) 309 370 [a0, a1, a2, a3, .int v, a5, a6] st h n q P ↔ ev_ok (ev_TT X) 309 372 [a0, a1, a2, a3, .int v, a5, a6] ((.int v) :: st) h n q P := ev_go (congrFun (e_L_law_370 (X := X)) _)
set_option maxRecDepth 100000 in
theorem e_L_law_372 {X : ev_E} : (ev_TT X).1 309 372 = i_psh (.int (3)) 373 := (congrFun tt_L_law 372).trans rfl
theorem t_L_law_372 {X : ev_E} {st : List Value} {lo : List Value} {h : ev_M} {n q : Nat} {P : ev_O → ev_M → Nat → Nat → Prop} : ev_ok (ev_TT X) 309 372 lo st h n q P ↔ ev_ok (ev_TT X) 309 373 lo ((.int (3)) :: st) h n q P := ev_go (congrFun (e_L_law_372 (X := X)) _)
set_option maxRecDepth 100000 in
theorem e_L_law_373 {X : ev_E} : (ev_TT X).1 309 373 = i_ii (fun a b => a + b) 374 := (congrFun tt_L_law 373).trans rfl
theorem t_L_law_373 {X : ev_E} {x y : Int32} {st : List Value} {lo : List Value} {h : ev_M} {n q : Nat} {P : ev_O → ev_M → Nat → Nat → Prop} : ev_ok (ev_TT X) 309 373 lo (.int y :: .int x :: st) h n q P ↔ ev_ok (ev_TT X) 309 374 lo (.int (x + y) :: st) h n q P := ev_go (congrFun (e_L_law_373 (X := X)) _)
set_option maxRecDepth 100000 in
theorem e_L_law_374 {X : ev_E} : (ev_TT X).1 309 374 = i_ald X ev_tI 375 := (congrFun tt_L_law 374).trans rfl
theorem t_L_law_374 {X : ev_E} {i : Int32} {x : Nat} {st : List Value} {lo : List Value} {h : ev_M} {n q : Nat} {P : ev_O → ev_M → Nat → Nat → Prop} : ev_ok (ev_TT X) 309 374 lo (.int i :: .ref x :: st) h n q P ↔ ev_inA (ev_lk X h x) i ev_tI ∧ ev_ok (ev_TT X) 309 375 lo (ev_aG (ev_lk X h x) i :: st) h n q P := ev_goG (congrFun (e_L_law_374 (X := X)) _)
set_option maxRecDepth 100000 in
theorem e_L_law_375 {X : ev_E} : (ev_TT X).1 309 375 = i_al 3 376 := (congrFun tt_L_law 375).trans rfl
theorem t_L_law_375 {X : ev_E} {st : List Value} {v : Nat} {a0 a1 a2 a4 a5 a6 : Value} {h : ev_M} {n q : Nat} {P : ev_O → ev_M → Nat → Nat → Prop} : ev_ok (ev_TT X) 309 375 [a0, a1, a2, .ref v, a4, a5, a6] st h n q P ↔ ev_ok (ev_TT X) 309 376 [a0, a1, a2, .ref v, a4, a5, a6] ((.ref v) :: st) h n q P := ev_go (congrFun (e_L_law_375 (X := X)) _)
set_option maxRecDepth 100000 in
theorem e_L_law_376 {X : ev_E} : (ev_TT X).1 309 376 = i_cS 262 5 6 379 := (congrFun tt_L_law 376).trans rfl
theorem t_L_law_376 {X : ev_E} {y4 : Nat} {y3 : Int32} {y2 : Int32} {y1 : Int32} {y0 : Nat} {lo : List Value} {h : ev_M} {n q : Nat} {P : ev_O → ev_M → Nat → Nat → Prop} : ev_ok (ev_TT X) 309 376 lo [.ref y4, .int y3, .int y2, .int y1, .ref y0] h n q P ↔ ev_ok (ev_TT X) 262 0 [.ref y0, .int y1, .int y2, .int y3, .ref y4, ev_J] [] h n q (ev_kr (ev_TT X) 309 376 379 lo [] P) := (ev_caG (congrFun (e_L_law_376 (X := X)) _)).trans ⟨fun k => k.2, fun k => ⟨⟨rfl, Nat.le_of_ble_eq_true rfl, Nat.le_of_ble_eq_true rfl⟩, k⟩⟩
set_option maxRecDepth 100000 in
theorem e_L_law_379 {X : ev_E} : (ev_TT X).1 309 379 = i_is 5 381 := (congrFun tt_L_law 379).trans rfl
theorem t_L_law_379 {X : ev_E} {st : List Value} {v : Int32} {a0 a1 a2 a3 a4 a5 a6 : Value} {h : ev_M} {n q : Nat} {P : ev_O → ev_M → Nat → Nat → Prop} : ev_ok (ev_TT X) 309 379 [a0, a1, a2, a3, a4, a5, a6] ((.int v) :: st) h n q P ↔ ev_ok (ev_TT X) 309 381 [a0, a1, a2, a3, ev_k a4, .int v, a6] st h n q P := ev_go (congrFun (e_L_law_379 (X := X)) _)
set_option maxRecDepth 100000 in
theorem e_L_law_381 {X : ev_E} : (ev_TT X).1 309 381 = i_al 2 382 := (congrFun tt_L_law 381).trans rfl
theorem t_L_law_381 {X : ev_E} {st : List Value} {v : Nat} {a0 a1 a3 a4 a5 a6 : Value} {h : ev_M} {n q : Nat} {P : ev_O → ev_M → Nat → Nat → Prop} : ev_ok (ev_TT X) 309 381 [a0, a1, .ref v, a3, a4, a5, a6] st h n q P ↔ ev_ok (ev_TT X) 309 382 [a0, a1, .ref v, a3, a4, a5, a6] ((.ref v) :: st) h n q P := ev_go (congrFun (e_L_law_381 (X := X)) _)
set_option maxRecDepth 100000 in
theorem e_L_law_382 {X : ev_E} : (ev_TT X).1 309 382 = i_al 0 383 := (congrFun tt_L_law 382).trans rfl
theorem t_L_law_382 {X : ev_E} {st : List Value} {v : Nat} {a1 a2 a3 a4 a5 a6 : Value} {h : ev_M} {n q : Nat} {P : ev_O → ev_M → Nat → Nat → Prop} : ev_ok (ev_TT X) 309 382 [.ref v, a1, a2, a3, a4, a5, a6] st h n q P ↔ ev_ok (ev_TT X) 309 383 [.ref v, a1, a2, a3, a4, a5, a6] ((.ref v) :: st) h n q P := ev_go (congrFun (e_L_law_382 (X := X)) _)
set_option maxRecDepth 100000 in
theorem e_L_law_383 {X : ev_E} : (ev_TT X).1 309 383 = i_il 4 385 := (congrFun tt_L_law 383).trans rfl
theorem t_L_law_383 {X : ev_E} {st : List Value} {v : Int32} {a0 a1 a2 a3 a5 a6 : Value} {h : ev_M} {n q : Nat} {P : ev_O → ev_M → Nat → Nat → Prop} : ev_ok (ev_TT X) 309 383 [a0, a1, a2, a3, .int v, a5, a6] st h n q P ↔ ev_ok (ev_TT X) 309 385 [a0, a1, a2, a3, .int v, a5, a6] ((.int v) :: st) h n q P := ev_go (congrFun (e_L_law_383 (X := X)) _)
set_option maxRecDepth 100000 in
theorem e_L_law_385 {X : ev_E} : (ev_TT X).1 309 385 = i_psh (.int (1)) 386 := (congrFun tt_L_law 385).trans rfl
theorem t_L_law_385 {X : ev_E} {st : List Value} {lo : List Value} {h : ev_M} {n q : Nat} {P : ev_O → ev_M → Nat → Nat → Prop} : ev_ok (ev_TT X) 309 385 lo st h n q P ↔ ev_ok (ev_TT X) 309 386 lo ((.int (1)) :: st) h n q P := ev_go (congrFun (e_L_law_385 (X := X)) _)
set_option maxRecDepth 100000 in
theorem e_L_law_386 {X : ev_E} : (ev_TT X).1 309 386 = i_ii (fun a b => a + b) 387 := (congrFun tt_L_law 386).trans rfl
theorem t_L_law_386 {X : ev_E} {x y : Int32} {st : List Value} {lo : List Value} {h : ev_M} {n q : Nat} {P : ev_O → ev_M → Nat → Nat → Prop} : ev_ok (ev_TT X) 309 386 lo (.int y :: .int x :: st) h n q P ↔ ev_ok (ev_TT X) 309 387 lo (.int (x + y) :: st) h n q P := ev_go (congrFun (e_L_law_386 (X := X)) _)
set_option maxRecDepth 100000 in
theorem e_L_law_387 {X : ev_E} : (ev_TT X).1 309 387 = i_ald X ev_tI 388 := (congrFun tt_L_law 387).trans rfl
theorem t_L_law_387 {X : ev_E} {i : Int32} {x : Nat} {st : List Value} {lo : List Value} {h : ev_M} {n q : Nat} {P : ev_O → ev_M → Nat → Nat → Prop} : ev_ok (ev_TT X) 309 387 lo (.int i :: .ref x :: st) h n q P ↔ ev_inA (ev_lk X h x) i ev_tI ∧ ev_ok (ev_TT X) 309 388 lo (ev_aG (ev_lk X h x) i :: st) h n q P := ev_goG (congrFun (e_L_law_387 (X := X)) _)
set_option maxRecDepth 100000 in
theorem e_L_law_388 {X : ev_E} : (ev_TT X).1 309 388 = i_al 0 389 := (congrFun tt_L_law 388).trans rfl
theorem t_L_law_388 {X : ev_E} {st : List Value} {v : Nat} {a1 a2 a3 a4 a5 a6 : Value} {h : ev_M} {n q : Nat} {P : ev_O → ev_M → Nat → Nat → Prop} : ev_ok (ev_TT X) 309 388 [.ref v, a1, a2, a3, a4, a5, a6] st h n q P ↔ ev_ok (ev_TT X) 309 389 [.ref v, a1, a2, a3, a4, a5, a6] ((.ref v) :: st) h n q P := ev_go (congrFun (e_L_law_388 (X := X)) _)
set_option maxRecDepth 100000 in
theorem e_L_law_389 {X : ev_E} : (ev_TT X).1 309 389 = i_il 4 391 := (congrFun tt_L_law 389).trans rfl
theorem t_L_law_389 {X : ev_E} {st : List Value} {v : Int32} {a0 a1 a2 a3 a5 a6 : Value} {h : ev_M} {n q : Nat} {P : ev_O → ev_M → Nat → Nat → Prop} : ev_ok (ev_TT X) 309 389 [a0, a1, a2, a3, .int v, a5, a6] st h n q P ↔ ev_ok (ev_TT X) 309 391 [a0, a1, a2, a3, .int v, a5, a6] ((.int v) :: st) h n q P := ev_go (congrFun (e_L_law_389 (X := X)) _)
set_option maxRecDepth 100000 in
theorem e_L_law_391 {X : ev_E} : (ev_TT X).1 309 391 = i_psh (.int (2)) 392 := (congrFun tt_L_law 391).trans rfl
theorem t_L_law_391 {X : ev_E} {st : List Value} {lo : List Value} {h : ev_M} {n q : Nat} {P : ev_O → ev_M → Nat → Nat → Prop} : ev_ok (ev_TT X) 309 391 lo st h n q P ↔ ev_ok (ev_TT X) 309 392 lo ((.int (2)) :: st) h n q P := ev_go (congrFun (e_L_law_391 (X := X)) _)
set_option maxRecDepth 100000 in
theorem e_L_law_392 {X : ev_E} : (ev_TT X).1 309 392 = i_ii (fun a b => a + b) 393 := (congrFun tt_L_law 392).trans rfl
theorem t_L_law_392 {X : ev_E} {x y : Int32} {st : List Value} {lo : List Value} {h : ev_M} {n q : Nat} {P : ev_O → ev_M → Nat → Nat → Prop} : ev_ok (ev_TT X) 309 392 lo (.int y :: .int x :: st) h n q P ↔ ev_ok (ev_TT X) 309 393 lo (.int (x + y) :: st) h n q P := ev_go (congrFun (e_L_law_392 (X := X)) _)
set_option maxRecDepth 100000 in
theorem e_L_law_393 {X : ev_E} : (ev_TT X).1 309 393 = i_ald X ev_tI 394 := (congrFun tt_L_law 393).trans rfl
theorem t_L_law_393 {X : ev_E} {i : Int32} {x : Nat} {st : List Value} {lo : List Value} {h : ev_M} {n q : Nat} {P : ev_O → ev_M → Nat → Nat → Prop} : ev_ok (ev_TT X) 309 393 lo (.int i :: .ref x :: st) h n q P ↔ ev_inA (ev_lk X h x) i ev_tI ∧ ev_ok (ev_TT X) 309 394 lo (ev_aG (ev_lk X h x) i :: st) h n q P := ev_goG (congrFun (e_L_law_393 (X := X)) _)
set_option maxRecDepth 100000 in
theorem e_L_law_394 {X : ev_E} : (ev_TT X).1 309 394 = i_al 0 395 := (congrFun tt_L_law 394).trans rfl
theorem t_L_law_394 {X : ev_E} {st : List Value} {v : Nat} {a1 a2 a3 a4 a5 a6 : Value} {h : ev_M} {n q : Nat} {P : ev_O → ev_M → Nat → Nat → Prop} : ev_ok (ev_TT X) 309 394 [.ref v, a1, a2, a3, a4, a5, a6] st h n q P ↔ ev_ok (ev_TT X) 309 395 [.ref v, a1, a2, a3, a4, a5, a6] ((.ref v) :: st) h n q P := ev_go (congrFun (e_L_law_394 (X := X)) _)
set_option maxRecDepth 100000 in
theorem e_L_law_395 {X : ev_E} : (ev_TT X).1 309 395 = i_il 4 397 := (congrFun tt_L_law 395).trans rfl
theorem t_L_law_395 {X : ev_E} {st : List Value} {v : Int32} {a0 a1 a2 a3 a5 a6 : Value} {h : ev_M} {n q : Nat} {P : ev_O → ev_M → Nat → Nat → Prop} : ev_ok (ev_TT X) 309 395 [a0, a1, a2, a3, .int v, a5, a6] st h n q P ↔ ev_ok (ev_TT X) 309 397 [a0, a1, a2, a3, .int v, a5, a6] ((.int v) :: st) h n q P := ev_go (congrFun (e_L_law_395 (X := X)) _)
set_option maxRecDepth 100000 in
theorem e_L_law_397 {X : ev_E} : (ev_TT X).1 309 397 = i_psh (.int (3)) 398 := (congrFun tt_L_law 397).trans rfl
theorem t_L_law_397 {X : ev_E} {st : List Value} {lo : List Value} {h : ev_M} {n q : Nat} {P : ev_O → ev_M → Nat → Nat → Prop} : ev_ok (ev_TT X) 309 397 lo st h n q P ↔ ev_ok (ev_TT X) 309 398 lo ((.int (3)) :: st) h n q P := ev_go (congrFun (e_L_law_397 (X := X)) _)
set_option maxRecDepth 100000 in
theorem e_L_law_398 {X : ev_E} : (ev_TT X).1 309 398 = i_ii (fun a b => a + b) 399 := (congrFun tt_L_law 398).trans rfl
theorem t_L_law_398 {X : ev_E} {x y : Int32} {st : List Value} {lo : List Value} {h : ev_M} {n q : Nat} {P : ev_O → ev_M → Nat → Nat → Prop} : ev_ok (ev_TT X) 309 398 lo (.int y :: .int x :: st) h n q P ↔ ev_ok (ev_TT X) 309 399 lo (.int (x + y) :: st) h n q P := ev_go (congrFun (e_L_law_398 (X := X)) _)
set_option maxRecDepth 100000 in
theorem e_L_law_399 {X : ev_E} : (ev_TT X).1 309 399 = i_ald X ev_tI 400 := (congrFun tt_L_law 399).trans rfl
theorem t_L_law_399 {X : ev_E} {i : Int32} {x : Nat} {st : List Value} {lo : List Value} {h : ev_M} {n q : Nat} {P : ev_O → ev_M → Nat → Nat → Prop} : ev_ok (ev_TT X) 309 399 lo (.int i :: .ref x :: st) h n q P ↔ ev_inA (ev_lk X h x) i ev_tI ∧ ev_ok (ev_TT X) 309 400 lo (ev_aG (ev_lk X h x) i :: st) h n q P := ev_goG (congrFun (e_L_law_399 (X := X)) _)
set_option maxRecDepth 100000 in
theorem e_L_law_400 {X : ev_E} : (ev_TT X).1 309 400 = i_cV X 294 3 13 7 403 := (congrFun tt_L_law 400).trans rfl
theorem t_L_law_400 {X : ev_E} {x : Nat} {y2 : Int32} {y1 : Int32} {y0 : Int32} {lo : List Value} {h : ev_M} {n q : Nat} {P : ev_O → ev_M → Nat → Nat → Prop} : ev_ok (ev_TT X) 309 400 lo [.int y2, .int y1, .int y0, .ref x] h n q P ↔ ev_isK (ev_lk X h x) 13 ∧ ev_ok (ev_TT X) 294 0 [.ref x, .int y0, .int y1, .int y2, ev_J, ev_J, ev_J] [] h n q (ev_kr (ev_TT X) 309 400 403 lo [] P) := (ev_caG (congrFun (e_L_law_400 (X := X)) _)).trans (and_congr_left' ⟨fun k => k.1, fun k => ⟨k, rfl, Or.inl (Nat.le_of_ble_eq_true rfl), Nat.le_of_ble_eq_true rfl⟩⟩)
theorem x_L_law_400 {X : ev_E} {lo st : List Value} {h : ev_M} {n q : Nat} {P : ev_O → ev_M → Nat → Nat → Prop} {E : Nat} : ev_kr (ev_TT X) 309 400 403 lo st P (.inr E) h n q ↔ P (.inr E) h n q := ev_kr_x rfl
set_option maxRecDepth 100000 in
theorem e_L_law_403 {X : ev_E} : (ev_TT X).1 309 403 = i_is 6 405 := (congrFun tt_L_law 403).trans rfl
theorem t_L_law_403 {X : ev_E} {st : List Value} {v : Int32} {a0 a1 a2 a3 a4 a5 a6 : Value} {h : ev_M} {n q : Nat} {P : ev_O → ev_M → Nat → Nat → Prop} : ev_ok (ev_TT X) 309 403 [a0, a1, a2, a3, a4, a5, a6] ((.int v) :: st) h n q P ↔ ev_ok (ev_TT X) 309 405 [a0, a1, a2, a3, a4, ev_k a5, .int v] st h n q P := ev_go (congrFun (e_L_law_403 (X := X)) _)
set_option maxRecDepth 100000 in
theorem e_L_law_405 {X : ev_E} : (ev_TT X).1 309 405 = i_goto 1713 := (congrFun tt_L_law 405).trans rfl
theorem t_L_law_405 {X : ev_E} {st : List Value} {lo : List Value} {h : ev_M} {n q : Nat} {P : ev_O → ev_M → Nat → Nat → Prop} : ev_ok (ev_TT X) 309 405 lo st h n q P ↔ ev_ok (ev_TT X) 309 1713 lo st h n q P := ev_go (congrFun (e_L_law_405 (X := X)) _)
set_option maxRecDepth 100000 in
theorem e_L_law_408 {X : ev_E} : (ev_TT X).1 309 408 = i_al 1 409 := (congrFun tt_L_law 408).trans rfl
theorem t_L_law_408 {X : ev_E} {st : List Value} {v : Nat} {a0 a2 a3 a4 a5 a6 : Value} {h : ev_M} {n q : Nat} {P : ev_O → ev_M → Nat → Nat → Prop} : ev_ok (ev_TT X) 309 408 [a0, .ref v, a2, a3, a4, a5, a6] st h n q P ↔ ev_ok (ev_TT X) 309 409 [a0, .ref v, a2, a3, a4, a5, a6] ((.ref v) :: st) h n q P := ev_go (congrFun (e_L_law_408 (X := X)) _)
set_option maxRecDepth 100000 in
theorem e_L_law_409 {X : ev_E} : (ev_TT X).1 309 409 = i_al 0 410 := (congrFun tt_L_law 409).trans rfl
theorem t_L_law_409 {X : ev_E} {st : List Value} {v : Nat} {a1 a2 a3 a4 a5 a6 : Value} {h : ev_M} {n q : Nat} {P : ev_O → ev_M → Nat → Nat → Prop} : ev_ok (ev_TT X) 309 409 [.ref v, a1, a2, a3, a4, a5, a6] st h n q P ↔ ev_ok (ev_TT X) 309 410 [.ref v, a1, a2, a3, a4, a5, a6] ((.ref v) :: st) h n q P := ev_go (congrFun (e_L_law_409 (X := X)) _)
set_option maxRecDepth 100000 in
theorem e_L_law_410 {X : ev_E} : (ev_TT X).1 309 410 = i_il 4 412 := (congrFun tt_L_law 410).trans rfl
theorem t_L_law_410 {X : ev_E} {st : List Value} {v : Int32} {a0 a1 a2 a3 a5 a6 : Value} {h : ev_M} {n q : Nat} {P : ev_O → ev_M → Nat → Nat → Prop} : ev_ok (ev_TT X) 309 410 [a0, a1, a2, a3, .int v, a5, a6] st h n q P ↔ ev_ok (ev_TT X) 309 412 [a0, a1, a2, a3, .int v, a5, a6] ((.int v) :: st) h n q P := ev_go (congrFun (e_L_law_410 (X := X)) _)
set_option maxRecDepth 100000 in
theorem e_L_law_412 {X : ev_E} : (ev_TT X).1 309 412 = i_psh (.int (1)) 413 := (congrFun tt_L_law 412).trans rfl
theorem t_L_law_412 {X : ev_E} {st : List Value} {lo : List Value} {h : ev_M} {n q : Nat} {P : ev_O → ev_M → Nat → Nat → Prop} : ev_ok (ev_TT X) 309 412 lo st h n q P ↔ ev_ok (ev_TT X) 309 413 lo ((.int (1)) :: st) h n q P := ev_go (congrFun (e_L_law_412 (X := X)) _)
set_option maxRecDepth 100000 in
theorem e_L_law_413 {X : ev_E} : (ev_TT X).1 309 413 = i_ii (fun a b => a + b) 414 := (congrFun tt_L_law 413).trans rfl
theorem t_L_law_413 {X : ev_E} {x y : Int32} {st : List Value} {lo : List Value} {h : ev_M} {n q : Nat} {P : ev_O → ev_M → Nat → Nat → Prop} : ev_ok (ev_TT X) 309 413 lo (.int y :: .int x :: st) h n q P ↔ ev_ok (ev_TT X) 309 414 lo (.int (x + y) :: st) h n q P := ev_go (congrFun (e_L_law_413 (X := X)) _)
set_option maxRecDepth 100000 in
theorem e_L_law_414 {X : ev_E} : (ev_TT X).1 309 414 = i_ald X ev_tI 415 := (congrFun tt_L_law 414).trans rfl
theorem t_L_law_414 {X : ev_E} {i : Int32} {x : Nat} {st : List Value} {lo : List Value} {h : ev_M} {n q : Nat} {P : ev_O → ev_M → Nat → Nat → Prop} : ev_ok (ev_TT X) 309 414 lo (.int i :: .ref x :: st) h n q P ↔ ev_inA (ev_lk X h x) i ev_tI ∧ ev_ok (ev_TT X) 309 415 lo (ev_aG (ev_lk X h x) i :: st) h n q P := ev_goG (congrFun (e_L_law_414 (X := X)) _)
set_option maxRecDepth 100000 in
theorem e_L_law_415 {X : ev_E} : (ev_TT X).1 309 415 = i_al 0 416 := (congrFun tt_L_law 415).trans rfl
theorem t_L_law_415 {X : ev_E} {st : List Value} {v : Nat} {a1 a2 a3 a4 a5 a6 : Value} {h : ev_M} {n q : Nat} {P : ev_O → ev_M → Nat → Nat → Prop} : ev_ok (ev_TT X) 309 415 [.ref v, a1, a2, a3, a4, a5, a6] st h n q P ↔ ev_ok (ev_TT X) 309 416 [.ref v, a1, a2, a3, a4, a5, a6] ((.ref v) :: st) h n q P := ev_go (congrFun (e_L_law_415 (X := X)) _)
set_option maxRecDepth 100000 in
theorem e_L_law_416 {X : ev_E} : (ev_TT X).1 309 416 = i_il 4 418 := (congrFun tt_L_law 416).trans rfl
theorem t_L_law_416 {X : ev_E} {st : List Value} {v : Int32} {a0 a1 a2 a3 a5 a6 : Value} {h : ev_M} {n q : Nat} {P : ev_O → ev_M → Nat → Nat → Prop} : ev_ok (ev_TT X) 309 416 [a0, a1, a2, a3, .int v, a5, a6] st h n q P ↔ ev_ok (ev_TT X) 309 418 [a0, a1, a2, a3, .int v, a5, a6] ((.int v) :: st) h n q P := ev_go (congrFun (e_L_law_416 (X := X)) _)
set_option maxRecDepth 100000 in
theorem e_L_law_418 {X : ev_E} : (ev_TT X).1 309 418 = i_psh (.int (2)) 419 := (congrFun tt_L_law 418).trans rfl
theorem t_L_law_418 {X : ev_E} {st : List Value} {lo : List Value} {h : ev_M} {n q : Nat} {P : ev_O → ev_M → Nat → Nat → Prop} : ev_ok (ev_TT X) 309 418 lo st h n q P ↔ ev_ok (ev_TT X) 309 419 lo ((.int (2)) :: st) h n q P := ev_go (congrFun (e_L_law_418 (X := X)) _)
set_option maxRecDepth 100000 in
theorem e_L_law_419 {X : ev_E} : (ev_TT X).1 309 419 = i_ii (fun a b => a + b) 420 := (congrFun tt_L_law 419).trans rfl
theorem t_L_law_419 {X : ev_E} {x y : Int32} {st : List Value} {lo : List Value} {h : ev_M} {n q : Nat} {P : ev_O → ev_M → Nat → Nat → Prop} : ev_ok (ev_TT X) 309 419 lo (.int y :: .int x :: st) h n q P ↔ ev_ok (ev_TT X) 309 420 lo (.int (x + y) :: st) h n q P := ev_go (congrFun (e_L_law_419 (X := X)) _)
set_option maxRecDepth 100000 in
theorem e_L_law_420 {X : ev_E} : (ev_TT X).1 309 420 = i_ald X ev_tI 421 := (congrFun tt_L_law 420).trans rfl
theorem t_L_law_420 {X : ev_E} {i : Int32} {x : Nat} {st : List Value} {lo : List Value} {h : ev_M} {n q : Nat} {P : ev_O → ev_M → Nat → Nat → Prop} : ev_ok (ev_TT X) 309 420 lo (.int i :: .ref x :: st) h n q P ↔ ev_inA (ev_lk X h x) i ev_tI ∧ ev_ok (ev_TT X) 309 421 lo (ev_aG (ev_lk X h x) i :: st) h n q P := ev_goG (congrFun (e_L_law_420 (X := X)) _)
set_option maxRecDepth 100000 in
theorem e_L_law_421 {X : ev_E} : (ev_TT X).1 309 421 = i_al 3 422 := (congrFun tt_L_law 421).trans rfl
theorem t_L_law_421 {X : ev_E} {st : List Value} {v : Nat} {a0 a1 a2 a4 a5 a6 : Value} {h : ev_M} {n q : Nat} {P : ev_O → ev_M → Nat → Nat → Prop} : ev_ok (ev_TT X) 309 421 [a0, a1, a2, .ref v, a4, a5, a6] st h n q P ↔ ev_ok (ev_TT X) 309 422 [a0, a1, a2, .ref v, a4, a5, a6] ((.ref v) :: st) h n q P := ev_go (congrFun (e_L_law_421 (X := X)) _)
set_option maxRecDepth 100000 in
theorem e_L_law_422 {X : ev_E} : (ev_TT X).1 309 422 = i_cS 249 4 5 425 := (congrFun tt_L_law 422).trans rfl
theorem t_L_law_422 {X : ev_E} {y3 : Nat} {y2 : Int32} {y1 : Int32} {y0 : Nat} {lo : List Value} {h : ev_M} {n q : Nat} {P : ev_O → ev_M → Nat → Nat → Prop} : ev_ok (ev_TT X) 309 422 lo [.ref y3, .int y2, .int y1, .ref y0] h n q P ↔ ev_ok (ev_TT X) 249 0 [.ref y0, .int y1, .int y2, .ref y3, ev_J] [] h n q (ev_kr (ev_TT X) 309 422 425 lo [] P) := (ev_caG (congrFun (e_L_law_422 (X := X)) _)).trans ⟨fun k => k.2, fun k => ⟨⟨rfl, Nat.le_of_ble_eq_true rfl, Nat.le_of_ble_eq_true rfl⟩, k⟩⟩
set_option maxRecDepth 100000 in
theorem e_L_law_425 {X : ev_E} : (ev_TT X).1 309 425 = i_is 5 427 := (congrFun tt_L_law 425).trans rfl
theorem t_L_law_425 {X : ev_E} {st : List Value} {v : Int32} {a0 a1 a2 a3 a4 a5 a6 : Value} {h : ev_M} {n q : Nat} {P : ev_O → ev_M → Nat → Nat → Prop} : ev_ok (ev_TT X) 309 425 [a0, a1, a2, a3, a4, a5, a6] ((.int v) :: st) h n q P ↔ ev_ok (ev_TT X) 309 427 [a0, a1, a2, a3, ev_k a4, .int v, a6] st h n q P := ev_go (congrFun (e_L_law_425 (X := X)) _)
set_option maxRecDepth 100000 in
theorem e_L_law_427 {X : ev_E} : (ev_TT X).1 309 427 = i_al 2 428 := (congrFun tt_L_law 427).trans rfl
theorem t_L_law_427 {X : ev_E} {st : List Value} {v : Nat} {a0 a1 a3 a4 a5 a6 : Value} {h : ev_M} {n q : Nat} {P : ev_O → ev_M → Nat → Nat → Prop} : ev_ok (ev_TT X) 309 427 [a0, a1, .ref v, a3, a4, a5, a6] st h n q P ↔ ev_ok (ev_TT X) 309 428 [a0, a1, .ref v, a3, a4, a5, a6] ((.ref v) :: st) h n q P := ev_go (congrFun (e_L_law_427 (X := X)) _)
set_option maxRecDepth 100000 in
theorem e_L_law_428 {X : ev_E} : (ev_TT X).1 309 428 = i_al 0 429 := (congrFun tt_L_law 428).trans rfl
theorem t_L_law_428 {X : ev_E} {st : List Value} {v : Nat} {a1 a2 a3 a4 a5 a6 : Value} {h : ev_M} {n q : Nat} {P : ev_O → ev_M → Nat → Nat → Prop} : ev_ok (ev_TT X) 309 428 [.ref v, a1, a2, a3, a4, a5, a6] st h n q P ↔ ev_ok (ev_TT X) 309 429 [.ref v, a1, a2, a3, a4, a5, a6] ((.ref v) :: st) h n q P := ev_go (congrFun (e_L_law_428 (X := X)) _)
set_option maxRecDepth 100000 in
theorem e_L_law_429 {X : ev_E} : (ev_TT X).1 309 429 = i_il 4 431 := (congrFun tt_L_law 429).trans rfl
theorem t_L_law_429 {X : ev_E} {st : List Value} {v : Int32} {a0 a1 a2 a3 a5 a6 : Value} {h : ev_M} {n q : Nat} {P : ev_O → ev_M → Nat → Nat → Prop} : ev_ok (ev_TT X) 309 429 [a0, a1, a2, a3, .int v, a5, a6] st h n q P ↔ ev_ok (ev_TT X) 309 431 [a0, a1, a2, a3, .int v, a5, a6] ((.int v) :: st) h n q P := ev_go (congrFun (e_L_law_429 (X := X)) _)
set_option maxRecDepth 100000 in
theorem e_L_law_431 {X : ev_E} : (ev_TT X).1 309 431 = i_psh (.int (1)) 432 := (congrFun tt_L_law 431).trans rfl
theorem t_L_law_431 {X : ev_E} {st : List Value} {lo : List Value} {h : ev_M} {n q : Nat} {P : ev_O → ev_M → Nat → Nat → Prop} : ev_ok (ev_TT X) 309 431 lo st h n q P ↔ ev_ok (ev_TT X) 309 432 lo ((.int (1)) :: st) h n q P := ev_go (congrFun (e_L_law_431 (X := X)) _)
set_option maxRecDepth 100000 in
theorem e_L_law_432 {X : ev_E} : (ev_TT X).1 309 432 = i_ii (fun a b => a + b) 433 := (congrFun tt_L_law 432).trans rfl
theorem t_L_law_432 {X : ev_E} {x y : Int32} {st : List Value} {lo : List Value} {h : ev_M} {n q : Nat} {P : ev_O → ev_M → Nat → Nat → Prop} : ev_ok (ev_TT X) 309 432 lo (.int y :: .int x :: st) h n q P ↔ ev_ok (ev_TT X) 309 433 lo (.int (x + y) :: st) h n q P := ev_go (congrFun (e_L_law_432 (X := X)) _)
set_option maxRecDepth 100000 in
theorem e_L_law_433 {X : ev_E} : (ev_TT X).1 309 433 = i_ald X ev_tI 434 := (congrFun tt_L_law 433).trans rfl
theorem t_L_law_433 {X : ev_E} {i : Int32} {x : Nat} {st : List Value} {lo : List Value} {h : ev_M} {n q : Nat} {P : ev_O → ev_M → Nat → Nat → Prop} : ev_ok (ev_TT X) 309 433 lo (.int i :: .ref x :: st) h n q P ↔ ev_inA (ev_lk X h x) i ev_tI ∧ ev_ok (ev_TT X) 309 434 lo (ev_aG (ev_lk X h x) i :: st) h n q P := ev_goG (congrFun (e_L_law_433 (X := X)) _)
set_option maxRecDepth 100000 in
theorem e_L_law_434 {X : ev_E} : (ev_TT X).1 309 434 = i_al 0 435 := (congrFun tt_L_law 434).trans rfl
theorem t_L_law_434 {X : ev_E} {st : List Value} {v : Nat} {a1 a2 a3 a4 a5 a6 : Value} {h : ev_M} {n q : Nat} {P : ev_O → ev_M → Nat → Nat → Prop} : ev_ok (ev_TT X) 309 434 [.ref v, a1, a2, a3, a4, a5, a6] st h n q P ↔ ev_ok (ev_TT X) 309 435 [.ref v, a1, a2, a3, a4, a5, a6] ((.ref v) :: st) h n q P := ev_go (congrFun (e_L_law_434 (X := X)) _)
set_option maxRecDepth 100000 in
theorem e_L_law_435 {X : ev_E} : (ev_TT X).1 309 435 = i_il 4 437 := (congrFun tt_L_law 435).trans rfl
theorem t_L_law_435 {X : ev_E} {st : List Value} {v : Int32} {a0 a1 a2 a3 a5 a6 : Value} {h : ev_M} {n q : Nat} {P : ev_O → ev_M → Nat → Nat → Prop} : ev_ok (ev_TT X) 309 435 [a0, a1, a2, a3, .int v, a5, a6] st h n q P ↔ ev_ok (ev_TT X) 309 437 [a0, a1, a2, a3, .int v, a5, a6] ((.int v) :: st) h n q P := ev_go (congrFun (e_L_law_435 (X := X)) _)
set_option maxRecDepth 100000 in
theorem e_L_law_437 {X : ev_E} : (ev_TT X).1 309 437 = i_psh (.int (2)) 438 := (congrFun tt_L_law 437).trans rfl
theorem t_L_law_437 {X : ev_E} {st : List Value} {lo : List Value} {h : ev_M} {n q : Nat} {P : ev_O → ev_M → Nat → Nat → Prop} : ev_ok (ev_TT X) 309 437 lo st h n q P ↔ ev_ok (ev_TT X) 309 438 lo ((.int (2)) :: st) h n q P := ev_go (congrFun (e_L_law_437 (X := X)) _)
set_option maxRecDepth 100000 in
theorem e_L_law_438 {X : ev_E} : (ev_TT X).1 309 438 = i_ii (fun a b => a + b) 439 := (congrFun tt_L_law 438).trans rfl
theorem t_L_law_438 {X : ev_E} {x y : Int32} {st : List Value} {lo : List Value} {h : ev_M} {n q : Nat} {P : ev_O → ev_M → Nat → Nat → Prop} : ev_ok (ev_TT X) 309 438 lo (.int y :: .int x :: st) h n q P ↔ ev_ok (ev_TT X) 309 439 lo (.int (x + y) :: st) h n q P := ev_go (congrFun (e_L_law_438 (X := X)) _)
set_option maxRecDepth 100000 in
theorem e_L_law_439 {X : ev_E} : (ev_TT X).1 309 439 = i_ald X ev_tI 440 := (congrFun tt_L_law 439).trans rfl
theorem t_L_law_439 {X : ev_E} {i : Int32} {x : Nat} {st : List Value} {lo : List Value} {h : ev_M} {n q : Nat} {P : ev_O → ev_M → Nat → Nat → Prop} : ev_ok (ev_TT X) 309 439 lo (.int i :: .ref x :: st) h n q P ↔ ev_inA (ev_lk X h x) i ev_tI ∧ ev_ok (ev_TT X) 309 440 lo (ev_aG (ev_lk X h x) i :: st) h n q P := ev_goG (congrFun (e_L_law_439 (X := X)) _)
set_option maxRecDepth 100000 in
theorem e_L_law_440 {X : ev_E} : (ev_TT X).1 309 440 = i_cV X 302 2 13 3 443 := (congrFun tt_L_law 440).trans rfl
theorem t_L_law_440 {X : ev_E} {x : Nat} {y1 : Int32} {y0 : Int32} {lo : List Value} {h : ev_M} {n q : Nat} {P : ev_O → ev_M → Nat → Nat → Prop} : ev_ok (ev_TT X) 309 440 lo [.int y1, .int y0, .ref x] h n q P ↔ ev_isK (ev_lk X h x) 13 ∧ ev_ok (ev_TT X) 302 0 [.ref x, .int y0, .int y1] [] h n q (ev_kr (ev_TT X) 309 440 443 lo [] P) := (ev_caG (congrFun (e_L_law_440 (X := X)) _)).trans (and_congr_left' ⟨fun k => k.1, fun k => ⟨k, rfl, Or.inl (Nat.le_of_ble_eq_true rfl), Nat.le_of_ble_eq_true rfl⟩⟩)
theorem x_L_law_440 {X : ev_E} {lo st : List Value} {h : ev_M} {n q : Nat} {P : ev_O → ev_M → Nat → Nat → Prop} {E : Nat} : ev_kr (ev_TT X) 309 440 443 lo st P (.inr E) h n q ↔ P (.inr E) h n q := ev_kr_x rfl
set_option maxRecDepth 100000 in
theorem e_L_law_443 {X : ev_E} : (ev_TT X).1 309 443 = i_is 6 445 := (congrFun tt_L_law 443).trans rfl
theorem t_L_law_443 {X : ev_E} {st : List Value} {v : Int32} {a0 a1 a2 a3 a4 a5 a6 : Value} {h : ev_M} {n q : Nat} {P : ev_O → ev_M → Nat → Nat → Prop} : ev_ok (ev_TT X) 309 443 [a0, a1, a2, a3, a4, a5, a6] ((.int v) :: st) h n q P ↔ ev_ok (ev_TT X) 309 445 [a0, a1, a2, a3, a4, ev_k a5, .int v] st h n q P := ev_go (congrFun (e_L_law_443 (X := X)) _)
set_option maxRecDepth 100000 in
theorem e_L_law_445 {X : ev_E} : (ev_TT X).1 309 445 = i_goto 1713 := (congrFun tt_L_law 445).trans rfl
theorem t_L_law_445 {X : ev_E} {st : List Value} {lo : List Value} {h : ev_M} {n q : Nat} {P : ev_O → ev_M → Nat → Nat → Prop} : ev_ok (ev_TT X) 309 445 lo st h n q P ↔ ev_ok (ev_TT X) 309 1713 lo st h n q P := ev_go (congrFun (e_L_law_445 (X := X)) _)
set_option maxRecDepth 100000 in
theorem e_L_law_448 {X : ev_E} : (ev_TT X).1 309 448 = i_al 1 449 := (congrFun tt_L_law 448).trans rfl
theorem t_L_law_448 {X : ev_E} {st : List Value} {v : Nat} {a0 a2 a3 a4 a5 a6 : Value} {h : ev_M} {n q : Nat} {P : ev_O → ev_M → Nat → Nat → Prop} : ev_ok (ev_TT X) 309 448 [a0, .ref v, a2, a3, a4, a5, a6] st h n q P ↔ ev_ok (ev_TT X) 309 449 [a0, .ref v, a2, a3, a4, a5, a6] ((.ref v) :: st) h n q P := ev_go (congrFun (e_L_law_448 (X := X)) _)
set_option maxRecDepth 100000 in
theorem e_L_law_449 {X : ev_E} : (ev_TT X).1 309 449 = i_al 0 450 := (congrFun tt_L_law 449).trans rfl
theorem t_L_law_449 {X : ev_E} {st : List Value} {v : Nat} {a1 a2 a3 a4 a5 a6 : Value} {h : ev_M} {n q : Nat} {P : ev_O → ev_M → Nat → Nat → Prop} : ev_ok (ev_TT X) 309 449 [.ref v, a1, a2, a3, a4, a5, a6] st h n q P ↔ ev_ok (ev_TT X) 309 450 [.ref v, a1, a2, a3, a4, a5, a6] ((.ref v) :: st) h n q P := ev_go (congrFun (e_L_law_449 (X := X)) _)
set_option maxRecDepth 100000 in
theorem e_L_law_450 {X : ev_E} : (ev_TT X).1 309 450 = i_il 4 452 := (congrFun tt_L_law 450).trans rfl
theorem t_L_law_450 {X : ev_E} {st : List Value} {v : Int32} {a0 a1 a2 a3 a5 a6 : Value} {h : ev_M} {n q : Nat} {P : ev_O → ev_M → Nat → Nat → Prop} : ev_ok (ev_TT X) 309 450 [a0, a1, a2, a3, .int v, a5, a6] st h n q P ↔ ev_ok (ev_TT X) 309 452 [a0, a1, a2, a3, .int v, a5, a6] ((.int v) :: st) h n q P := ev_go (congrFun (e_L_law_450 (X := X)) _)
set_option maxRecDepth 100000 in
theorem e_L_law_452 {X : ev_E} : (ev_TT X).1 309 452 = i_psh (.int (1)) 453 := (congrFun tt_L_law 452).trans rfl
theorem t_L_law_452 {X : ev_E} {st : List Value} {lo : List Value} {h : ev_M} {n q : Nat} {P : ev_O → ev_M → Nat → Nat → Prop} : ev_ok (ev_TT X) 309 452 lo st h n q P ↔ ev_ok (ev_TT X) 309 453 lo ((.int (1)) :: st) h n q P := ev_go (congrFun (e_L_law_452 (X := X)) _)
set_option maxRecDepth 100000 in
theorem e_L_law_453 {X : ev_E} : (ev_TT X).1 309 453 = i_ii (fun a b => a + b) 454 := (congrFun tt_L_law 453).trans rfl
theorem t_L_law_453 {X : ev_E} {x y : Int32} {st : List Value} {lo : List Value} {h : ev_M} {n q : Nat} {P : ev_O → ev_M → Nat → Nat → Prop} : ev_ok (ev_TT X) 309 453 lo (.int y :: .int x :: st) h n q P ↔ ev_ok (ev_TT X) 309 454 lo (.int (x + y) :: st) h n q P := ev_go (congrFun (e_L_law_453 (X := X)) _)
set_option maxRecDepth 100000 in
theorem e_L_law_454 {X : ev_E} : (ev_TT X).1 309 454 = i_ald X ev_tI 455 := (congrFun tt_L_law 454).trans rfl
theorem t_L_law_454 {X : ev_E} {i : Int32} {x : Nat} {st : List Value} {lo : List Value} {h : ev_M} {n q : Nat} {P : ev_O → ev_M → Nat → Nat → Prop} : ev_ok (ev_TT X) 309 454 lo (.int i :: .ref x :: st) h n q P ↔ ev_inA (ev_lk X h x) i ev_tI ∧ ev_ok (ev_TT X) 309 455 lo (ev_aG (ev_lk X h x) i :: st) h n q P := ev_goG (congrFun (e_L_law_454 (X := X)) _)
set_option maxRecDepth 100000 in
theorem e_L_law_455 {X : ev_E} : (ev_TT X).1 309 455 = i_al 0 456 := (congrFun tt_L_law 455).trans rfl
theorem t_L_law_455 {X : ev_E} {st : List Value} {v : Nat} {a1 a2 a3 a4 a5 a6 : Value} {h : ev_M} {n q : Nat} {P : ev_O → ev_M → Nat → Nat → Prop} : ev_ok (ev_TT X) 309 455 [.ref v, a1, a2, a3, a4, a5, a6] st h n q P ↔ ev_ok (ev_TT X) 309 456 [.ref v, a1, a2, a3, a4, a5, a6] ((.ref v) :: st) h n q P := ev_go (congrFun (e_L_law_455 (X := X)) _)
set_option maxRecDepth 100000 in
theorem e_L_law_456 {X : ev_E} : (ev_TT X).1 309 456 = i_il 4 458 := (congrFun tt_L_law 456).trans rfl
theorem t_L_law_456 {X : ev_E} {st : List Value} {v : Int32} {a0 a1 a2 a3 a5 a6 : Value} {h : ev_M} {n q : Nat} {P : ev_O → ev_M → Nat → Nat → Prop} : ev_ok (ev_TT X) 309 456 [a0, a1, a2, a3, .int v, a5, a6] st h n q P ↔ ev_ok (ev_TT X) 309 458 [a0, a1, a2, a3, .int v, a5, a6] ((.int v) :: st) h n q P := ev_go (congrFun (e_L_law_456 (X := X)) _)
set_option maxRecDepth 100000 in
theorem e_L_law_458 {X : ev_E} : (ev_TT X).1 309 458 = i_psh (.int (2)) 459 := (congrFun tt_L_law 458).trans rfl
theorem t_L_law_458 {X : ev_E} {st : List Value} {lo : List Value} {h : ev_M} {n q : Nat} {P : ev_O → ev_M → Nat → Nat → Prop} : ev_ok (ev_TT X) 309 458 lo st h n q P ↔ ev_ok (ev_TT X) 309 459 lo ((.int (2)) :: st) h n q P := ev_go (congrFun (e_L_law_458 (X := X)) _)
set_option maxRecDepth 100000 in
theorem e_L_law_459 {X : ev_E} : (ev_TT X).1 309 459 = i_ii (fun a b => a + b) 460 := (congrFun tt_L_law 459).trans rfl
theorem t_L_law_459 {X : ev_E} {x y : Int32} {st : List Value} {lo : List Value} {h : ev_M} {n q : Nat} {P : ev_O → ev_M → Nat → Nat → Prop} : ev_ok (ev_TT X) 309 459 lo (.int y :: .int x :: st) h n q P ↔ ev_ok (ev_TT X) 309 460 lo (.int (x + y) :: st) h n q P := ev_go (congrFun (e_L_law_459 (X := X)) _)
set_option maxRecDepth 100000 in
theorem e_L_law_460 {X : ev_E} : (ev_TT X).1 309 460 = i_ald X ev_tI 461 := (congrFun tt_L_law 460).trans rfl
theorem t_L_law_460 {X : ev_E} {i : Int32} {x : Nat} {st : List Value} {lo : List Value} {h : ev_M} {n q : Nat} {P : ev_O → ev_M → Nat → Nat → Prop} : ev_ok (ev_TT X) 309 460 lo (.int i :: .ref x :: st) h n q P ↔ ev_inA (ev_lk X h x) i ev_tI ∧ ev_ok (ev_TT X) 309 461 lo (ev_aG (ev_lk X h x) i :: st) h n q P := ev_goG (congrFun (e_L_law_460 (X := X)) _)
set_option maxRecDepth 100000 in
theorem e_L_law_461 {X : ev_E} : (ev_TT X).1 309 461 = i_al 0 462 := (congrFun tt_L_law 461).trans rfl
theorem t_L_law_461 {X : ev_E} {st : List Value} {v : Nat} {a1 a2 a3 a4 a5 a6 : Value} {h : ev_M} {n q : Nat} {P : ev_O → ev_M → Nat → Nat → Prop} : ev_ok (ev_TT X) 309 461 [.ref v, a1, a2, a3, a4, a5, a6] st h n q P ↔ ev_ok (ev_TT X) 309 462 [.ref v, a1, a2, a3, a4, a5, a6] ((.ref v) :: st) h n q P := ev_go (congrFun (e_L_law_461 (X := X)) _)
set_option maxRecDepth 100000 in
theorem e_L_law_462 {X : ev_E} : (ev_TT X).1 309 462 = i_il 4 464 := (congrFun tt_L_law 462).trans rfl
theorem t_L_law_462 {X : ev_E} {st : List Value} {v : Int32} {a0 a1 a2 a3 a5 a6 : Value} {h : ev_M} {n q : Nat} {P : ev_O → ev_M → Nat → Nat → Prop} : ev_ok (ev_TT X) 309 462 [a0, a1, a2, a3, .int v, a5, a6] st h n q P ↔ ev_ok (ev_TT X) 309 464 [a0, a1, a2, a3, .int v, a5, a6] ((.int v) :: st) h n q P := ev_go (congrFun (e_L_law_462 (X := X)) _)
set_option maxRecDepth 100000 in
theorem e_L_law_464 {X : ev_E} : (ev_TT X).1 309 464 = i_psh (.int (3)) 465 := (congrFun tt_L_law 464).trans rfl
theorem t_L_law_464 {X : ev_E} {st : List Value} {lo : List Value} {h : ev_M} {n q : Nat} {P : ev_O → ev_M → Nat → Nat → Prop} : ev_ok (ev_TT X) 309 464 lo st h n q P ↔ ev_ok (ev_TT X) 309 465 lo ((.int (3)) :: st) h n q P := ev_go (congrFun (e_L_law_464 (X := X)) _)
set_option maxRecDepth 100000 in
theorem e_L_law_465 {X : ev_E} : (ev_TT X).1 309 465 = i_ii (fun a b => a + b) 466 := (congrFun tt_L_law 465).trans rfl
theorem t_L_law_465 {X : ev_E} {x y : Int32} {st : List Value} {lo : List Value} {h : ev_M} {n q : Nat} {P : ev_O → ev_M → Nat → Nat → Prop} : ev_ok (ev_TT X) 309 465 lo (.int y :: .int x :: st) h n q P ↔ ev_ok (ev_TT X) 309 466 lo (.int (x + y) :: st) h n q P := ev_go (congrFun (e_L_law_465 (X := X)) _)
set_option maxRecDepth 100000 in
theorem e_L_law_466 {X : ev_E} : (ev_TT X).1 309 466 = i_ald X ev_tI 467 := (congrFun tt_L_law 466).trans rfl
theorem t_L_law_466 {X : ev_E} {i : Int32} {x : Nat} {st : List Value} {lo : List Value} {h : ev_M} {n q : Nat} {P : ev_O → ev_M → Nat → Nat → Prop} : ev_ok (ev_TT X) 309 466 lo (.int i :: .ref x :: st) h n q P ↔ ev_inA (ev_lk X h x) i ev_tI ∧ ev_ok (ev_TT X) 309 467 lo (ev_aG (ev_lk X h x) i :: st) h n q P := ev_goG (congrFun (e_L_law_466 (X := X)) _)
set_option maxRecDepth 100000 in
theorem e_L_law_467 {X : ev_E} : (ev_TT X).1 309 467 = i_al 3 468 := (congrFun tt_L_law 467).trans rfl
theorem t_L_law_467 {X : ev_E} {st : List Value} {v : Nat} {a0 a1 a2 a4 a5 a6 : Value} {h : ev_M} {n q : Nat} {P : ev_O → ev_M → Nat → Nat → Prop} : ev_ok (ev_TT X) 309 467 [a0, a1, a2, .ref v, a4, a5, a6] st h n q P ↔ ev_ok (ev_TT X) 309 468 [a0, a1, a2, .ref v, a4, a5, a6] ((.ref v) :: st) h n q P := ev_go (congrFun (e_L_law_467 (X := X)) _)
set_option maxRecDepth 100000 in
theorem e_L_law_468 {X : ev_E} : (ev_TT X).1 309 468 = i_cS 250 5 6 471 := (congrFun tt_L_law 468).trans rfl
theorem t_L_law_468 {X : ev_E} {y4 : Nat} {y3 : Int32} {y2 : Int32} {y1 : Int32} {y0 : Nat} {lo : List Value} {h : ev_M} {n q : Nat} {P : ev_O → ev_M → Nat → Nat → Prop} : ev_ok (ev_TT X) 309 468 lo [.ref y4, .int y3, .int y2, .int y1, .ref y0] h n q P ↔ ev_ok (ev_TT X) 250 0 [.ref y0, .int y1, .int y2, .int y3, .ref y4, ev_J] [] h n q (ev_kr (ev_TT X) 309 468 471 lo [] P) := (ev_caG (congrFun (e_L_law_468 (X := X)) _)).trans ⟨fun k => k.2, fun k => ⟨⟨rfl, Nat.le_of_ble_eq_true rfl, Nat.le_of_ble_eq_true rfl⟩, k⟩⟩
set_option maxRecDepth 100000 in
theorem e_L_law_471 {X : ev_E} : (ev_TT X).1 309 471 = i_is 5 473 := (congrFun tt_L_law 471).trans rfl
theorem t_L_law_471 {X : ev_E} {st : List Value} {v : Int32} {a0 a1 a2 a3 a4 a5 a6 : Value} {h : ev_M} {n q : Nat} {P : ev_O → ev_M → Nat → Nat → Prop} : ev_ok (ev_TT X) 309 471 [a0, a1, a2, a3, a4, a5, a6] ((.int v) :: st) h n q P ↔ ev_ok (ev_TT X) 309 473 [a0, a1, a2, a3, ev_k a4, .int v, a6] st h n q P := ev_go (congrFun (e_L_law_471 (X := X)) _)
set_option maxRecDepth 100000 in
theorem e_L_law_473 {X : ev_E} : (ev_TT X).1 309 473 = i_al 2 474 := (congrFun tt_L_law 473).trans rfl
theorem t_L_law_473 {X : ev_E} {st : List Value} {v : Nat} {a0 a1 a3 a4 a5 a6 : Value} {h : ev_M} {n q : Nat} {P : ev_O → ev_M → Nat → Nat → Prop} : ev_ok (ev_TT X) 309 473 [a0, a1, .ref v, a3, a4, a5, a6] st h n q P ↔ ev_ok (ev_TT X) 309 474 [a0, a1, .ref v, a3, a4, a5, a6] ((.ref v) :: st) h n q P := ev_go (congrFun (e_L_law_473 (X := X)) _)
set_option maxRecDepth 100000 in
theorem e_L_law_474 {X : ev_E} : (ev_TT X).1 309 474 = i_al 0 475 := (congrFun tt_L_law 474).trans rfl
theorem t_L_law_474 {X : ev_E} {st : List Value} {v : Nat} {a1 a2 a3 a4 a5 a6 : Value} {h : ev_M} {n q : Nat} {P : ev_O → ev_M → Nat → Nat → Prop} : ev_ok (ev_TT X) 309 474 [.ref v, a1, a2, a3, a4, a5, a6] st h n q P ↔ ev_ok (ev_TT X) 309 475 [.ref v, a1, a2, a3, a4, a5, a6] ((.ref v) :: st) h n q P := ev_go (congrFun (e_L_law_474 (X := X)) _)
set_option maxRecDepth 100000 in
theorem e_L_law_475 {X : ev_E} : (ev_TT X).1 309 475 = i_il 4 477 := (congrFun tt_L_law 475).trans rfl
theorem t_L_law_475 {X : ev_E} {st : List Value} {v : Int32} {a0 a1 a2 a3 a5 a6 : Value} {h : ev_M} {n q : Nat} {P : ev_O → ev_M → Nat → Nat → Prop} : ev_ok (ev_TT X) 309 475 [a0, a1, a2, a3, .int v, a5, a6] st h n q P ↔ ev_ok (ev_TT X) 309 477 [a0, a1, a2, a3, .int v, a5, a6] ((.int v) :: st) h n q P := ev_go (congrFun (e_L_law_475 (X := X)) _)
set_option maxRecDepth 100000 in
theorem e_L_law_477 {X : ev_E} : (ev_TT X).1 309 477 = i_psh (.int (1)) 478 := (congrFun tt_L_law 477).trans rfl
theorem t_L_law_477 {X : ev_E} {st : List Value} {lo : List Value} {h : ev_M} {n q : Nat} {P : ev_O → ev_M → Nat → Nat → Prop} : ev_ok (ev_TT X) 309 477 lo st h n q P ↔ ev_ok (ev_TT X) 309 478 lo ((.int (1)) :: st) h n q P := ev_go (congrFun (e_L_law_477 (X := X)) _)
set_option maxRecDepth 100000 in
theorem e_L_law_478 {X : ev_E} : (ev_TT X).1 309 478 = i_ii (fun a b => a + b) 479 := (congrFun tt_L_law 478).trans rfl
theorem t_L_law_478 {X : ev_E} {x y : Int32} {st : List Value} {lo : List Value} {h : ev_M} {n q : Nat} {P : ev_O → ev_M → Nat → Nat → Prop} : ev_ok (ev_TT X) 309 478 lo (.int y :: .int x :: st) h n q P ↔ ev_ok (ev_TT X) 309 479 lo (.int (x + y) :: st) h n q P := ev_go (congrFun (e_L_law_478 (X := X)) _)
set_option maxRecDepth 100000 in
theorem e_L_law_479 {X : ev_E} : (ev_TT X).1 309 479 = i_ald X ev_tI 480 := (congrFun tt_L_law 479).trans rfl
theorem t_L_law_479 {X : ev_E} {i : Int32} {x : Nat} {st : List Value} {lo : List Value} {h : ev_M} {n q : Nat} {P : ev_O → ev_M → Nat → Nat → Prop} : ev_ok (ev_TT X) 309 479 lo (.int i :: .ref x :: st) h n q P ↔ ev_inA (ev_lk X h x) i ev_tI ∧ ev_ok (ev_TT X) 309 480 lo (ev_aG (ev_lk X h x) i :: st) h n q P := ev_goG (congrFun (e_L_law_479 (X := X)) _)
set_option maxRecDepth 100000 in
theorem e_L_law_480 {X : ev_E} : (ev_TT X).1 309 480 = i_al 0 481 := (congrFun tt_L_law 480).trans rfl
theorem t_L_law_480 {X : ev_E} {st : List Value} {v : Nat} {a1 a2 a3 a4 a5 a6 : Value} {h : ev_M} {n q : Nat} {P : ev_O → ev_M → Nat → Nat → Prop} : ev_ok (ev_TT X) 309 480 [.ref v, a1, a2, a3, a4, a5, a6] st h n q P ↔ ev_ok (ev_TT X) 309 481 [.ref v, a1, a2, a3, a4, a5, a6] ((.ref v) :: st) h n q P := ev_go (congrFun (e_L_law_480 (X := X)) _)
set_option maxRecDepth 100000 in
theorem e_L_law_481 {X : ev_E} : (ev_TT X).1 309 481 = i_il 4 483 := (congrFun tt_L_law 481).trans rfl
theorem t_L_law_481 {X : ev_E} {st : List Value} {v : Int32} {a0 a1 a2 a3 a5 a6 : Value} {h : ev_M} {n q : Nat} {P : ev_O → ev_M → Nat → Nat → Prop} : ev_ok (ev_TT X) 309 481 [a0, a1, a2, a3, .int v, a5, a6] st h n q P ↔ ev_ok (ev_TT X) 309 483 [a0, a1, a2, a3, .int v, a5, a6] ((.int v) :: st) h n q P := ev_go (congrFun (e_L_law_481 (X := X)) _)
set_option maxRecDepth 100000 in
theorem e_L_law_483 {X : ev_E} : (ev_TT X).1 309 483 = i_psh (.int (2)) 484 := (congrFun tt_L_law 483).trans rfl
theorem t_L_law_483 {X : ev_E} {st : List Value} {lo : List Value} {h : ev_M} {n q : Nat} {P : ev_O → ev_M → Nat → Nat → Prop} : ev_ok (ev_TT X) 309 483 lo st h n q P ↔ ev_ok (ev_TT X) 309 484 lo ((.int (2)) :: st) h n q P := ev_go (congrFun (e_L_law_483 (X := X)) _)
set_option maxRecDepth 100000 in
theorem e_L_law_484 {X : ev_E} : (ev_TT X).1 309 484 = i_ii (fun a b => a + b) 485 := (congrFun tt_L_law 484).trans rfl
theorem t_L_law_484 {X : ev_E} {x y : Int32} {st : List Value} {lo : List Value} {h : ev_M} {n q : Nat} {P : ev_O → ev_M → Nat → Nat → Prop} : ev_ok (ev_TT X) 309 484 lo (.int y :: .int x :: st) h n q P ↔ ev_ok (ev_TT X) 309 485 lo (.int (x + y) :: st) h n q P := ev_go (congrFun (e_L_law_484 (X := X)) _)
set_option maxRecDepth 100000 in
theorem e_L_law_485 {X : ev_E} : (ev_TT X).1 309 485 = i_ald X ev_tI 486 := (congrFun tt_L_law 485).trans rfl
theorem t_L_law_485 {X : ev_E} {i : Int32} {x : Nat} {st : List Value} {lo : List Value} {h : ev_M} {n q : Nat} {P : ev_O → ev_M → Nat → Nat → Prop} : ev_ok (ev_TT X) 309 485 lo (.int i :: .ref x :: st) h n q P ↔ ev_inA (ev_lk X h x) i ev_tI ∧ ev_ok (ev_TT X) 309 486 lo (ev_aG (ev_lk X h x) i :: st) h n q P := ev_goG (congrFun (e_L_law_485 (X := X)) _)
set_option maxRecDepth 100000 in
theorem e_L_law_486 {X : ev_E} : (ev_TT X).1 309 486 = i_al 0 487 := (congrFun tt_L_law 486).trans rfl
theorem t_L_law_486 {X : ev_E} {st : List Value} {v : Nat} {a1 a2 a3 a4 a5 a6 : Value} {h : ev_M} {n q : Nat} {P : ev_O → ev_M → Nat → Nat → Prop} : ev_ok (ev_TT X) 309 486 [.ref v, a1, a2, a3, a4, a5, a6] st h n q P ↔ ev_ok (ev_TT X) 309 487 [.ref v, a1, a2, a3, a4, a5, a6] ((.ref v) :: st) h n q P := ev_go (congrFun (e_L_law_486 (X := X)) _)
set_option maxRecDepth 100000 in
theorem e_L_law_487 {X : ev_E} : (ev_TT X).1 309 487 = i_il 4 489 := (congrFun tt_L_law 487).trans rfl
theorem t_L_law_487 {X : ev_E} {st : List Value} {v : Int32} {a0 a1 a2 a3 a5 a6 : Value} {h : ev_M} {n q : Nat} {P : ev_O → ev_M → Nat → Nat → Prop} : ev_ok (ev_TT X) 309 487 [a0, a1, a2, a3, .int v, a5, a6] st h n q P ↔ ev_ok (ev_TT X) 309 489 [a0, a1, a2, a3, .int v, a5, a6] ((.int v) :: st) h n q P := ev_go (congrFun (e_L_law_487 (X := X)) _)
set_option maxRecDepth 100000 in
theorem e_L_law_489 {X : ev_E} : (ev_TT X).1 309 489 = i_psh (.int (3)) 490 := (congrFun tt_L_law 489).trans rfl
theorem t_L_law_489 {X : ev_E} {st : List Value} {lo : List Value} {h : ev_M} {n q : Nat} {P : ev_O → ev_M → Nat → Nat → Prop} : ev_ok (ev_TT X) 309 489 lo st h n q P ↔ ev_ok (ev_TT X) 309 490 lo ((.int (3)) :: st) h n q P := ev_go (congrFun (e_L_law_489 (X := X)) _)
set_option maxRecDepth 100000 in
theorem e_L_law_490 {X : ev_E} : (ev_TT X).1 309 490 = i_ii (fun a b => a + b) 491 := (congrFun tt_L_law 490).trans rfl
theorem t_L_law_490 {X : ev_E} {x y : Int32} {st : List Value} {lo : List Value} {h : ev_M} {n q : Nat} {P : ev_O → ev_M → Nat → Nat → Prop} : ev_ok (ev_TT X) 309 490 lo (.int y :: .int x :: st) h n q P ↔ ev_ok (ev_TT X) 309 491 lo (.int (x + y) :: st) h n q P := ev_go (congrFun (e_L_law_490 (X := X)) _)
set_option maxRecDepth 100000 in
theorem e_L_law_491 {X : ev_E} : (ev_TT X).1 309 491 = i_ald X ev_tI 492 := (congrFun tt_L_law 491).trans rfl
theorem t_L_law_491 {X : ev_E} {i : Int32} {x : Nat} {st : List Value} {lo : List Value} {h : ev_M} {n q : Nat} {P : ev_O → ev_M → Nat → Nat → Prop} : ev_ok (ev_TT X) 309 491 lo (.int i :: .ref x :: st) h n q P ↔ ev_inA (ev_lk X h x) i ev_tI ∧ ev_ok (ev_TT X) 309 492 lo (ev_aG (ev_lk X h x) i :: st) h n q P := ev_goG (congrFun (e_L_law_491 (X := X)) _)
set_option maxRecDepth 100000 in
theorem e_L_law_492 {X : ev_E} : (ev_TT X).1 309 492 = i_cV X 303 3 13 4 495 := (congrFun tt_L_law 492).trans rfl
theorem t_L_law_492 {X : ev_E} {x : Nat} {y2 : Int32} {y1 : Int32} {y0 : Int32} {lo : List Value} {h : ev_M} {n q : Nat} {P : ev_O → ev_M → Nat → Nat → Prop} : ev_ok (ev_TT X) 309 492 lo [.int y2, .int y1, .int y0, .ref x] h n q P ↔ ev_isK (ev_lk X h x) 13 ∧ ev_ok (ev_TT X) 303 0 [.ref x, .int y0, .int y1, .int y2] [] h n q (ev_kr (ev_TT X) 309 492 495 lo [] P) := (ev_caG (congrFun (e_L_law_492 (X := X)) _)).trans (and_congr_left' ⟨fun k => k.1, fun k => ⟨k, rfl, Or.inl (Nat.le_of_ble_eq_true rfl), Nat.le_of_ble_eq_true rfl⟩⟩)
theorem x_L_law_492 {X : ev_E} {lo st : List Value} {h : ev_M} {n q : Nat} {P : ev_O → ev_M → Nat → Nat → Prop} {E : Nat} : ev_kr (ev_TT X) 309 492 495 lo st P (.inr E) h n q ↔ P (.inr E) h n q := ev_kr_x rfl
set_option maxRecDepth 100000 in
theorem e_L_law_495 {X : ev_E} : (ev_TT X).1 309 495 = i_is 6 497 := (congrFun tt_L_law 495).trans rfl
theorem t_L_law_495 {X : ev_E} {st : List Value} {v : Int32} {a0 a1 a2 a3 a4 a5 a6 : Value} {h : ev_M} {n q : Nat} {P : ev_O → ev_M → Nat → Nat → Prop} : ev_ok (ev_TT X) 309 495 [a0, a1, a2, a3, a4, a5, a6] ((.int v) :: st) h n q P ↔ ev_ok (ev_TT X) 309 497 [a0, a1, a2, a3, a4, ev_k a5, .int v] st h n q P := ev_go (congrFun (e_L_law_495 (X := X)) _)
set_option maxRecDepth 100000 in
theorem e_L_law_497 {X : ev_E} : (ev_TT X).1 309 497 = i_goto 1713 := (congrFun tt_L_law 497).trans rfl
theorem t_L_law_497 {X : ev_E} {st : List Value} {lo : List Value} {h : ev_M} {n q : Nat} {P : ev_O → ev_M → Nat → Nat → Prop} : ev_ok (ev_TT X) 309 497 lo st h n q P ↔ ev_ok (ev_TT X) 309 1713 lo st h n q P := ev_go (congrFun (e_L_law_497 (X := X)) _)
set_option maxRecDepth 100000 in
theorem e_L_law_500 {X : ev_E} : (ev_TT X).1 309 500 = i_al 1 501 := (congrFun tt_L_law 500).trans rfl
theorem t_L_law_500 {X : ev_E} {st : List Value} {v : Nat} {a0 a2 a3 a4 a5 a6 : Value} {h : ev_M} {n q : Nat} {P : ev_O → ev_M → Nat → Nat → Prop} : ev_ok (ev_TT X) 309 500 [a0, .ref v, a2, a3, a4, a5, a6] st h n q P ↔ ev_ok (ev_TT X) 309 501 [a0, .ref v, a2, a3, a4, a5, a6] ((.ref v) :: st) h n q P := ev_go (congrFun (e_L_law_500 (X := X)) _)
set_option maxRecDepth 100000 in
theorem e_L_law_501 {X : ev_E} : (ev_TT X).1 309 501 = i_al 0 502 := (congrFun tt_L_law 501).trans rfl
theorem t_L_law_501 {X : ev_E} {st : List Value} {v : Nat} {a1 a2 a3 a4 a5 a6 : Value} {h : ev_M} {n q : Nat} {P : ev_O → ev_M → Nat → Nat → Prop} : ev_ok (ev_TT X) 309 501 [.ref v, a1, a2, a3, a4, a5, a6] st h n q P ↔ ev_ok (ev_TT X) 309 502 [.ref v, a1, a2, a3, a4, a5, a6] ((.ref v) :: st) h n q P := ev_go (congrFun (e_L_law_501 (X := X)) _)
set_option maxRecDepth 100000 in
theorem e_L_law_502 {X : ev_E} : (ev_TT X).1 309 502 = i_il 4 504 := (congrFun tt_L_law 502).trans rfl
theorem t_L_law_502 {X : ev_E} {st : List Value} {v : Int32} {a0 a1 a2 a3 a5 a6 : Value} {h : ev_M} {n q : Nat} {P : ev_O → ev_M → Nat → Nat → Prop} : ev_ok (ev_TT X) 309 502 [a0, a1, a2, a3, .int v, a5, a6] st h n q P ↔ ev_ok (ev_TT X) 309 504 [a0, a1, a2, a3, .int v, a5, a6] ((.int v) :: st) h n q P := ev_go (congrFun (e_L_law_502 (X := X)) _)
set_option maxRecDepth 100000 in
theorem e_L_law_504 {X : ev_E} : (ev_TT X).1 309 504 = i_psh (.int (1)) 505 := (congrFun tt_L_law 504).trans rfl
theorem t_L_law_504 {X : ev_E} {st : List Value} {lo : List Value} {h : ev_M} {n q : Nat} {P : ev_O → ev_M → Nat → Nat → Prop} : ev_ok (ev_TT X) 309 504 lo st h n q P ↔ ev_ok (ev_TT X) 309 505 lo ((.int (1)) :: st) h n q P := ev_go (congrFun (e_L_law_504 (X := X)) _)
set_option maxRecDepth 100000 in
theorem e_L_law_505 {X : ev_E} : (ev_TT X).1 309 505 = i_ii (fun a b => a + b) 506 := (congrFun tt_L_law 505).trans rfl
theorem t_L_law_505 {X : ev_E} {x y : Int32} {st : List Value} {lo : List Value} {h : ev_M} {n q : Nat} {P : ev_O → ev_M → Nat → Nat → Prop} : ev_ok (ev_TT X) 309 505 lo (.int y :: .int x :: st) h n q P ↔ ev_ok (ev_TT X) 309 506 lo (.int (x + y) :: st) h n q P := ev_go (congrFun (e_L_law_505 (X := X)) _)
set_option maxRecDepth 100000 in
theorem e_L_law_506 {X : ev_E} : (ev_TT X).1 309 506 = i_ald X ev_tI 507 := (congrFun tt_L_law 506).trans rfl
theorem t_L_law_506 {X : ev_E} {i : Int32} {x : Nat} {st : List Value} {lo : List Value} {h : ev_M} {n q : Nat} {P : ev_O → ev_M → Nat → Nat → Prop} : ev_ok (ev_TT X) 309 506 lo (.int i :: .ref x :: st) h n q P ↔ ev_inA (ev_lk X h x) i ev_tI ∧ ev_ok (ev_TT X) 309 507 lo (ev_aG (ev_lk X h x) i :: st) h n q P := ev_goG (congrFun (e_L_law_506 (X := X)) _)
set_option maxRecDepth 100000 in
theorem e_L_law_507 {X : ev_E} : (ev_TT X).1 309 507 = i_al 0 508 := (congrFun tt_L_law 507).trans rfl
theorem t_L_law_507 {X : ev_E} {st : List Value} {v : Nat} {a1 a2 a3 a4 a5 a6 : Value} {h : ev_M} {n q : Nat} {P : ev_O → ev_M → Nat → Nat → Prop} : ev_ok (ev_TT X) 309 507 [.ref v, a1, a2, a3, a4, a5, a6] st h n q P ↔ ev_ok (ev_TT X) 309 508 [.ref v, a1, a2, a3, a4, a5, a6] ((.ref v) :: st) h n q P := ev_go (congrFun (e_L_law_507 (X := X)) _)
set_option maxRecDepth 100000 in
theorem e_L_law_508 {X : ev_E} : (ev_TT X).1 309 508 = i_il 4 510 := (congrFun tt_L_law 508).trans rfl
theorem t_L_law_508 {X : ev_E} {st : List Value} {v : Int32} {a0 a1 a2 a3 a5 a6 : Value} {h : ev_M} {n q : Nat} {P : ev_O → ev_M → Nat → Nat → Prop} : ev_ok (ev_TT X) 309 508 [a0, a1, a2, a3, .int v, a5, a6] st h n q P ↔ ev_ok (ev_TT X) 309 510 [a0, a1, a2, a3, .int v, a5, a6] ((.int v) :: st) h n q P := ev_go (congrFun (e_L_law_508 (X := X)) _)
set_option maxRecDepth 100000 in
theorem e_L_law_510 {X : ev_E} : (ev_TT X).1 309 510 = i_psh (.int (2)) 511 := (congrFun tt_L_law 510).trans rfl
theorem t_L_law_510 {X : ev_E} {st : List Value} {lo : List Value} {h : ev_M} {n q : Nat} {P : ev_O → ev_M → Nat → Nat → Prop} : ev_ok (ev_TT X) 309 510 lo st h n q P ↔ ev_ok (ev_TT X) 309 511 lo ((.int (2)) :: st) h n q P := ev_go (congrFun (e_L_law_510 (X := X)) _)
set_option maxRecDepth 100000 in
theorem e_L_law_511 {X : ev_E} : (ev_TT X).1 309 511 = i_ii (fun a b => a + b) 512 := (congrFun tt_L_law 511).trans rfl
theorem t_L_law_511 {X : ev_E} {x y : Int32} {st : List Value} {lo : List Value} {h : ev_M} {n q : Nat} {P : ev_O → ev_M → Nat → Nat → Prop} : ev_ok (ev_TT X) 309 511 lo (.int y :: .int x :: st) h n q P ↔ ev_ok (ev_TT X) 309 512 lo (.int (x + y) :: st) h n q P := ev_go (congrFun (e_L_law_511 (X := X)) _)
set_option maxRecDepth 100000 in
theorem e_L_law_512 {X : ev_E} : (ev_TT X).1 309 512 = i_ald X ev_tI 513 := (congrFun tt_L_law 512).trans rfl
theorem t_L_law_512 {X : ev_E} {i : Int32} {x : Nat} {st : List Value} {lo : List Value} {h : ev_M} {n q : Nat} {P : ev_O → ev_M → Nat → Nat → Prop} : ev_ok (ev_TT X) 309 512 lo (.int i :: .ref x :: st) h n q P ↔ ev_inA (ev_lk X h x) i ev_tI ∧ ev_ok (ev_TT X) 309 513 lo (ev_aG (ev_lk X h x) i :: st) h n q P := ev_goG (congrFun (e_L_law_512 (X := X)) _)
set_option maxRecDepth 100000 in
theorem e_L_law_513 {X : ev_E} : (ev_TT X).1 309 513 = i_al 3 514 := (congrFun tt_L_law 513).trans rfl
theorem t_L_law_513 {X : ev_E} {st : List Value} {v : Nat} {a0 a1 a2 a4 a5 a6 : Value} {h : ev_M} {n q : Nat} {P : ev_O → ev_M → Nat → Nat → Prop} : ev_ok (ev_TT X) 309 513 [a0, a1, a2, .ref v, a4, a5, a6] st h n q P ↔ ev_ok (ev_TT X) 309 514 [a0, a1, a2, .ref v, a4, a5, a6] ((.ref v) :: st) h n q P := ev_go (congrFun (e_L_law_513 (X := X)) _)
set_option maxRecDepth 100000 in
theorem e_L_law_514 {X : ev_E} : (ev_TT X).1 309 514 = i_cS 222 4 5 517 := (congrFun tt_L_law 514).trans rfl
theorem t_L_law_514 {X : ev_E} {y3 : Nat} {y2 : Int32} {y1 : Int32} {y0 : Nat} {lo : List Value} {h : ev_M} {n q : Nat} {P : ev_O → ev_M → Nat → Nat → Prop} : ev_ok (ev_TT X) 309 514 lo [.ref y3, .int y2, .int y1, .ref y0] h n q P ↔ ev_ok (ev_TT X) 222 0 [.ref y0, .int y1, .int y2, .ref y3, ev_J] [] h n q (ev_kr (ev_TT X) 309 514 517 lo [] P) := (ev_caG (congrFun (e_L_law_514 (X := X)) _)).trans ⟨fun k => k.2, fun k => ⟨⟨rfl, Nat.le_of_ble_eq_true rfl, Nat.le_of_ble_eq_true rfl⟩, k⟩⟩
set_option maxRecDepth 100000 in
theorem e_L_law_517 {X : ev_E} : (ev_TT X).1 309 517 = i_is 5 519 := (congrFun tt_L_law 517).trans rfl
theorem t_L_law_517 {X : ev_E} {st : List Value} {v : Int32} {a0 a1 a2 a3 a4 a5 a6 : Value} {h : ev_M} {n q : Nat} {P : ev_O → ev_M → Nat → Nat → Prop} : ev_ok (ev_TT X) 309 517 [a0, a1, a2, a3, a4, a5, a6] ((.int v) :: st) h n q P ↔ ev_ok (ev_TT X) 309 519 [a0, a1, a2, a3, ev_k a4, .int v, a6] st h n q P := ev_go (congrFun (e_L_law_517 (X := X)) _)
set_option maxRecDepth 100000 in
theorem e_L_law_519 {X : ev_E} : (ev_TT X).1 309 519 = i_al 2 520 := (congrFun tt_L_law 519).trans rfl
theorem t_L_law_519 {X : ev_E} {st : List Value} {v : Nat} {a0 a1 a3 a4 a5 a6 : Value} {h : ev_M} {n q : Nat} {P : ev_O → ev_M → Nat → Nat → Prop} : ev_ok (ev_TT X) 309 519 [a0, a1, .ref v, a3, a4, a5, a6] st h n q P ↔ ev_ok (ev_TT X) 309 520 [a0, a1, .ref v, a3, a4, a5, a6] ((.ref v) :: st) h n q P := ev_go (congrFun (e_L_law_519 (X := X)) _)
set_option maxRecDepth 100000 in
theorem e_L_law_520 {X : ev_E} : (ev_TT X).1 309 520 = i_al 0 521 := (congrFun tt_L_law 520).trans rfl
theorem t_L_law_520 {X : ev_E} {st : List Value} {v : Nat} {a1 a2 a3 a4 a5 a6 : Value} {h : ev_M} {n q : Nat} {P : ev_O → ev_M → Nat → Nat → Prop} : ev_ok (ev_TT X) 309 520 [.ref v, a1, a2, a3, a4, a5, a6] st h n q P ↔ ev_ok (ev_TT X) 309 521 [.ref v, a1, a2, a3, a4, a5, a6] ((.ref v) :: st) h n q P := ev_go (congrFun (e_L_law_520 (X := X)) _)
set_option maxRecDepth 100000 in
theorem e_L_law_521 {X : ev_E} : (ev_TT X).1 309 521 = i_il 4 523 := (congrFun tt_L_law 521).trans rfl
theorem t_L_law_521 {X : ev_E} {st : List Value} {v : Int32} {a0 a1 a2 a3 a5 a6 : Value} {h : ev_M} {n q : Nat} {P : ev_O → ev_M → Nat → Nat → Prop} : ev_ok (ev_TT X) 309 521 [a0, a1, a2, a3, .int v, a5, a6] st h n q P ↔ ev_ok (ev_TT X) 309 523 [a0, a1, a2, a3, .int v, a5, a6] ((.int v) :: st) h n q P := ev_go (congrFun (e_L_law_521 (X := X)) _)
set_option maxRecDepth 100000 in
theorem e_L_law_523 {X : ev_E} : (ev_TT X).1 309 523 = i_psh (.int (1)) 524 := (congrFun tt_L_law 523).trans rfl
theorem t_L_law_523 {X : ev_E} {st : List Value} {lo : List Value} {h : ev_M} {n q : Nat} {P : ev_O → ev_M → Nat → Nat → Prop} : ev_ok (ev_TT X) 309 523 lo st h n q P ↔ ev_ok (ev_TT X) 309 524 lo ((.int (1)) :: st) h n q P := ev_go (congrFun (e_L_law_523 (X := X)) _)
set_option maxRecDepth 100000 in
theorem e_L_law_524 {X : ev_E} : (ev_TT X).1 309 524 = i_ii (fun a b => a + b) 525 := (congrFun tt_L_law 524).trans rfl
theorem t_L_law_524 {X : ev_E} {x y : Int32} {st : List Value} {lo : List Value} {h : ev_M} {n q : Nat} {P : ev_O → ev_M → Nat → Nat → Prop} : ev_ok (ev_TT X) 309 524 lo (.int y :: .int x :: st) h n q P ↔ ev_ok (ev_TT X) 309 525 lo (.int (x + y) :: st) h n q P := ev_go (congrFun (e_L_law_524 (X := X)) _)
set_option maxRecDepth 100000 in
theorem e_L_law_525 {X : ev_E} : (ev_TT X).1 309 525 = i_ald X ev_tI 526 := (congrFun tt_L_law 525).trans rfl
theorem t_L_law_525 {X : ev_E} {i : Int32} {x : Nat} {st : List Value} {lo : List Value} {h : ev_M} {n q : Nat} {P : ev_O → ev_M → Nat → Nat → Prop} : ev_ok (ev_TT X) 309 525 lo (.int i :: .ref x :: st) h n q P ↔ ev_inA (ev_lk X h x) i ev_tI ∧ ev_ok (ev_TT X) 309 526 lo (ev_aG (ev_lk X h x) i :: st) h n q P := ev_goG (congrFun (e_L_law_525 (X := X)) _)
set_option maxRecDepth 100000 in
theorem e_L_law_526 {X : ev_E} : (ev_TT X).1 309 526 = i_al 0 527 := (congrFun tt_L_law 526).trans rfl
theorem t_L_law_526 {X : ev_E} {st : List Value} {v : Nat} {a1 a2 a3 a4 a5 a6 : Value} {h : ev_M} {n q : Nat} {P : ev_O → ev_M → Nat → Nat → Prop} : ev_ok (ev_TT X) 309 526 [.ref v, a1, a2, a3, a4, a5, a6] st h n q P ↔ ev_ok (ev_TT X) 309 527 [.ref v, a1, a2, a3, a4, a5, a6] ((.ref v) :: st) h n q P := ev_go (congrFun (e_L_law_526 (X := X)) _)
set_option maxRecDepth 100000 in
theorem e_L_law_527 {X : ev_E} : (ev_TT X).1 309 527 = i_il 4 529 := (congrFun tt_L_law 527).trans rfl
theorem t_L_law_527 {X : ev_E} {st : List Value} {v : Int32} {a0 a1 a2 a3 a5 a6 : Value} {h : ev_M} {n q : Nat} {P : ev_O → ev_M → Nat → Nat → Prop} : ev_ok (ev_TT X) 309 527 [a0, a1, a2, a3, .int v, a5, a6] st h n q P ↔ ev_ok (ev_TT X) 309 529 [a0, a1, a2, a3, .int v, a5, a6] ((.int v) :: st) h n q P := ev_go (congrFun (e_L_law_527 (X := X)) _)
set_option maxRecDepth 100000 in
theorem e_L_law_529 {X : ev_E} : (ev_TT X).1 309 529 = i_psh (.int (2)) 530 := (congrFun tt_L_law 529).trans rfl
theorem t_L_law_529 {X : ev_E} {st : List Value} {lo : List Value} {h : ev_M} {n q : Nat} {P : ev_O → ev_M → Nat → Nat → Prop} : ev_ok (ev_TT X) 309 529 lo st h n q P ↔ ev_ok (ev_TT X) 309 530 lo ((.int (2)) :: st) h n q P := ev_go (congrFun (e_L_law_529 (X := X)) _)
set_option maxRecDepth 100000 in
theorem e_L_law_530 {X : ev_E} : (ev_TT X).1 309 530 = i_ii (fun a b => a + b) 531 := (congrFun tt_L_law 530).trans rfl
theorem t_L_law_530 {X : ev_E} {x y : Int32} {st : List Value} {lo : List Value} {h : ev_M} {n q : Nat} {P : ev_O → ev_M → Nat → Nat → Prop} : ev_ok (ev_TT X) 309 530 lo (.int y :: .int x :: st) h n q P ↔ ev_ok (ev_TT X) 309 531 lo (.int (x + y) :: st) h n q P := ev_go (congrFun (e_L_law_530 (X := X)) _)
set_option maxRecDepth 100000 in
theorem e_L_law_531 {X : ev_E} : (ev_TT X).1 309 531 = i_ald X ev_tI 532 := (congrFun tt_L_law 531).trans rfl
theorem t_L_law_531 {X : ev_E} {i : Int32} {x : Nat} {st : List Value} {lo : List Value} {h : ev_M} {n q : Nat} {P : ev_O → ev_M → Nat → Nat → Prop} : ev_ok (ev_TT X) 309 531 lo (.int i :: .ref x :: st) h n q P ↔ ev_inA (ev_lk X h x) i ev_tI ∧ ev_ok (ev_TT X) 309 532 lo (ev_aG (ev_lk X h x) i :: st) h n q P := ev_goG (congrFun (e_L_law_531 (X := X)) _)
set_option maxRecDepth 100000 in
theorem e_L_law_532 {X : ev_E} : (ev_TT X).1 309 532 = i_cV X 239 2 13 5 535 := (congrFun tt_L_law 532).trans rfl
theorem t_L_law_532 {X : ev_E} {x : Nat} {y1 : Int32} {y0 : Int32} {lo : List Value} {h : ev_M} {n q : Nat} {P : ev_O → ev_M → Nat → Nat → Prop} : ev_ok (ev_TT X) 309 532 lo [.int y1, .int y0, .ref x] h n q P ↔ ev_isK (ev_lk X h x) 13 ∧ ev_ok (ev_TT X) 239 0 [.ref x, .int y0, .int y1, ev_J, ev_J] [] h n q (ev_kr (ev_TT X) 309 532 535 lo [] P) := (ev_caG (congrFun (e_L_law_532 (X := X)) _)).trans (and_congr_left' ⟨fun k => k.1, fun k => ⟨k, rfl, Or.inl (Nat.le_of_ble_eq_true rfl), Nat.le_of_ble_eq_true rfl⟩⟩)
theorem x_L_law_532 {X : ev_E} {lo st : List Value} {h : ev_M} {n q : Nat} {P : ev_O → ev_M → Nat → Nat → Prop} {E : Nat} : ev_kr (ev_TT X) 309 532 535 lo st P (.inr E) h n q ↔ P (.inr E) h n q := ev_kr_x rfl
set_option maxRecDepth 100000 in
theorem e_L_law_535 {X : ev_E} : (ev_TT X).1 309 535 = i_is 6 537 := (congrFun tt_L_law 535).trans rfl
theorem t_L_law_535 {X : ev_E} {st : List Value} {v : Int32} {a0 a1 a2 a3 a4 a5 a6 : Value} {h : ev_M} {n q : Nat} {P : ev_O → ev_M → Nat → Nat → Prop} : ev_ok (ev_TT X) 309 535 [a0, a1, a2, a3, a4, a5, a6] ((.int v) :: st) h n q P ↔ ev_ok (ev_TT X) 309 537 [a0, a1, a2, a3, a4, ev_k a5, .int v] st h n q P := ev_go (congrFun (e_L_law_535 (X := X)) _)
set_option maxRecDepth 100000 in
theorem e_L_law_537 {X : ev_E} : (ev_TT X).1 309 537 = i_goto 1713 := (congrFun tt_L_law 537).trans rfl
theorem t_L_law_537 {X : ev_E} {st : List Value} {lo : List Value} {h : ev_M} {n q : Nat} {P : ev_O → ev_M → Nat → Nat → Prop} : ev_ok (ev_TT X) 309 537 lo st h n q P ↔ ev_ok (ev_TT X) 309 1713 lo st h n q P := ev_go (congrFun (e_L_law_537 (X := X)) _)
set_option maxRecDepth 100000 in
theorem e_L_law_540 {X : ev_E} : (ev_TT X).1 309 540 = i_al 1 541 := (congrFun tt_L_law 540).trans rfl
theorem t_L_law_540 {X : ev_E} {st : List Value} {v : Nat} {a0 a2 a3 a4 a5 a6 : Value} {h : ev_M} {n q : Nat} {P : ev_O → ev_M → Nat → Nat → Prop} : ev_ok (ev_TT X) 309 540 [a0, .ref v, a2, a3, a4, a5, a6] st h n q P ↔ ev_ok (ev_TT X) 309 541 [a0, .ref v, a2, a3, a4, a5, a6] ((.ref v) :: st) h n q P := ev_go (congrFun (e_L_law_540 (X := X)) _)
set_option maxRecDepth 100000 in
theorem e_L_law_541 {X : ev_E} : (ev_TT X).1 309 541 = i_al 0 542 := (congrFun tt_L_law 541).trans rfl
theorem t_L_law_541 {X : ev_E} {st : List Value} {v : Nat} {a1 a2 a3 a4 a5 a6 : Value} {h : ev_M} {n q : Nat} {P : ev_O → ev_M → Nat → Nat → Prop} : ev_ok (ev_TT X) 309 541 [.ref v, a1, a2, a3, a4, a5, a6] st h n q P ↔ ev_ok (ev_TT X) 309 542 [.ref v, a1, a2, a3, a4, a5, a6] ((.ref v) :: st) h n q P := ev_go (congrFun (e_L_law_541 (X := X)) _)
set_option maxRecDepth 100000 in
theorem e_L_law_542 {X : ev_E} : (ev_TT X).1 309 542 = i_il 4 544 := (congrFun tt_L_law 542).trans rfl
theorem t_L_law_542 {X : ev_E} {st : List Value} {v : Int32} {a0 a1 a2 a3 a5 a6 : Value} {h : ev_M} {n q : Nat} {P : ev_O → ev_M → Nat → Nat → Prop} : ev_ok (ev_TT X) 309 542 [a0, a1, a2, a3, .int v, a5, a6] st h n q P ↔ ev_ok (ev_TT X) 309 544 [a0, a1, a2, a3, .int v, a5, a6] ((.int v) :: st) h n q P := ev_go (congrFun (e_L_law_542 (X := X)) _)
set_option maxRecDepth 100000 in
theorem e_L_law_544 {X : ev_E} : (ev_TT X).1 309 544 = i_psh (.int (1)) 545 := (congrFun tt_L_law 544).trans rfl
theorem t_L_law_544 {X : ev_E} {st : List Value} {lo : List Value} {h : ev_M} {n q : Nat} {P : ev_O → ev_M → Nat → Nat → Prop} : ev_ok (ev_TT X) 309 544 lo st h n q P ↔ ev_ok (ev_TT X) 309 545 lo ((.int (1)) :: st) h n q P := ev_go (congrFun (e_L_law_544 (X := X)) _)
set_option maxRecDepth 100000 in
theorem e_L_law_545 {X : ev_E} : (ev_TT X).1 309 545 = i_ii (fun a b => a + b) 546 := (congrFun tt_L_law 545).trans rfl
theorem t_L_law_545 {X : ev_E} {x y : Int32} {st : List Value} {lo : List Value} {h : ev_M} {n q : Nat} {P : ev_O → ev_M → Nat → Nat → Prop} : ev_ok (ev_TT X) 309 545 lo (.int y :: .int x :: st) h n q P ↔ ev_ok (ev_TT X) 309 546 lo (.int (x + y) :: st) h n q P := ev_go (congrFun (e_L_law_545 (X := X)) _)
set_option maxRecDepth 100000 in
theorem e_L_law_546 {X : ev_E} : (ev_TT X).1 309 546 = i_ald X ev_tI 547 := (congrFun tt_L_law 546).trans rfl
theorem t_L_law_546 {X : ev_E} {i : Int32} {x : Nat} {st : List Value} {lo : List Value} {h : ev_M} {n q : Nat} {P : ev_O → ev_M → Nat → Nat → Prop} : ev_ok (ev_TT X) 309 546 lo (.int i :: .ref x :: st) h n q P ↔ ev_inA (ev_lk X h x) i ev_tI ∧ ev_ok (ev_TT X) 309 547 lo (ev_aG (ev_lk X h x) i :: st) h n q P := ev_goG (congrFun (e_L_law_546 (X := X)) _)
set_option maxRecDepth 100000 in
theorem e_L_law_547 {X : ev_E} : (ev_TT X).1 309 547 = i_al 3 548 := (congrFun tt_L_law 547).trans rfl
theorem t_L_law_547 {X : ev_E} {st : List Value} {v : Nat} {a0 a1 a2 a4 a5 a6 : Value} {h : ev_M} {n q : Nat} {P : ev_O → ev_M → Nat → Nat → Prop} : ev_ok (ev_TT X) 309 547 [a0, a1, a2, .ref v, a4, a5, a6] st h n q P ↔ ev_ok (ev_TT X) 309 548 [a0, a1, a2, .ref v, a4, a5, a6] ((.ref v) :: st) h n q P := ev_go (congrFun (e_L_law_547 (X := X)) _)
set_option maxRecDepth 100000 in
theorem e_L_law_548 {X : ev_E} : (ev_TT X).1 309 548 = i_cS 131 3 4 551 := (congrFun tt_L_law 548).trans rfl
theorem t_L_law_548 {X : ev_E} {y2 : Nat} {y1 : Int32} {y0 : Nat} {lo : List Value} {h : ev_M} {n q : Nat} {P : ev_O → ev_M → Nat → Nat → Prop} : ev_ok (ev_TT X) 309 548 lo [.ref y2, .int y1, .ref y0] h n q P ↔ ev_ok (ev_TT X) 131 0 [.ref y0, .int y1, .ref y2, ev_J] [] h n q (ev_kr (ev_TT X) 309 548 551 lo [] P) := (ev_caG (congrFun (e_L_law_548 (X := X)) _)).trans ⟨fun k => k.2, fun k => ⟨⟨rfl, Nat.le_of_ble_eq_true rfl, Nat.le_of_ble_eq_true rfl⟩, k⟩⟩
set_option maxRecDepth 100000 in
theorem e_L_law_551 {X : ev_E} : (ev_TT X).1 309 551 = i_is 5 553 := (congrFun tt_L_law 551).trans rfl
theorem t_L_law_551 {X : ev_E} {st : List Value} {v : Int32} {a0 a1 a2 a3 a4 a5 a6 : Value} {h : ev_M} {n q : Nat} {P : ev_O → ev_M → Nat → Nat → Prop} : ev_ok (ev_TT X) 309 551 [a0, a1, a2, a3, a4, a5, a6] ((.int v) :: st) h n q P ↔ ev_ok (ev_TT X) 309 553 [a0, a1, a2, a3, ev_k a4, .int v, a6] st h n q P := ev_go (congrFun (e_L_law_551 (X := X)) _)
set_option maxRecDepth 100000 in
theorem e_L_law_553 {X : ev_E} : (ev_TT X).1 309 553 = i_al 2 554 := (congrFun tt_L_law 553).trans rfl
theorem t_L_law_553 {X : ev_E} {st : List Value} {v : Nat} {a0 a1 a3 a4 a5 a6 : Value} {h : ev_M} {n q : Nat} {P : ev_O → ev_M → Nat → Nat → Prop} : ev_ok (ev_TT X) 309 553 [a0, a1, .ref v, a3, a4, a5, a6] st h n q P ↔ ev_ok (ev_TT X) 309 554 [a0, a1, .ref v, a3, a4, a5, a6] ((.ref v) :: st) h n q P := ev_go (congrFun (e_L_law_553 (X := X)) _)
set_option maxRecDepth 100000 in
theorem e_L_law_554 {X : ev_E} : (ev_TT X).1 309 554 = i_al 0 555 := (congrFun tt_L_law 554).trans rfl
theorem t_L_law_554 {X : ev_E} {st : List Value} {v : Nat} {a1 a2 a3 a4 a5 a6 : Value} {h : ev_M} {n q : Nat} {P : ev_O → ev_M → Nat → Nat → Prop} : ev_ok (ev_TT X) 309 554 [.ref v, a1, a2, a3, a4, a5, a6] st h n q P ↔ ev_ok (ev_TT X) 309 555 [.ref v, a1, a2, a3, a4, a5, a6] ((.ref v) :: st) h n q P := ev_go (congrFun (e_L_law_554 (X := X)) _)
set_option maxRecDepth 100000 in
theorem e_L_law_555 {X : ev_E} : (ev_TT X).1 309 555 = i_il 4 557 := (congrFun tt_L_law 555).trans rfl
theorem t_L_law_555 {X : ev_E} {st : List Value} {v : Int32} {a0 a1 a2 a3 a5 a6 : Value} {h : ev_M} {n q : Nat} {P : ev_O → ev_M → Nat → Nat → Prop} : ev_ok (ev_TT X) 309 555 [a0, a1, a2, a3, .int v, a5, a6] st h n q P ↔ ev_ok (ev_TT X) 309 557 [a0, a1, a2, a3, .int v, a5, a6] ((.int v) :: st) h n q P := ev_go (congrFun (e_L_law_555 (X := X)) _)
set_option maxRecDepth 100000 in
theorem e_L_law_557 {X : ev_E} : (ev_TT X).1 309 557 = i_psh (.int (1)) 558 := (congrFun tt_L_law 557).trans rfl
theorem t_L_law_557 {X : ev_E} {st : List Value} {lo : List Value} {h : ev_M} {n q : Nat} {P : ev_O → ev_M → Nat → Nat → Prop} : ev_ok (ev_TT X) 309 557 lo st h n q P ↔ ev_ok (ev_TT X) 309 558 lo ((.int (1)) :: st) h n q P := ev_go (congrFun (e_L_law_557 (X := X)) _)
set_option maxRecDepth 100000 in
theorem e_L_law_558 {X : ev_E} : (ev_TT X).1 309 558 = i_ii (fun a b => a + b) 559 := (congrFun tt_L_law 558).trans rfl
theorem t_L_law_558 {X : ev_E} {x y : Int32} {st : List Value} {lo : List Value} {h : ev_M} {n q : Nat} {P : ev_O → ev_M → Nat → Nat → Prop} : ev_ok (ev_TT X) 309 558 lo (.int y :: .int x :: st) h n q P ↔ ev_ok (ev_TT X) 309 559 lo (.int (x + y) :: st) h n q P := ev_go (congrFun (e_L_law_558 (X := X)) _)
set_option maxRecDepth 100000 in
theorem e_L_law_559 {X : ev_E} : (ev_TT X).1 309 559 = i_ald X ev_tI 560 := (congrFun tt_L_law 559).trans rfl
theorem t_L_law_559 {X : ev_E} {i : Int32} {x : Nat} {st : List Value} {lo : List Value} {h : ev_M} {n q : Nat} {P : ev_O → ev_M → Nat → Nat → Prop} : ev_ok (ev_TT X) 309 559 lo (.int i :: .ref x :: st) h n q P ↔ ev_inA (ev_lk X h x) i ev_tI ∧ ev_ok (ev_TT X) 309 560 lo (ev_aG (ev_lk X h x) i :: st) h n q P := ev_goG (congrFun (e_L_law_559 (X := X)) _)
set_option maxRecDepth 100000 in
theorem e_L_law_560 {X : ev_E} : (ev_TT X).1 309 560 = i_cV X 163 1 13 3 563 := (congrFun tt_L_law 560).trans rfl
theorem t_L_law_560 {X : ev_E} {x : Nat} {y0 : Int32} {lo : List Value} {h : ev_M} {n q : Nat} {P : ev_O → ev_M → Nat → Nat → Prop} : ev_ok (ev_TT X) 309 560 lo [.int y0, .ref x] h n q P ↔ ev_isK (ev_lk X h x) 13 ∧ ev_ok (ev_TT X) 163 0 [.ref x, .int y0, ev_J] [] h n q (ev_kr (ev_TT X) 309 560 563 lo [] P) := (ev_caG (congrFun (e_L_law_560 (X := X)) _)).trans (and_congr_left' ⟨fun k => k.1, fun k => ⟨k, rfl, Or.inl (Nat.le_of_ble_eq_true rfl), Nat.le_of_ble_eq_true rfl⟩⟩)
theorem x_L_law_560 {X : ev_E} {lo st : List Value} {h : ev_M} {n q : Nat} {P : ev_O → ev_M → Nat → Nat → Prop} {E : Nat} : ev_kr (ev_TT X) 309 560 563 lo st P (.inr E) h n q ↔ P (.inr E) h n q := ev_kr_x rfl
set_option maxRecDepth 100000 in
theorem e_L_law_563 {X : ev_E} : (ev_TT X).1 309 563 = i_is 6 565 := (congrFun tt_L_law 563).trans rfl
theorem t_L_law_563 {X : ev_E} {st : List Value} {v : Int32} {a0 a1 a2 a3 a4 a5 a6 : Value} {h : ev_M} {n q : Nat} {P : ev_O → ev_M → Nat → Nat → Prop} : ev_ok (ev_TT X) 309 563 [a0, a1, a2, a3, a4, a5, a6] ((.int v) :: st) h n q P ↔ ev_ok (ev_TT X) 309 565 [a0, a1, a2, a3, a4, ev_k a5, .int v] st h n q P := ev_go (congrFun (e_L_law_563 (X := X)) _)
set_option maxRecDepth 100000 in
theorem e_L_law_565 {X : ev_E} : (ev_TT X).1 309 565 = i_goto 1713 := (congrFun tt_L_law 565).trans rfl
theorem t_L_law_565 {X : ev_E} {st : List Value} {lo : List Value} {h : ev_M} {n q : Nat} {P : ev_O → ev_M → Nat → Nat → Prop} : ev_ok (ev_TT X) 309 565 lo st h n q P ↔ ev_ok (ev_TT X) 309 1713 lo st h n q P := ev_go (congrFun (e_L_law_565 (X := X)) _)
set_option maxRecDepth 100000 in
theorem e_L_law_568 {X : ev_E} : (ev_TT X).1 309 568 = i_al 1 569 := (congrFun tt_L_law 568).trans rfl
theorem t_L_law_568 {X : ev_E} {st : List Value} {v : Nat} {a0 a2 a3 a4 a5 a6 : Value} {h : ev_M} {n q : Nat} {P : ev_O → ev_M → Nat → Nat → Prop} : ev_ok (ev_TT X) 309 568 [a0, .ref v, a2, a3, a4, a5, a6] st h n q P ↔ ev_ok (ev_TT X) 309 569 [a0, .ref v, a2, a3, a4, a5, a6] ((.ref v) :: st) h n q P := ev_go (congrFun (e_L_law_568 (X := X)) _)
set_option maxRecDepth 100000 in
theorem e_L_law_569 {X : ev_E} : (ev_TT X).1 309 569 = i_al 0 570 := (congrFun tt_L_law 569).trans rfl
theorem t_L_law_569 {X : ev_E} {st : List Value} {v : Nat} {a1 a2 a3 a4 a5 a6 : Value} {h : ev_M} {n q : Nat} {P : ev_O → ev_M → Nat → Nat → Prop} : ev_ok (ev_TT X) 309 569 [.ref v, a1, a2, a3, a4, a5, a6] st h n q P ↔ ev_ok (ev_TT X) 309 570 [.ref v, a1, a2, a3, a4, a5, a6] ((.ref v) :: st) h n q P := ev_go (congrFun (e_L_law_569 (X := X)) _)
set_option maxRecDepth 100000 in
theorem e_L_law_570 {X : ev_E} : (ev_TT X).1 309 570 = i_il 4 572 := (congrFun tt_L_law 570).trans rfl
theorem t_L_law_570 {X : ev_E} {st : List Value} {v : Int32} {a0 a1 a2 a3 a5 a6 : Value} {h : ev_M} {n q : Nat} {P : ev_O → ev_M → Nat → Nat → Prop} : ev_ok (ev_TT X) 309 570 [a0, a1, a2, a3, .int v, a5, a6] st h n q P ↔ ev_ok (ev_TT X) 309 572 [a0, a1, a2, a3, .int v, a5, a6] ((.int v) :: st) h n q P := ev_go (congrFun (e_L_law_570 (X := X)) _)
set_option maxRecDepth 100000 in
theorem e_L_law_572 {X : ev_E} : (ev_TT X).1 309 572 = i_psh (.int (1)) 573 := (congrFun tt_L_law 572).trans rfl
theorem t_L_law_572 {X : ev_E} {st : List Value} {lo : List Value} {h : ev_M} {n q : Nat} {P : ev_O → ev_M → Nat → Nat → Prop} : ev_ok (ev_TT X) 309 572 lo st h n q P ↔ ev_ok (ev_TT X) 309 573 lo ((.int (1)) :: st) h n q P := ev_go (congrFun (e_L_law_572 (X := X)) _)
set_option maxRecDepth 100000 in
theorem e_L_law_573 {X : ev_E} : (ev_TT X).1 309 573 = i_ii (fun a b => a + b) 574 := (congrFun tt_L_law 573).trans rfl
theorem t_L_law_573 {X : ev_E} {x y : Int32} {st : List Value} {lo : List Value} {h : ev_M} {n q : Nat} {P : ev_O → ev_M → Nat → Nat → Prop} : ev_ok (ev_TT X) 309 573 lo (.int y :: .int x :: st) h n q P ↔ ev_ok (ev_TT X) 309 574 lo (.int (x + y) :: st) h n q P := ev_go (congrFun (e_L_law_573 (X := X)) _)
set_option maxRecDepth 100000 in
theorem e_L_law_574 {X : ev_E} : (ev_TT X).1 309 574 = i_ald X ev_tI 575 := (congrFun tt_L_law 574).trans rfl
theorem t_L_law_574 {X : ev_E} {i : Int32} {x : Nat} {st : List Value} {lo : List Value} {h : ev_M} {n q : Nat} {P : ev_O → ev_M → Nat → Nat → Prop} : ev_ok (ev_TT X) 309 574 lo (.int i :: .ref x :: st) h n q P ↔ ev_inA (ev_lk X h x) i ev_tI ∧ ev_ok (ev_TT X) 309 575 lo (ev_aG (ev_lk X h x) i :: st) h n q P := ev_goG (congrFun (e_L_law_574 (X := X)) _)
set_option maxRecDepth 100000 in
theorem e_L_law_575 {X : ev_E} : (ev_TT X).1 309 575 = i_al 0 576 := (congrFun tt_L_law 575).trans rfl
theorem t_L_law_575 {X : ev_E} {st : List Value} {v : Nat} {a1 a2 a3 a4 a5 a6 : Value} {h : ev_M} {n q : Nat} {P : ev_O → ev_M → Nat → Nat → Prop} : ev_ok (ev_TT X) 309 575 [.ref v, a1, a2, a3, a4, a5, a6] st h n q P ↔ ev_ok (ev_TT X) 309 576 [.ref v, a1, a2, a3, a4, a5, a6] ((.ref v) :: st) h n q P := ev_go (congrFun (e_L_law_575 (X := X)) _)
set_option maxRecDepth 100000 in
theorem e_L_law_576 {X : ev_E} : (ev_TT X).1 309 576 = i_il 4 578 := (congrFun tt_L_law 576).trans rfl
theorem t_L_law_576 {X : ev_E} {st : List Value} {v : Int32} {a0 a1 a2 a3 a5 a6 : Value} {h : ev_M} {n q : Nat} {P : ev_O → ev_M → Nat → Nat → Prop} : ev_ok (ev_TT X) 309 576 [a0, a1, a2, a3, .int v, a5, a6] st h n q P ↔ ev_ok (ev_TT X) 309 578 [a0, a1, a2, a3, .int v, a5, a6] ((.int v) :: st) h n q P := ev_go (congrFun (e_L_law_576 (X := X)) _)
set_option maxRecDepth 100000 in
theorem e_L_law_578 {X : ev_E} : (ev_TT X).1 309 578 = i_psh (.int (2)) 579 := (congrFun tt_L_law 578).trans rfl
theorem t_L_law_578 {X : ev_E} {st : List Value} {lo : List Value} {h : ev_M} {n q : Nat} {P : ev_O → ev_M → Nat → Nat → Prop} : ev_ok (ev_TT X) 309 578 lo st h n q P ↔ ev_ok (ev_TT X) 309 579 lo ((.int (2)) :: st) h n q P := ev_go (congrFun (e_L_law_578 (X := X)) _)
set_option maxRecDepth 100000 in
theorem e_L_law_579 {X : ev_E} : (ev_TT X).1 309 579 = i_ii (fun a b => a + b) 580 := (congrFun tt_L_law 579).trans rfl
theorem t_L_law_579 {X : ev_E} {x y : Int32} {st : List Value} {lo : List Value} {h : ev_M} {n q : Nat} {P : ev_O → ev_M → Nat → Nat → Prop} : ev_ok (ev_TT X) 309 579 lo (.int y :: .int x :: st) h n q P ↔ ev_ok (ev_TT X) 309 580 lo (.int (x + y) :: st) h n q P := ev_go (congrFun (e_L_law_579 (X := X)) _)
set_option maxRecDepth 100000 in
theorem e_L_law_580 {X : ev_E} : (ev_TT X).1 309 580 = i_ald X ev_tI 581 := (congrFun tt_L_law 580).trans rfl
theorem t_L_law_580 {X : ev_E} {i : Int32} {x : Nat} {st : List Value} {lo : List Value} {h : ev_M} {n q : Nat} {P : ev_O → ev_M → Nat → Nat → Prop} : ev_ok (ev_TT X) 309 580 lo (.int i :: .ref x :: st) h n q P ↔ ev_inA (ev_lk X h x) i ev_tI ∧ ev_ok (ev_TT X) 309 581 lo (ev_aG (ev_lk X h x) i :: st) h n q P := ev_goG (congrFun (e_L_law_580 (X := X)) _)
set_option maxRecDepth 100000 in
theorem e_L_law_581 {X : ev_E} : (ev_TT X).1 309 581 = i_al 0 582 := (congrFun tt_L_law 581).trans rfl
theorem t_L_law_581 {X : ev_E} {st : List Value} {v : Nat} {a1 a2 a3 a4 a5 a6 : Value} {h : ev_M} {n q : Nat} {P : ev_O → ev_M → Nat → Nat → Prop} : ev_ok (ev_TT X) 309 581 [.ref v, a1, a2, a3, a4, a5, a6] st h n q P ↔ ev_ok (ev_TT X) 309 582 [.ref v, a1, a2, a3, a4, a5, a6] ((.ref v) :: st) h n q P := ev_go (congrFun (e_L_law_581 (X := X)) _)
set_option maxRecDepth 100000 in
theorem e_L_law_582 {X : ev_E} : (ev_TT X).1 309 582 = i_il 4 584 := (congrFun tt_L_law 582).trans rfl
theorem t_L_law_582 {X : ev_E} {st : List Value} {v : Int32} {a0 a1 a2 a3 a5 a6 : Value} {h : ev_M} {n q : Nat} {P : ev_O → ev_M → Nat → Nat → Prop} : ev_ok (ev_TT X) 309 582 [a0, a1, a2, a3, .int v, a5, a6] st h n q P ↔ ev_ok (ev_TT X) 309 584 [a0, a1, a2, a3, .int v, a5, a6] ((.int v) :: st) h n q P := ev_go (congrFun (e_L_law_582 (X := X)) _)
set_option maxRecDepth 100000 in
theorem e_L_law_584 {X : ev_E} : (ev_TT X).1 309 584 = i_psh (.int (3)) 585 := (congrFun tt_L_law 584).trans rfl
theorem t_L_law_584 {X : ev_E} {st : List Value} {lo : List Value} {h : ev_M} {n q : Nat} {P : ev_O → ev_M → Nat → Nat → Prop} : ev_ok (ev_TT X) 309 584 lo st h n q P ↔ ev_ok (ev_TT X) 309 585 lo ((.int (3)) :: st) h n q P := ev_go (congrFun (e_L_law_584 (X := X)) _)
set_option maxRecDepth 100000 in
theorem e_L_law_585 {X : ev_E} : (ev_TT X).1 309 585 = i_ii (fun a b => a + b) 586 := (congrFun tt_L_law 585).trans rfl
theorem t_L_law_585 {X : ev_E} {x y : Int32} {st : List Value} {lo : List Value} {h : ev_M} {n q : Nat} {P : ev_O → ev_M → Nat → Nat → Prop} : ev_ok (ev_TT X) 309 585 lo (.int y :: .int x :: st) h n q P ↔ ev_ok (ev_TT X) 309 586 lo (.int (x + y) :: st) h n q P := ev_go (congrFun (e_L_law_585 (X := X)) _)
set_option maxRecDepth 100000 in
theorem e_L_law_586 {X : ev_E} : (ev_TT X).1 309 586 = i_ald X ev_tI 587 := (congrFun tt_L_law 586).trans rfl
theorem t_L_law_586 {X : ev_E} {i : Int32} {x : Nat} {st : List Value} {lo : List Value} {h : ev_M} {n q : Nat} {P : ev_O → ev_M → Nat → Nat → Prop} : ev_ok (ev_TT X) 309 586 lo (.int i :: .ref x :: st) h n q P ↔ ev_inA (ev_lk X h x) i ev_tI ∧ ev_ok (ev_TT X) 309 587 lo (ev_aG (ev_lk X h x) i :: st) h n q P := ev_goG (congrFun (e_L_law_586 (X := X)) _)
set_option maxRecDepth 100000 in
theorem e_L_law_587 {X : ev_E} : (ev_TT X).1 309 587 = i_al 3 588 := (congrFun tt_L_law 587).trans rfl
theorem t_L_law_587 {X : ev_E} {st : List Value} {v : Nat} {a0 a1 a2 a4 a5 a6 : Value} {h : ev_M} {n q : Nat} {P : ev_O → ev_M → Nat → Nat → Prop} : ev_ok (ev_TT X) 309 587 [a0, a1, a2, .ref v, a4, a5, a6] st h n q P ↔ ev_ok (ev_TT X) 309 588 [a0, a1, a2, .ref v, a4, a5, a6] ((.ref v) :: st) h n q P := ev_go (congrFun (e_L_law_587 (X := X)) _)
set_option maxRecDepth 100000 in
theorem e_L_law_588 {X : ev_E} : (ev_TT X).1 309 588 = i_cS 191 5 6 591 := (congrFun tt_L_law 588).trans rfl
theorem t_L_law_588 {X : ev_E} {y4 : Nat} {y3 : Int32} {y2 : Int32} {y1 : Int32} {y0 : Nat} {lo : List Value} {h : ev_M} {n q : Nat} {P : ev_O → ev_M → Nat → Nat → Prop} : ev_ok (ev_TT X) 309 588 lo [.ref y4, .int y3, .int y2, .int y1, .ref y0] h n q P ↔ ev_ok (ev_TT X) 191 0 [.ref y0, .int y1, .int y2, .int y3, .ref y4, ev_J] [] h n q (ev_kr (ev_TT X) 309 588 591 lo [] P) := (ev_caG (congrFun (e_L_law_588 (X := X)) _)).trans ⟨fun k => k.2, fun k => ⟨⟨rfl, Nat.le_of_ble_eq_true rfl, Nat.le_of_ble_eq_true rfl⟩, k⟩⟩
set_option maxRecDepth 100000 in
theorem e_L_law_591 {X : ev_E} : (ev_TT X).1 309 591 = i_is 5 593 := (congrFun tt_L_law 591).trans rfl
theorem t_L_law_591 {X : ev_E} {st : List Value} {v : Int32} {a0 a1 a2 a3 a4 a5 a6 : Value} {h : ev_M} {n q : Nat} {P : ev_O → ev_M → Nat → Nat → Prop} : ev_ok (ev_TT X) 309 591 [a0, a1, a2, a3, a4, a5, a6] ((.int v) :: st) h n q P ↔ ev_ok (ev_TT X) 309 593 [a0, a1, a2, a3, ev_k a4, .int v, a6] st h n q P := ev_go (congrFun (e_L_law_591 (X := X)) _)
set_option maxRecDepth 100000 in
theorem e_L_law_593 {X : ev_E} : (ev_TT X).1 309 593 = i_al 2 594 := (congrFun tt_L_law 593).trans rfl
theorem t_L_law_593 {X : ev_E} {st : List Value} {v : Nat} {a0 a1 a3 a4 a5 a6 : Value} {h : ev_M} {n q : Nat} {P : ev_O → ev_M → Nat → Nat → Prop} : ev_ok (ev_TT X) 309 593 [a0, a1, .ref v, a3, a4, a5, a6] st h n q P ↔ ev_ok (ev_TT X) 309 594 [a0, a1, .ref v, a3, a4, a5, a6] ((.ref v) :: st) h n q P := ev_go (congrFun (e_L_law_593 (X := X)) _)
set_option maxRecDepth 100000 in
theorem e_L_law_594 {X : ev_E} : (ev_TT X).1 309 594 = i_al 0 595 := (congrFun tt_L_law 594).trans rfl
theorem t_L_law_594 {X : ev_E} {st : List Value} {v : Nat} {a1 a2 a3 a4 a5 a6 : Value} {h : ev_M} {n q : Nat} {P : ev_O → ev_M → Nat → Nat → Prop} : ev_ok (ev_TT X) 309 594 [.ref v, a1, a2, a3, a4, a5, a6] st h n q P ↔ ev_ok (ev_TT X) 309 595 [.ref v, a1, a2, a3, a4, a5, a6] ((.ref v) :: st) h n q P := ev_go (congrFun (e_L_law_594 (X := X)) _)
set_option maxRecDepth 100000 in
theorem e_L_law_595 {X : ev_E} : (ev_TT X).1 309 595 = i_il 4 597 := (congrFun tt_L_law 595).trans rfl
theorem t_L_law_595 {X : ev_E} {st : List Value} {v : Int32} {a0 a1 a2 a3 a5 a6 : Value} {h : ev_M} {n q : Nat} {P : ev_O → ev_M → Nat → Nat → Prop} : ev_ok (ev_TT X) 309 595 [a0, a1, a2, a3, .int v, a5, a6] st h n q P ↔ ev_ok (ev_TT X) 309 597 [a0, a1, a2, a3, .int v, a5, a6] ((.int v) :: st) h n q P := ev_go (congrFun (e_L_law_595 (X := X)) _)
set_option maxRecDepth 100000 in
theorem e_L_law_597 {X : ev_E} : (ev_TT X).1 309 597 = i_psh (.int (1)) 598 := (congrFun tt_L_law 597).trans rfl
theorem t_L_law_597 {X : ev_E} {st : List Value} {lo : List Value} {h : ev_M} {n q : Nat} {P : ev_O → ev_M → Nat → Nat → Prop} : ev_ok (ev_TT X) 309 597 lo st h n q P ↔ ev_ok (ev_TT X) 309 598 lo ((.int (1)) :: st) h n q P := ev_go (congrFun (e_L_law_597 (X := X)) _)
set_option maxRecDepth 100000 in
theorem e_L_law_598 {X : ev_E} : (ev_TT X).1 309 598 = i_ii (fun a b => a + b) 599 := (congrFun tt_L_law 598).trans rfl
theorem t_L_law_598 {X : ev_E} {x y : Int32} {st : List Value} {lo : List Value} {h : ev_M} {n q : Nat} {P : ev_O → ev_M → Nat → Nat → Prop} : ev_ok (ev_TT X) 309 598 lo (.int y :: .int x :: st) h n q P ↔ ev_ok (ev_TT X) 309 599 lo (.int (x + y) :: st) h n q P := ev_go (congrFun (e_L_law_598 (X := X)) _)
set_option maxRecDepth 100000 in
theorem e_L_law_599 {X : ev_E} : (ev_TT X).1 309 599 = i_ald X ev_tI 600 := (congrFun tt_L_law 599).trans rfl
theorem t_L_law_599 {X : ev_E} {i : Int32} {x : Nat} {st : List Value} {lo : List Value} {h : ev_M} {n q : Nat} {P : ev_O → ev_M → Nat → Nat → Prop} : ev_ok (ev_TT X) 309 599 lo (.int i :: .ref x :: st) h n q P ↔ ev_inA (ev_lk X h x) i ev_tI ∧ ev_ok (ev_TT X) 309 600 lo (ev_aG (ev_lk X h x) i :: st) h n q P := ev_goG (congrFun (e_L_law_599 (X := X)) _)
set_option maxRecDepth 100000 in
theorem e_L_law_600 {X : ev_E} : (ev_TT X).1 309 600 = i_al 0 601 := (congrFun tt_L_law 600).trans rfl
theorem t_L_law_600 {X : ev_E} {st : List Value} {v : Nat} {a1 a2 a3 a4 a5 a6 : Value} {h : ev_M} {n q : Nat} {P : ev_O → ev_M → Nat → Nat → Prop} : ev_ok (ev_TT X) 309 600 [.ref v, a1, a2, a3, a4, a5, a6] st h n q P ↔ ev_ok (ev_TT X) 309 601 [.ref v, a1, a2, a3, a4, a5, a6] ((.ref v) :: st) h n q P := ev_go (congrFun (e_L_law_600 (X := X)) _)
set_option maxRecDepth 100000 in
theorem e_L_law_601 {X : ev_E} : (ev_TT X).1 309 601 = i_il 4 603 := (congrFun tt_L_law 601).trans rfl
theorem t_L_law_601 {X : ev_E} {st : List Value} {v : Int32} {a0 a1 a2 a3 a5 a6 : Value} {h : ev_M} {n q : Nat} {P : ev_O → ev_M → Nat → Nat → Prop} : ev_ok (ev_TT X) 309 601 [a0, a1, a2, a3, .int v, a5, a6] st h n q P ↔ ev_ok (ev_TT X) 309 603 [a0, a1, a2, a3, .int v, a5, a6] ((.int v) :: st) h n q P := ev_go (congrFun (e_L_law_601 (X := X)) _)
set_option maxRecDepth 100000 in
theorem e_L_law_603 {X : ev_E} : (ev_TT X).1 309 603 = i_psh (.int (2)) 604 := (congrFun tt_L_law 603).trans rfl
theorem t_L_law_603 {X : ev_E} {st : List Value} {lo : List Value} {h : ev_M} {n q : Nat} {P : ev_O → ev_M → Nat → Nat → Prop} : ev_ok (ev_TT X) 309 603 lo st h n q P ↔ ev_ok (ev_TT X) 309 604 lo ((.int (2)) :: st) h n q P := ev_go (congrFun (e_L_law_603 (X := X)) _)
set_option maxRecDepth 100000 in
theorem e_L_law_604 {X : ev_E} : (ev_TT X).1 309 604 = i_ii (fun a b => a + b) 605 := (congrFun tt_L_law 604).trans rfl
theorem t_L_law_604 {X : ev_E} {x y : Int32} {st : List Value} {lo : List Value} {h : ev_M} {n q : Nat} {P : ev_O → ev_M → Nat → Nat → Prop} : ev_ok (ev_TT X) 309 604 lo (.int y :: .int x :: st) h n q P ↔ ev_ok (ev_TT X) 309 605 lo (.int (x + y) :: st) h n q P := ev_go (congrFun (e_L_law_604 (X := X)) _)
set_option maxRecDepth 100000 in
theorem e_L_law_605 {X : ev_E} : (ev_TT X).1 309 605 = i_ald X ev_tI 606 := (congrFun tt_L_law 605).trans rfl
theorem t_L_law_605 {X : ev_E} {i : Int32} {x : Nat} {st : List Value} {lo : List Value} {h : ev_M} {n q : Nat} {P : ev_O → ev_M → Nat → Nat → Prop} : ev_ok (ev_TT X) 309 605 lo (.int i :: .ref x :: st) h n q P ↔ ev_inA (ev_lk X h x) i ev_tI ∧ ev_ok (ev_TT X) 309 606 lo (ev_aG (ev_lk X h x) i :: st) h n q P := ev_goG (congrFun (e_L_law_605 (X := X)) _)
set_option maxRecDepth 100000 in
theorem e_L_law_606 {X : ev_E} : (ev_TT X).1 309 606 = i_al 0 607 := (congrFun tt_L_law 606).trans rfl
theorem t_L_law_606 {X : ev_E} {st : List Value} {v : Nat} {a1 a2 a3 a4 a5 a6 : Value} {h : ev_M} {n q : Nat} {P : ev_O → ev_M → Nat → Nat → Prop} : ev_ok (ev_TT X) 309 606 [.ref v, a1, a2, a3, a4, a5, a6] st h n q P ↔ ev_ok (ev_TT X) 309 607 [.ref v, a1, a2, a3, a4, a5, a6] ((.ref v) :: st) h n q P := ev_go (congrFun (e_L_law_606 (X := X)) _)
set_option maxRecDepth 100000 in
theorem e_L_law_607 {X : ev_E} : (ev_TT X).1 309 607 = i_il 4 609 := (congrFun tt_L_law 607).trans rfl
theorem t_L_law_607 {X : ev_E} {st : List Value} {v : Int32} {a0 a1 a2 a3 a5 a6 : Value} {h : ev_M} {n q : Nat} {P : ev_O → ev_M → Nat → Nat → Prop} : ev_ok (ev_TT X) 309 607 [a0, a1, a2, a3, .int v, a5, a6] st h n q P ↔ ev_ok (ev_TT X) 309 609 [a0, a1, a2, a3, .int v, a5, a6] ((.int v) :: st) h n q P := ev_go (congrFun (e_L_law_607 (X := X)) _)
set_option maxRecDepth 100000 in
theorem e_L_law_609 {X : ev_E} : (ev_TT X).1 309 609 = i_psh (.int (3)) 610 := (congrFun tt_L_law 609).trans rfl
theorem t_L_law_609 {X : ev_E} {st : List Value} {lo : List Value} {h : ev_M} {n q : Nat} {P : ev_O → ev_M → Nat → Nat → Prop} : ev_ok (ev_TT X) 309 609 lo st h n q P ↔ ev_ok (ev_TT X) 309 610 lo ((.int (3)) :: st) h n q P := ev_go (congrFun (e_L_law_609 (X := X)) _)
set_option maxRecDepth 100000 in
theorem e_L_law_610 {X : ev_E} : (ev_TT X).1 309 610 = i_ii (fun a b => a + b) 611 := (congrFun tt_L_law 610).trans rfl
theorem t_L_law_610 {X : ev_E} {x y : Int32} {st : List Value} {lo : List Value} {h : ev_M} {n q : Nat} {P : ev_O → ev_M → Nat → Nat → Prop} : ev_ok (ev_TT X) 309 610 lo (.int y :: .int x :: st) h n q P ↔ ev_ok (ev_TT X) 309 611 lo (.int (x + y) :: st) h n q P := ev_go (congrFun (e_L_law_610 (X := X)) _)
set_option maxRecDepth 100000 in
theorem e_L_law_611 {X : ev_E} : (ev_TT X).1 309 611 = i_ald X ev_tI 612 := (congrFun tt_L_law 611).trans rfl
theorem t_L_law_611 {X : ev_E} {i : Int32} {x : Nat} {st : List Value} {lo : List Value} {h : ev_M} {n q : Nat} {P : ev_O → ev_M → Nat → Nat → Prop} : ev_ok (ev_TT X) 309 611 lo (.int i :: .ref x :: st) h n q P ↔ ev_inA (ev_lk X h x) i ev_tI ∧ ev_ok (ev_TT X) 309 612 lo (ev_aG (ev_lk X h x) i :: st) h n q P := ev_goG (congrFun (e_L_law_611 (X := X)) _)
set_option maxRecDepth 100000 in
theorem e_L_law_612 {X : ev_E} : (ev_TT X).1 309 612 = i_cV X 213 3 13 5 615 := (congrFun tt_L_law 612).trans rfl
theorem t_L_law_612 {X : ev_E} {x : Nat} {y2 : Int32} {y1 : Int32} {y0 : Int32} {lo : List Value} {h : ev_M} {n q : Nat} {P : ev_O → ev_M → Nat → Nat → Prop} : ev_ok (ev_TT X) 309 612 lo [.int y2, .int y1, .int y0, .ref x] h n q P ↔ ev_isK (ev_lk X h x) 13 ∧ ev_ok (ev_TT X) 213 0 [.ref x, .int y0, .int y1, .int y2, ev_J] [] h n q (ev_kr (ev_TT X) 309 612 615 lo [] P) := (ev_caG (congrFun (e_L_law_612 (X := X)) _)).trans (and_congr_left' ⟨fun k => k.1, fun k => ⟨k, rfl, Or.inl (Nat.le_of_ble_eq_true rfl), Nat.le_of_ble_eq_true rfl⟩⟩)
theorem x_L_law_612 {X : ev_E} {lo st : List Value} {h : ev_M} {n q : Nat} {P : ev_O → ev_M → Nat → Nat → Prop} {E : Nat} : ev_kr (ev_TT X) 309 612 615 lo st P (.inr E) h n q ↔ P (.inr E) h n q := ev_kr_x rfl
set_option maxRecDepth 100000 in
theorem e_L_law_615 {X : ev_E} : (ev_TT X).1 309 615 = i_is 6 617 := (congrFun tt_L_law 615).trans rfl
theorem t_L_law_615 {X : ev_E} {st : List Value} {v : Int32} {a0 a1 a2 a3 a4 a5 a6 : Value} {h : ev_M} {n q : Nat} {P : ev_O → ev_M → Nat → Nat → Prop} : ev_ok (ev_TT X) 309 615 [a0, a1, a2, a3, a4, a5, a6] ((.int v) :: st) h n q P ↔ ev_ok (ev_TT X) 309 617 [a0, a1, a2, a3, a4, ev_k a5, .int v] st h n q P := ev_go (congrFun (e_L_law_615 (X := X)) _)
set_option maxRecDepth 100000 in
theorem e_L_law_617 {X : ev_E} : (ev_TT X).1 309 617 = i_goto 1713 := (congrFun tt_L_law 617).trans rfl
theorem t_L_law_617 {X : ev_E} {st : List Value} {lo : List Value} {h : ev_M} {n q : Nat} {P : ev_O → ev_M → Nat → Nat → Prop} : ev_ok (ev_TT X) 309 617 lo st h n q P ↔ ev_ok (ev_TT X) 309 1713 lo st h n q P := ev_go (congrFun (e_L_law_617 (X := X)) _)
set_option maxRecDepth 100000 in
theorem e_L_law_620 {X : ev_E} : (ev_TT X).1 309 620 = i_al 1 621 := (congrFun tt_L_law 620).trans rfl
theorem t_L_law_620 {X : ev_E} {st : List Value} {v : Nat} {a0 a2 a3 a4 a5 a6 : Value} {h : ev_M} {n q : Nat} {P : ev_O → ev_M → Nat → Nat → Prop} : ev_ok (ev_TT X) 309 620 [a0, .ref v, a2, a3, a4, a5, a6] st h n q P ↔ ev_ok (ev_TT X) 309 621 [a0, .ref v, a2, a3, a4, a5, a6] ((.ref v) :: st) h n q P := ev_go (congrFun (e_L_law_620 (X := X)) _)
set_option maxRecDepth 100000 in
theorem e_L_law_621 {X : ev_E} : (ev_TT X).1 309 621 = i_al 0 622 := (congrFun tt_L_law 621).trans rfl
theorem t_L_law_621 {X : ev_E} {st : List Value} {v : Nat} {a1 a2 a3 a4 a5 a6 : Value} {h : ev_M} {n q : Nat} {P : ev_O → ev_M → Nat → Nat → Prop} : ev_ok (ev_TT X) 309 621 [.ref v, a1, a2, a3, a4, a5, a6] st h n q P ↔ ev_ok (ev_TT X) 309 622 [.ref v, a1, a2, a3, a4, a5, a6] ((.ref v) :: st) h n q P := ev_go (congrFun (e_L_law_621 (X := X)) _)
set_option maxRecDepth 100000 in
theorem e_L_law_622 {X : ev_E} : (ev_TT X).1 309 622 = i_il 4 624 := (congrFun tt_L_law 622).trans rfl
theorem t_L_law_622 {X : ev_E} {st : List Value} {v : Int32} {a0 a1 a2 a3 a5 a6 : Value} {h : ev_M} {n q : Nat} {P : ev_O → ev_M → Nat → Nat → Prop} : ev_ok (ev_TT X) 309 622 [a0, a1, a2, a3, .int v, a5, a6] st h n q P ↔ ev_ok (ev_TT X) 309 624 [a0, a1, a2, a3, .int v, a5, a6] ((.int v) :: st) h n q P := ev_go (congrFun (e_L_law_622 (X := X)) _)
set_option maxRecDepth 100000 in
theorem e_L_law_624 {X : ev_E} : (ev_TT X).1 309 624 = i_psh (.int (1)) 625 := (congrFun tt_L_law 624).trans rfl
theorem t_L_law_624 {X : ev_E} {st : List Value} {lo : List Value} {h : ev_M} {n q : Nat} {P : ev_O → ev_M → Nat → Nat → Prop} : ev_ok (ev_TT X) 309 624 lo st h n q P ↔ ev_ok (ev_TT X) 309 625 lo ((.int (1)) :: st) h n q P := ev_go (congrFun (e_L_law_624 (X := X)) _)
set_option maxRecDepth 100000 in
theorem e_L_law_625 {X : ev_E} : (ev_TT X).1 309 625 = i_ii (fun a b => a + b) 626 := (congrFun tt_L_law 625).trans rfl
theorem t_L_law_625 {X : ev_E} {x y : Int32} {st : List Value} {lo : List Value} {h : ev_M} {n q : Nat} {P : ev_O → ev_M → Nat → Nat → Prop} : ev_ok (ev_TT X) 309 625 lo (.int y :: .int x :: st) h n q P ↔ ev_ok (ev_TT X) 309 626 lo (.int (x + y) :: st) h n q P := ev_go (congrFun (e_L_law_625 (X := X)) _)
set_option maxRecDepth 100000 in
theorem e_L_law_626 {X : ev_E} : (ev_TT X).1 309 626 = i_ald X ev_tI 627 := (congrFun tt_L_law 626).trans rfl
theorem t_L_law_626 {X : ev_E} {i : Int32} {x : Nat} {st : List Value} {lo : List Value} {h : ev_M} {n q : Nat} {P : ev_O → ev_M → Nat → Nat → Prop} : ev_ok (ev_TT X) 309 626 lo (.int i :: .ref x :: st) h n q P ↔ ev_inA (ev_lk X h x) i ev_tI ∧ ev_ok (ev_TT X) 309 627 lo (ev_aG (ev_lk X h x) i :: st) h n q P := ev_goG (congrFun (e_L_law_626 (X := X)) _)
set_option maxRecDepth 100000 in
theorem e_L_law_627 {X : ev_E} : (ev_TT X).1 309 627 = i_al 0 628 := (congrFun tt_L_law 627).trans rfl
theorem t_L_law_627 {X : ev_E} {st : List Value} {v : Nat} {a1 a2 a3 a4 a5 a6 : Value} {h : ev_M} {n q : Nat} {P : ev_O → ev_M → Nat → Nat → Prop} : ev_ok (ev_TT X) 309 627 [.ref v, a1, a2, a3, a4, a5, a6] st h n q P ↔ ev_ok (ev_TT X) 309 628 [.ref v, a1, a2, a3, a4, a5, a6] ((.ref v) :: st) h n q P := ev_go (congrFun (e_L_law_627 (X := X)) _)
set_option maxRecDepth 100000 in
theorem e_L_law_628 {X : ev_E} : (ev_TT X).1 309 628 = i_il 4 630 := (congrFun tt_L_law 628).trans rfl
theorem t_L_law_628 {X : ev_E} {st : List Value} {v : Int32} {a0 a1 a2 a3 a5 a6 : Value} {h : ev_M} {n q : Nat} {P : ev_O → ev_M → Nat → Nat → Prop} : ev_ok (ev_TT X) 309 628 [a0, a1, a2, a3, .int v, a5, a6] st h n q P ↔ ev_ok (ev_TT X) 309 630 [a0, a1, a2, a3, .int v, a5, a6] ((.int v) :: st) h n q P := ev_go (congrFun (e_L_law_628 (X := X)) _)
set_option maxRecDepth 100000 in
theorem e_L_law_630 {X : ev_E} : (ev_TT X).1 309 630 = i_psh (.int (2)) 631 := (congrFun tt_L_law 630).trans rfl
theorem t_L_law_630 {X : ev_E} {st : List Value} {lo : List Value} {h : ev_M} {n q : Nat} {P : ev_O → ev_M → Nat → Nat → Prop} : ev_ok (ev_TT X) 309 630 lo st h n q P ↔ ev_ok (ev_TT X) 309 631 lo ((.int (2)) :: st) h n q P := ev_go (congrFun (e_L_law_630 (X := X)) _)
set_option maxRecDepth 100000 in
theorem e_L_law_631 {X : ev_E} : (ev_TT X).1 309 631 = i_ii (fun a b => a + b) 632 := (congrFun tt_L_law 631).trans rfl
theorem t_L_law_631 {X : ev_E} {x y : Int32} {st : List Value} {lo : List Value} {h : ev_M} {n q : Nat} {P : ev_O → ev_M → Nat → Nat → Prop} : ev_ok (ev_TT X) 309 631 lo (.int y :: .int x :: st) h n q P ↔ ev_ok (ev_TT X) 309 632 lo (.int (x + y) :: st) h n q P := ev_go (congrFun (e_L_law_631 (X := X)) _)
set_option maxRecDepth 100000 in
theorem e_L_law_632 {X : ev_E} : (ev_TT X).1 309 632 = i_ald X ev_tI 633 := (congrFun tt_L_law 632).trans rfl
theorem t_L_law_632 {X : ev_E} {i : Int32} {x : Nat} {st : List Value} {lo : List Value} {h : ev_M} {n q : Nat} {P : ev_O → ev_M → Nat → Nat → Prop} : ev_ok (ev_TT X) 309 632 lo (.int i :: .ref x :: st) h n q P ↔ ev_inA (ev_lk X h x) i ev_tI ∧ ev_ok (ev_TT X) 309 633 lo (ev_aG (ev_lk X h x) i :: st) h n q P := ev_goG (congrFun (e_L_law_632 (X := X)) _)
set_option maxRecDepth 100000 in
theorem e_L_law_633 {X : ev_E} : (ev_TT X).1 309 633 = i_al 3 634 := (congrFun tt_L_law 633).trans rfl
theorem t_L_law_633 {X : ev_E} {st : List Value} {v : Nat} {a0 a1 a2 a4 a5 a6 : Value} {h : ev_M} {n q : Nat} {P : ev_O → ev_M → Nat → Nat → Prop} : ev_ok (ev_TT X) 309 633 [a0, a1, a2, .ref v, a4, a5, a6] st h n q P ↔ ev_ok (ev_TT X) 309 634 [a0, a1, a2, .ref v, a4, a5, a6] ((.ref v) :: st) h n q P := ev_go (congrFun (e_L_law_633 (X := X)) _)
set_option maxRecDepth 100000 in
theorem e_L_law_634 {X : ev_E} : (ev_TT X).1 309 634 = i_cS 220 4 5 637 := (congrFun tt_L_law 634).trans rfl
theorem t_L_law_634 {X : ev_E} {y3 : Nat} {y2 : Int32} {y1 : Int32} {y0 : Nat} {lo : List Value} {h : ev_M} {n q : Nat} {P : ev_O → ev_M → Nat → Nat → Prop} : ev_ok (ev_TT X) 309 634 lo [.ref y3, .int y2, .int y1, .ref y0] h n q P ↔ ev_ok (ev_TT X) 220 0 [.ref y0, .int y1, .int y2, .ref y3, ev_J] [] h n q (ev_kr (ev_TT X) 309 634 637 lo [] P) := (ev_caG (congrFun (e_L_law_634 (X := X)) _)).trans ⟨fun k => k.2, fun k => ⟨⟨rfl, Nat.le_of_ble_eq_true rfl, Nat.le_of_ble_eq_true rfl⟩, k⟩⟩
set_option maxRecDepth 100000 in
theorem e_L_law_637 {X : ev_E} : (ev_TT X).1 309 637 = i_is 5 639 := (congrFun tt_L_law 637).trans rfl
theorem t_L_law_637 {X : ev_E} {st : List Value} {v : Int32} {a0 a1 a2 a3 a4 a5 a6 : Value} {h : ev_M} {n q : Nat} {P : ev_O → ev_M → Nat → Nat → Prop} : ev_ok (ev_TT X) 309 637 [a0, a1, a2, a3, a4, a5, a6] ((.int v) :: st) h n q P ↔ ev_ok (ev_TT X) 309 639 [a0, a1, a2, a3, ev_k a4, .int v, a6] st h n q P := ev_go (congrFun (e_L_law_637 (X := X)) _)
set_option maxRecDepth 100000 in
theorem e_L_law_639 {X : ev_E} : (ev_TT X).1 309 639 = i_al 2 640 := (congrFun tt_L_law 639).trans rfl
theorem t_L_law_639 {X : ev_E} {st : List Value} {v : Nat} {a0 a1 a3 a4 a5 a6 : Value} {h : ev_M} {n q : Nat} {P : ev_O → ev_M → Nat → Nat → Prop} : ev_ok (ev_TT X) 309 639 [a0, a1, .ref v, a3, a4, a5, a6] st h n q P ↔ ev_ok (ev_TT X) 309 640 [a0, a1, .ref v, a3, a4, a5, a6] ((.ref v) :: st) h n q P := ev_go (congrFun (e_L_law_639 (X := X)) _)
set_option maxRecDepth 100000 in
theorem e_L_law_640 {X : ev_E} : (ev_TT X).1 309 640 = i_al 0 641 := (congrFun tt_L_law 640).trans rfl
theorem t_L_law_640 {X : ev_E} {st : List Value} {v : Nat} {a1 a2 a3 a4 a5 a6 : Value} {h : ev_M} {n q : Nat} {P : ev_O → ev_M → Nat → Nat → Prop} : ev_ok (ev_TT X) 309 640 [.ref v, a1, a2, a3, a4, a5, a6] st h n q P ↔ ev_ok (ev_TT X) 309 641 [.ref v, a1, a2, a3, a4, a5, a6] ((.ref v) :: st) h n q P := ev_go (congrFun (e_L_law_640 (X := X)) _)
set_option maxRecDepth 100000 in
theorem e_L_law_641 {X : ev_E} : (ev_TT X).1 309 641 = i_il 4 643 := (congrFun tt_L_law 641).trans rfl
theorem t_L_law_641 {X : ev_E} {st : List Value} {v : Int32} {a0 a1 a2 a3 a5 a6 : Value} {h : ev_M} {n q : Nat} {P : ev_O → ev_M → Nat → Nat → Prop} : ev_ok (ev_TT X) 309 641 [a0, a1, a2, a3, .int v, a5, a6] st h n q P ↔ ev_ok (ev_TT X) 309 643 [a0, a1, a2, a3, .int v, a5, a6] ((.int v) :: st) h n q P := ev_go (congrFun (e_L_law_641 (X := X)) _)
set_option maxRecDepth 100000 in
theorem e_L_law_643 {X : ev_E} : (ev_TT X).1 309 643 = i_psh (.int (1)) 644 := (congrFun tt_L_law 643).trans rfl
theorem t_L_law_643 {X : ev_E} {st : List Value} {lo : List Value} {h : ev_M} {n q : Nat} {P : ev_O → ev_M → Nat → Nat → Prop} : ev_ok (ev_TT X) 309 643 lo st h n q P ↔ ev_ok (ev_TT X) 309 644 lo ((.int (1)) :: st) h n q P := ev_go (congrFun (e_L_law_643 (X := X)) _)
set_option maxRecDepth 100000 in
theorem e_L_law_644 {X : ev_E} : (ev_TT X).1 309 644 = i_ii (fun a b => a + b) 645 := (congrFun tt_L_law 644).trans rfl
theorem t_L_law_644 {X : ev_E} {x y : Int32} {st : List Value} {lo : List Value} {h : ev_M} {n q : Nat} {P : ev_O → ev_M → Nat → Nat → Prop} : ev_ok (ev_TT X) 309 644 lo (.int y :: .int x :: st) h n q P ↔ ev_ok (ev_TT X) 309 645 lo (.int (x + y) :: st) h n q P := ev_go (congrFun (e_L_law_644 (X := X)) _)
set_option maxRecDepth 100000 in
theorem e_L_law_645 {X : ev_E} : (ev_TT X).1 309 645 = i_ald X ev_tI 646 := (congrFun tt_L_law 645).trans rfl
theorem t_L_law_645 {X : ev_E} {i : Int32} {x : Nat} {st : List Value} {lo : List Value} {h : ev_M} {n q : Nat} {P : ev_O → ev_M → Nat → Nat → Prop} : ev_ok (ev_TT X) 309 645 lo (.int i :: .ref x :: st) h n q P ↔ ev_inA (ev_lk X h x) i ev_tI ∧ ev_ok (ev_TT X) 309 646 lo (ev_aG (ev_lk X h x) i :: st) h n q P := ev_goG (congrFun (e_L_law_645 (X := X)) _)
set_option maxRecDepth 100000 in
theorem e_L_law_646 {X : ev_E} : (ev_TT X).1 309 646 = i_al 0 647 := (congrFun tt_L_law 646).trans rfl
theorem t_L_law_646 {X : ev_E} {st : List Value} {v : Nat} {a1 a2 a3 a4 a5 a6 : Value} {h : ev_M} {n q : Nat} {P : ev_O → ev_M → Nat → Nat → Prop} : ev_ok (ev_TT X) 309 646 [.ref v, a1, a2, a3, a4, a5, a6] st h n q P ↔ ev_ok (ev_TT X) 309 647 [.ref v, a1, a2, a3, a4, a5, a6] ((.ref v) :: st) h n q P := ev_go (congrFun (e_L_law_646 (X := X)) _)
set_option maxRecDepth 100000 in
theorem e_L_law_647 {X : ev_E} : (ev_TT X).1 309 647 = i_il 4 649 := (congrFun tt_L_law 647).trans rfl
theorem t_L_law_647 {X : ev_E} {st : List Value} {v : Int32} {a0 a1 a2 a3 a5 a6 : Value} {h : ev_M} {n q : Nat} {P : ev_O → ev_M → Nat → Nat → Prop} : ev_ok (ev_TT X) 309 647 [a0, a1, a2, a3, .int v, a5, a6] st h n q P ↔ ev_ok (ev_TT X) 309 649 [a0, a1, a2, a3, .int v, a5, a6] ((.int v) :: st) h n q P := ev_go (congrFun (e_L_law_647 (X := X)) _)
set_option maxRecDepth 100000 in
theorem e_L_law_649 {X : ev_E} : (ev_TT X).1 309 649 = i_psh (.int (2)) 650 := (congrFun tt_L_law 649).trans rfl
theorem t_L_law_649 {X : ev_E} {st : List Value} {lo : List Value} {h : ev_M} {n q : Nat} {P : ev_O → ev_M → Nat → Nat → Prop} : ev_ok (ev_TT X) 309 649 lo st h n q P ↔ ev_ok (ev_TT X) 309 650 lo ((.int (2)) :: st) h n q P := ev_go (congrFun (e_L_law_649 (X := X)) _)
set_option maxRecDepth 100000 in
theorem e_L_law_650 {X : ev_E} : (ev_TT X).1 309 650 = i_ii (fun a b => a + b) 651 := (congrFun tt_L_law 650).trans rfl
theorem t_L_law_650 {X : ev_E} {x y : Int32} {st : List Value} {lo : List Value} {h : ev_M} {n q : Nat} {P : ev_O → ev_M → Nat → Nat → Prop} : ev_ok (ev_TT X) 309 650 lo (.int y :: .int x :: st) h n q P ↔ ev_ok (ev_TT X) 309 651 lo (.int (x + y) :: st) h n q P := ev_go (congrFun (e_L_law_650 (X := X)) _)
set_option maxRecDepth 100000 in
theorem e_L_law_651 {X : ev_E} : (ev_TT X).1 309 651 = i_ald X ev_tI 652 := (congrFun tt_L_law 651).trans rfl
theorem t_L_law_651 {X : ev_E} {i : Int32} {x : Nat} {st : List Value} {lo : List Value} {h : ev_M} {n q : Nat} {P : ev_O → ev_M → Nat → Nat → Prop} : ev_ok (ev_TT X) 309 651 lo (.int i :: .ref x :: st) h n q P ↔ ev_inA (ev_lk X h x) i ev_tI ∧ ev_ok (ev_TT X) 309 652 lo (ev_aG (ev_lk X h x) i :: st) h n q P := ev_goG (congrFun (e_L_law_651 (X := X)) _)
set_option maxRecDepth 100000 in
theorem e_L_law_652 {X : ev_E} : (ev_TT X).1 309 652 = i_cV X 279 2 13 7 655 := (congrFun tt_L_law 652).trans rfl
theorem t_L_law_652 {X : ev_E} {x : Nat} {y1 : Int32} {y0 : Int32} {lo : List Value} {h : ev_M} {n q : Nat} {P : ev_O → ev_M → Nat → Nat → Prop} : ev_ok (ev_TT X) 309 652 lo [.int y1, .int y0, .ref x] h n q P ↔ ev_isK (ev_lk X h x) 13 ∧ ev_ok (ev_TT X) 279 0 [.ref x, .int y0, .int y1, ev_J, ev_J, ev_J, ev_J] [] h n q (ev_kr (ev_TT X) 309 652 655 lo [] P) := (ev_caG (congrFun (e_L_law_652 (X := X)) _)).trans (and_congr_left' ⟨fun k => k.1, fun k => ⟨k, rfl, Or.inl (Nat.le_of_ble_eq_true rfl), Nat.le_of_ble_eq_true rfl⟩⟩)
theorem x_L_law_652 {X : ev_E} {lo st : List Value} {h : ev_M} {n q : Nat} {P : ev_O → ev_M → Nat → Nat → Prop} {E : Nat} : ev_kr (ev_TT X) 309 652 655 lo st P (.inr E) h n q ↔ P (.inr E) h n q := ev_kr_x rfl
set_option maxRecDepth 100000 in
theorem e_L_law_655 {X : ev_E} : (ev_TT X).1 309 655 = i_is 6 657 := (congrFun tt_L_law 655).trans rfl
theorem t_L_law_655 {X : ev_E} {st : List Value} {v : Int32} {a0 a1 a2 a3 a4 a5 a6 : Value} {h : ev_M} {n q : Nat} {P : ev_O → ev_M → Nat → Nat → Prop} : ev_ok (ev_TT X) 309 655 [a0, a1, a2, a3, a4, a5, a6] ((.int v) :: st) h n q P ↔ ev_ok (ev_TT X) 309 657 [a0, a1, a2, a3, a4, ev_k a5, .int v] st h n q P := ev_go (congrFun (e_L_law_655 (X := X)) _)
set_option maxRecDepth 100000 in
theorem e_L_law_657 {X : ev_E} : (ev_TT X).1 309 657 = i_goto 1713 := (congrFun tt_L_law 657).trans rfl
theorem t_L_law_657 {X : ev_E} {st : List Value} {lo : List Value} {h : ev_M} {n q : Nat} {P : ev_O → ev_M → Nat → Nat → Prop} : ev_ok (ev_TT X) 309 657 lo st h n q P ↔ ev_ok (ev_TT X) 309 1713 lo st h n q P := ev_go (congrFun (e_L_law_657 (X := X)) _)
set_option maxRecDepth 100000 in
theorem e_L_law_660 {X : ev_E} : (ev_TT X).1 309 660 = i_al 1 661 := (congrFun tt_L_law 660).trans rfl
theorem t_L_law_660 {X : ev_E} {st : List Value} {v : Nat} {a0 a2 a3 a4 a5 a6 : Value} {h : ev_M} {n q : Nat} {P : ev_O → ev_M → Nat → Nat → Prop} : ev_ok (ev_TT X) 309 660 [a0, .ref v, a2, a3, a4, a5, a6] st h n q P ↔ ev_ok (ev_TT X) 309 661 [a0, .ref v, a2, a3, a4, a5, a6] ((.ref v) :: st) h n q P := ev_go (congrFun (e_L_law_660 (X := X)) _)
set_option maxRecDepth 100000 in
theorem e_L_law_661 {X : ev_E} : (ev_TT X).1 309 661 = i_al 0 662 := (congrFun tt_L_law 661).trans rfl
theorem t_L_law_661 {X : ev_E} {st : List Value} {v : Nat} {a1 a2 a3 a4 a5 a6 : Value} {h : ev_M} {n q : Nat} {P : ev_O → ev_M → Nat → Nat → Prop} : ev_ok (ev_TT X) 309 661 [.ref v, a1, a2, a3, a4, a5, a6] st h n q P ↔ ev_ok (ev_TT X) 309 662 [.ref v, a1, a2, a3, a4, a5, a6] ((.ref v) :: st) h n q P := ev_go (congrFun (e_L_law_661 (X := X)) _)
set_option maxRecDepth 100000 in
theorem e_L_law_662 {X : ev_E} : (ev_TT X).1 309 662 = i_il 4 664 := (congrFun tt_L_law 662).trans rfl
theorem t_L_law_662 {X : ev_E} {st : List Value} {v : Int32} {a0 a1 a2 a3 a5 a6 : Value} {h : ev_M} {n q : Nat} {P : ev_O → ev_M → Nat → Nat → Prop} : ev_ok (ev_TT X) 309 662 [a0, a1, a2, a3, .int v, a5, a6] st h n q P ↔ ev_ok (ev_TT X) 309 664 [a0, a1, a2, a3, .int v, a5, a6] ((.int v) :: st) h n q P := ev_go (congrFun (e_L_law_662 (X := X)) _)
set_option maxRecDepth 100000 in
theorem e_L_law_664 {X : ev_E} : (ev_TT X).1 309 664 = i_psh (.int (1)) 665 := (congrFun tt_L_law 664).trans rfl
theorem t_L_law_664 {X : ev_E} {st : List Value} {lo : List Value} {h : ev_M} {n q : Nat} {P : ev_O → ev_M → Nat → Nat → Prop} : ev_ok (ev_TT X) 309 664 lo st h n q P ↔ ev_ok (ev_TT X) 309 665 lo ((.int (1)) :: st) h n q P := ev_go (congrFun (e_L_law_664 (X := X)) _)
set_option maxRecDepth 100000 in
theorem e_L_law_665 {X : ev_E} : (ev_TT X).1 309 665 = i_ii (fun a b => a + b) 666 := (congrFun tt_L_law 665).trans rfl
theorem t_L_law_665 {X : ev_E} {x y : Int32} {st : List Value} {lo : List Value} {h : ev_M} {n q : Nat} {P : ev_O → ev_M → Nat → Nat → Prop} : ev_ok (ev_TT X) 309 665 lo (.int y :: .int x :: st) h n q P ↔ ev_ok (ev_TT X) 309 666 lo (.int (x + y) :: st) h n q P := ev_go (congrFun (e_L_law_665 (X := X)) _)
set_option maxRecDepth 100000 in
theorem e_L_law_666 {X : ev_E} : (ev_TT X).1 309 666 = i_ald X ev_tI 667 := (congrFun tt_L_law 666).trans rfl
theorem t_L_law_666 {X : ev_E} {i : Int32} {x : Nat} {st : List Value} {lo : List Value} {h : ev_M} {n q : Nat} {P : ev_O → ev_M → Nat → Nat → Prop} : ev_ok (ev_TT X) 309 666 lo (.int i :: .ref x :: st) h n q P ↔ ev_inA (ev_lk X h x) i ev_tI ∧ ev_ok (ev_TT X) 309 667 lo (ev_aG (ev_lk X h x) i :: st) h n q P := ev_goG (congrFun (e_L_law_666 (X := X)) _)
set_option maxRecDepth 100000 in
theorem e_L_law_667 {X : ev_E} : (ev_TT X).1 309 667 = i_al 0 668 := (congrFun tt_L_law 667).trans rfl
theorem t_L_law_667 {X : ev_E} {st : List Value} {v : Nat} {a1 a2 a3 a4 a5 a6 : Value} {h : ev_M} {n q : Nat} {P : ev_O → ev_M → Nat → Nat → Prop} : ev_ok (ev_TT X) 309 667 [.ref v, a1, a2, a3, a4, a5, a6] st h n q P ↔ ev_ok (ev_TT X) 309 668 [.ref v, a1, a2, a3, a4, a5, a6] ((.ref v) :: st) h n q P := ev_go (congrFun (e_L_law_667 (X := X)) _)
set_option maxRecDepth 100000 in
theorem e_L_law_668 {X : ev_E} : (ev_TT X).1 309 668 = i_il 4 670 := (congrFun tt_L_law 668).trans rfl
theorem t_L_law_668 {X : ev_E} {st : List Value} {v : Int32} {a0 a1 a2 a3 a5 a6 : Value} {h : ev_M} {n q : Nat} {P : ev_O → ev_M → Nat → Nat → Prop} : ev_ok (ev_TT X) 309 668 [a0, a1, a2, a3, .int v, a5, a6] st h n q P ↔ ev_ok (ev_TT X) 309 670 [a0, a1, a2, a3, .int v, a5, a6] ((.int v) :: st) h n q P := ev_go (congrFun (e_L_law_668 (X := X)) _)
set_option maxRecDepth 100000 in
theorem e_L_law_670 {X : ev_E} : (ev_TT X).1 309 670 = i_psh (.int (2)) 671 := (congrFun tt_L_law 670).trans rfl
theorem t_L_law_670 {X : ev_E} {st : List Value} {lo : List Value} {h : ev_M} {n q : Nat} {P : ev_O → ev_M → Nat → Nat → Prop} : ev_ok (ev_TT X) 309 670 lo st h n q P ↔ ev_ok (ev_TT X) 309 671 lo ((.int (2)) :: st) h n q P := ev_go (congrFun (e_L_law_670 (X := X)) _)
set_option maxRecDepth 100000 in
theorem e_L_law_671 {X : ev_E} : (ev_TT X).1 309 671 = i_ii (fun a b => a + b) 672 := (congrFun tt_L_law 671).trans rfl
theorem t_L_law_671 {X : ev_E} {x y : Int32} {st : List Value} {lo : List Value} {h : ev_M} {n q : Nat} {P : ev_O → ev_M → Nat → Nat → Prop} : ev_ok (ev_TT X) 309 671 lo (.int y :: .int x :: st) h n q P ↔ ev_ok (ev_TT X) 309 672 lo (.int (x + y) :: st) h n q P := ev_go (congrFun (e_L_law_671 (X := X)) _)
set_option maxRecDepth 100000 in
theorem e_L_law_672 {X : ev_E} : (ev_TT X).1 309 672 = i_ald X ev_tI 673 := (congrFun tt_L_law 672).trans rfl
theorem t_L_law_672 {X : ev_E} {i : Int32} {x : Nat} {st : List Value} {lo : List Value} {h : ev_M} {n q : Nat} {P : ev_O → ev_M → Nat → Nat → Prop} : ev_ok (ev_TT X) 309 672 lo (.int i :: .ref x :: st) h n q P ↔ ev_inA (ev_lk X h x) i ev_tI ∧ ev_ok (ev_TT X) 309 673 lo (ev_aG (ev_lk X h x) i :: st) h n q P := ev_goG (congrFun (e_L_law_672 (X := X)) _)
set_option maxRecDepth 100000 in
theorem e_L_law_673 {X : ev_E} : (ev_TT X).1 309 673 = i_al 3 674 := (congrFun tt_L_law 673).trans rfl
theorem t_L_law_673 {X : ev_E} {st : List Value} {v : Nat} {a0 a1 a2 a4 a5 a6 : Value} {h : ev_M} {n q : Nat} {P : ev_O → ev_M → Nat → Nat → Prop} : ev_ok (ev_TT X) 309 673 [a0, a1, a2, .ref v, a4, a5, a6] st h n q P ↔ ev_ok (ev_TT X) 309 674 [a0, a1, a2, .ref v, a4, a5, a6] ((.ref v) :: st) h n q P := ev_go (congrFun (e_L_law_673 (X := X)) _)
set_option maxRecDepth 100000 in
theorem e_L_law_674 {X : ev_E} : (ev_TT X).1 309 674 = i_cS 132 4 5 677 := (congrFun tt_L_law 674).trans rfl
theorem t_L_law_674 {X : ev_E} {y3 : Nat} {y2 : Int32} {y1 : Int32} {y0 : Nat} {lo : List Value} {h : ev_M} {n q : Nat} {P : ev_O → ev_M → Nat → Nat → Prop} : ev_ok (ev_TT X) 309 674 lo [.ref y3, .int y2, .int y1, .ref y0] h n q P ↔ ev_ok (ev_TT X) 132 0 [.ref y0, .int y1, .int y2, .ref y3, ev_J] [] h n q (ev_kr (ev_TT X) 309 674 677 lo [] P) := (ev_caG (congrFun (e_L_law_674 (X := X)) _)).trans ⟨fun k => k.2, fun k => ⟨⟨rfl, Nat.le_of_ble_eq_true rfl, Nat.le_of_ble_eq_true rfl⟩, k⟩⟩
set_option maxRecDepth 100000 in
theorem e_L_law_677 {X : ev_E} : (ev_TT X).1 309 677 = i_is 5 679 := (congrFun tt_L_law 677).trans rfl
theorem t_L_law_677 {X : ev_E} {st : List Value} {v : Int32} {a0 a1 a2 a3 a4 a5 a6 : Value} {h : ev_M} {n q : Nat} {P : ev_O → ev_M → Nat → Nat → Prop} : ev_ok (ev_TT X) 309 677 [a0, a1, a2, a3, a4, a5, a6] ((.int v) :: st) h n q P ↔ ev_ok (ev_TT X) 309 679 [a0, a1, a2, a3, ev_k a4, .int v, a6] st h n q P := ev_go (congrFun (e_L_law_677 (X := X)) _)
set_option maxRecDepth 100000 in
theorem e_L_law_679 {X : ev_E} : (ev_TT X).1 309 679 = i_al 2 680 := (congrFun tt_L_law 679).trans rfl
theorem t_L_law_679 {X : ev_E} {st : List Value} {v : Nat} {a0 a1 a3 a4 a5 a6 : Value} {h : ev_M} {n q : Nat} {P : ev_O → ev_M → Nat → Nat → Prop} : ev_ok (ev_TT X) 309 679 [a0, a1, .ref v, a3, a4, a5, a6] st h n q P ↔ ev_ok (ev_TT X) 309 680 [a0, a1, .ref v, a3, a4, a5, a6] ((.ref v) :: st) h n q P := ev_go (congrFun (e_L_law_679 (X := X)) _)
set_option maxRecDepth 100000 in
theorem e_L_law_680 {X : ev_E} : (ev_TT X).1 309 680 = i_al 0 681 := (congrFun tt_L_law 680).trans rfl
theorem t_L_law_680 {X : ev_E} {st : List Value} {v : Nat} {a1 a2 a3 a4 a5 a6 : Value} {h : ev_M} {n q : Nat} {P : ev_O → ev_M → Nat → Nat → Prop} : ev_ok (ev_TT X) 309 680 [.ref v, a1, a2, a3, a4, a5, a6] st h n q P ↔ ev_ok (ev_TT X) 309 681 [.ref v, a1, a2, a3, a4, a5, a6] ((.ref v) :: st) h n q P := ev_go (congrFun (e_L_law_680 (X := X)) _)
set_option maxRecDepth 100000 in
theorem e_L_law_681 {X : ev_E} : (ev_TT X).1 309 681 = i_il 4 683 := (congrFun tt_L_law 681).trans rfl
theorem t_L_law_681 {X : ev_E} {st : List Value} {v : Int32} {a0 a1 a2 a3 a5 a6 : Value} {h : ev_M} {n q : Nat} {P : ev_O → ev_M → Nat → Nat → Prop} : ev_ok (ev_TT X) 309 681 [a0, a1, a2, a3, .int v, a5, a6] st h n q P ↔ ev_ok (ev_TT X) 309 683 [a0, a1, a2, a3, .int v, a5, a6] ((.int v) :: st) h n q P := ev_go (congrFun (e_L_law_681 (X := X)) _)
set_option maxRecDepth 100000 in
theorem e_L_law_683 {X : ev_E} : (ev_TT X).1 309 683 = i_psh (.int (1)) 684 := (congrFun tt_L_law 683).trans rfl
theorem t_L_law_683 {X : ev_E} {st : List Value} {lo : List Value} {h : ev_M} {n q : Nat} {P : ev_O → ev_M → Nat → Nat → Prop} : ev_ok (ev_TT X) 309 683 lo st h n q P ↔ ev_ok (ev_TT X) 309 684 lo ((.int (1)) :: st) h n q P := ev_go (congrFun (e_L_law_683 (X := X)) _)
set_option maxRecDepth 100000 in
theorem e_L_law_684 {X : ev_E} : (ev_TT X).1 309 684 = i_ii (fun a b => a + b) 685 := (congrFun tt_L_law 684).trans rfl
theorem t_L_law_684 {X : ev_E} {x y : Int32} {st : List Value} {lo : List Value} {h : ev_M} {n q : Nat} {P : ev_O → ev_M → Nat → Nat → Prop} : ev_ok (ev_TT X) 309 684 lo (.int y :: .int x :: st) h n q P ↔ ev_ok (ev_TT X) 309 685 lo (.int (x + y) :: st) h n q P := ev_go (congrFun (e_L_law_684 (X := X)) _)
set_option maxRecDepth 100000 in
theorem e_L_law_685 {X : ev_E} : (ev_TT X).1 309 685 = i_ald X ev_tI 686 := (congrFun tt_L_law 685).trans rfl
theorem t_L_law_685 {X : ev_E} {i : Int32} {x : Nat} {st : List Value} {lo : List Value} {h : ev_M} {n q : Nat} {P : ev_O → ev_M → Nat → Nat → Prop} : ev_ok (ev_TT X) 309 685 lo (.int i :: .ref x :: st) h n q P ↔ ev_inA (ev_lk X h x) i ev_tI ∧ ev_ok (ev_TT X) 309 686 lo (ev_aG (ev_lk X h x) i :: st) h n q P := ev_goG (congrFun (e_L_law_685 (X := X)) _)
set_option maxRecDepth 100000 in
theorem e_L_law_686 {X : ev_E} : (ev_TT X).1 309 686 = i_al 0 687 := (congrFun tt_L_law 686).trans rfl
theorem t_L_law_686 {X : ev_E} {st : List Value} {v : Nat} {a1 a2 a3 a4 a5 a6 : Value} {h : ev_M} {n q : Nat} {P : ev_O → ev_M → Nat → Nat → Prop} : ev_ok (ev_TT X) 309 686 [.ref v, a1, a2, a3, a4, a5, a6] st h n q P ↔ ev_ok (ev_TT X) 309 687 [.ref v, a1, a2, a3, a4, a5, a6] ((.ref v) :: st) h n q P := ev_go (congrFun (e_L_law_686 (X := X)) _)
set_option maxRecDepth 100000 in
theorem e_L_law_687 {X : ev_E} : (ev_TT X).1 309 687 = i_il 4 689 := (congrFun tt_L_law 687).trans rfl
theorem t_L_law_687 {X : ev_E} {st : List Value} {v : Int32} {a0 a1 a2 a3 a5 a6 : Value} {h : ev_M} {n q : Nat} {P : ev_O → ev_M → Nat → Nat → Prop} : ev_ok (ev_TT X) 309 687 [a0, a1, a2, a3, .int v, a5, a6] st h n q P ↔ ev_ok (ev_TT X) 309 689 [a0, a1, a2, a3, .int v, a5, a6] ((.int v) :: st) h n q P := ev_go (congrFun (e_L_law_687 (X := X)) _)
set_option maxRecDepth 100000 in
theorem e_L_law_689 {X : ev_E} : (ev_TT X).1 309 689 = i_psh (.int (2)) 690 := (congrFun tt_L_law 689).trans rfl
theorem t_L_law_689 {X : ev_E} {st : List Value} {lo : List Value} {h : ev_M} {n q : Nat} {P : ev_O → ev_M → Nat → Nat → Prop} : ev_ok (ev_TT X) 309 689 lo st h n q P ↔ ev_ok (ev_TT X) 309 690 lo ((.int (2)) :: st) h n q P := ev_go (congrFun (e_L_law_689 (X := X)) _)
set_option maxRecDepth 100000 in
theorem e_L_law_690 {X : ev_E} : (ev_TT X).1 309 690 = i_ii (fun a b => a + b) 691 := (congrFun tt_L_law 690).trans rfl
theorem t_L_law_690 {X : ev_E} {x y : Int32} {st : List Value} {lo : List Value} {h : ev_M} {n q : Nat} {P : ev_O → ev_M → Nat → Nat → Prop} : ev_ok (ev_TT X) 309 690 lo (.int y :: .int x :: st) h n q P ↔ ev_ok (ev_TT X) 309 691 lo (.int (x + y) :: st) h n q P := ev_go (congrFun (e_L_law_690 (X := X)) _)
set_option maxRecDepth 100000 in
theorem e_L_law_691 {X : ev_E} : (ev_TT X).1 309 691 = i_ald X ev_tI 692 := (congrFun tt_L_law 691).trans rfl
theorem t_L_law_691 {X : ev_E} {i : Int32} {x : Nat} {st : List Value} {lo : List Value} {h : ev_M} {n q : Nat} {P : ev_O → ev_M → Nat → Nat → Prop} : ev_ok (ev_TT X) 309 691 lo (.int i :: .ref x :: st) h n q P ↔ ev_inA (ev_lk X h x) i ev_tI ∧ ev_ok (ev_TT X) 309 692 lo (ev_aG (ev_lk X h x) i :: st) h n q P := ev_goG (congrFun (e_L_law_691 (X := X)) _)
set_option maxRecDepth 100000 in
theorem e_L_law_692 {X : ev_E} : (ev_TT X).1 309 692 = i_cV X 233 2 13 3 695 := (congrFun tt_L_law 692).trans rfl
theorem t_L_law_692 {X : ev_E} {x : Nat} {y1 : Int32} {y0 : Int32} {lo : List Value} {h : ev_M} {n q : Nat} {P : ev_O → ev_M → Nat → Nat → Prop} : ev_ok (ev_TT X) 309 692 lo [.int y1, .int y0, .ref x] h n q P ↔ ev_isK (ev_lk X h x) 13 ∧ ev_ok (ev_TT X) 233 0 [.ref x, .int y0, .int y1] [] h n q (ev_kr (ev_TT X) 309 692 695 lo [] P) := (ev_caG (congrFun (e_L_law_692 (X := X)) _)).trans (and_congr_left' ⟨fun k => k.1, fun k => ⟨k, rfl, Or.inl (Nat.le_of_ble_eq_true rfl), Nat.le_of_ble_eq_true rfl⟩⟩)
theorem x_L_law_692 {X : ev_E} {lo st : List Value} {h : ev_M} {n q : Nat} {P : ev_O → ev_M → Nat → Nat → Prop} {E : Nat} : ev_kr (ev_TT X) 309 692 695 lo st P (.inr E) h n q ↔ P (.inr E) h n q := ev_kr_x rfl
set_option maxRecDepth 100000 in
theorem e_L_law_695 {X : ev_E} : (ev_TT X).1 309 695 = i_is 6 697 := (congrFun tt_L_law 695).trans rfl
theorem t_L_law_695 {X : ev_E} {st : List Value} {v : Int32} {a0 a1 a2 a3 a4 a5 a6 : Value} {h : ev_M} {n q : Nat} {P : ev_O → ev_M → Nat → Nat → Prop} : ev_ok (ev_TT X) 309 695 [a0, a1, a2, a3, a4, a5, a6] ((.int v) :: st) h n q P ↔ ev_ok (ev_TT X) 309 697 [a0, a1, a2, a3, a4, ev_k a5, .int v] st h n q P := ev_go (congrFun (e_L_law_695 (X := X)) _)
set_option maxRecDepth 100000 in
theorem e_L_law_697 {X : ev_E} : (ev_TT X).1 309 697 = i_goto 1713 := (congrFun tt_L_law 697).trans rfl
theorem t_L_law_697 {X : ev_E} {st : List Value} {lo : List Value} {h : ev_M} {n q : Nat} {P : ev_O → ev_M → Nat → Nat → Prop} : ev_ok (ev_TT X) 309 697 lo st h n q P ↔ ev_ok (ev_TT X) 309 1713 lo st h n q P := ev_go (congrFun (e_L_law_697 (X := X)) _)
set_option maxRecDepth 100000 in
theorem e_L_law_700 {X : ev_E} : (ev_TT X).1 309 700 = i_al 1 701 := (congrFun tt_L_law 700).trans rfl
theorem t_L_law_700 {X : ev_E} {st : List Value} {v : Nat} {a0 a2 a3 a4 a5 a6 : Value} {h : ev_M} {n q : Nat} {P : ev_O → ev_M → Nat → Nat → Prop} : ev_ok (ev_TT X) 309 700 [a0, .ref v, a2, a3, a4, a5, a6] st h n q P ↔ ev_ok (ev_TT X) 309 701 [a0, .ref v, a2, a3, a4, a5, a6] ((.ref v) :: st) h n q P := ev_go (congrFun (e_L_law_700 (X := X)) _)
set_option maxRecDepth 100000 in
theorem e_L_law_701 {X : ev_E} : (ev_TT X).1 309 701 = i_al 0 702 := (congrFun tt_L_law 701).trans rfl
theorem t_L_law_701 {X : ev_E} {st : List Value} {v : Nat} {a1 a2 a3 a4 a5 a6 : Value} {h : ev_M} {n q : Nat} {P : ev_O → ev_M → Nat → Nat → Prop} : ev_ok (ev_TT X) 309 701 [.ref v, a1, a2, a3, a4, a5, a6] st h n q P ↔ ev_ok (ev_TT X) 309 702 [.ref v, a1, a2, a3, a4, a5, a6] ((.ref v) :: st) h n q P := ev_go (congrFun (e_L_law_701 (X := X)) _)
set_option maxRecDepth 100000 in
theorem e_L_law_702 {X : ev_E} : (ev_TT X).1 309 702 = i_il 4 704 := (congrFun tt_L_law 702).trans rfl
theorem t_L_law_702 {X : ev_E} {st : List Value} {v : Int32} {a0 a1 a2 a3 a5 a6 : Value} {h : ev_M} {n q : Nat} {P : ev_O → ev_M → Nat → Nat → Prop} : ev_ok (ev_TT X) 309 702 [a0, a1, a2, a3, .int v, a5, a6] st h n q P ↔ ev_ok (ev_TT X) 309 704 [a0, a1, a2, a3, .int v, a5, a6] ((.int v) :: st) h n q P := ev_go (congrFun (e_L_law_702 (X := X)) _)
set_option maxRecDepth 100000 in
theorem e_L_law_704 {X : ev_E} : (ev_TT X).1 309 704 = i_psh (.int (1)) 705 := (congrFun tt_L_law 704).trans rfl
theorem t_L_law_704 {X : ev_E} {st : List Value} {lo : List Value} {h : ev_M} {n q : Nat} {P : ev_O → ev_M → Nat → Nat → Prop} : ev_ok (ev_TT X) 309 704 lo st h n q P ↔ ev_ok (ev_TT X) 309 705 lo ((.int (1)) :: st) h n q P := ev_go (congrFun (e_L_law_704 (X := X)) _)
set_option maxRecDepth 100000 in
theorem e_L_law_705 {X : ev_E} : (ev_TT X).1 309 705 = i_ii (fun a b => a + b) 706 := (congrFun tt_L_law 705).trans rfl
theorem t_L_law_705 {X : ev_E} {x y : Int32} {st : List Value} {lo : List Value} {h : ev_M} {n q : Nat} {P : ev_O → ev_M → Nat → Nat → Prop} : ev_ok (ev_TT X) 309 705 lo (.int y :: .int x :: st) h n q P ↔ ev_ok (ev_TT X) 309 706 lo (.int (x + y) :: st) h n q P := ev_go (congrFun (e_L_law_705 (X := X)) _)
set_option maxRecDepth 100000 in
theorem e_L_law_706 {X : ev_E} : (ev_TT X).1 309 706 = i_ald X ev_tI 707 := (congrFun tt_L_law 706).trans rfl
theorem t_L_law_706 {X : ev_E} {i : Int32} {x : Nat} {st : List Value} {lo : List Value} {h : ev_M} {n q : Nat} {P : ev_O → ev_M → Nat → Nat → Prop} : ev_ok (ev_TT X) 309 706 lo (.int i :: .ref x :: st) h n q P ↔ ev_inA (ev_lk X h x) i ev_tI ∧ ev_ok (ev_TT X) 309 707 lo (ev_aG (ev_lk X h x) i :: st) h n q P := ev_goG (congrFun (e_L_law_706 (X := X)) _)
set_option maxRecDepth 100000 in
theorem e_L_law_707 {X : ev_E} : (ev_TT X).1 309 707 = i_al 3 708 := (congrFun tt_L_law 707).trans rfl
theorem t_L_law_707 {X : ev_E} {st : List Value} {v : Nat} {a0 a1 a2 a4 a5 a6 : Value} {h : ev_M} {n q : Nat} {P : ev_O → ev_M → Nat → Nat → Prop} : ev_ok (ev_TT X) 309 707 [a0, a1, a2, .ref v, a4, a5, a6] st h n q P ↔ ev_ok (ev_TT X) 309 708 [a0, a1, a2, .ref v, a4, a5, a6] ((.ref v) :: st) h n q P := ev_go (congrFun (e_L_law_707 (X := X)) _)
set_option maxRecDepth 100000 in
theorem e_L_law_708 {X : ev_E} : (ev_TT X).1 309 708 = i_cS 137 3 4 711 := (congrFun tt_L_law 708).trans rfl
theorem t_L_law_708 {X : ev_E} {y2 : Nat} {y1 : Int32} {y0 : Nat} {lo : List Value} {h : ev_M} {n q : Nat} {P : ev_O → ev_M → Nat → Nat → Prop} : ev_ok (ev_TT X) 309 708 lo [.ref y2, .int y1, .ref y0] h n q P ↔ ev_ok (ev_TT X) 137 0 [.ref y0, .int y1, .ref y2, ev_J] [] h n q (ev_kr (ev_TT X) 309 708 711 lo [] P) := (ev_caG (congrFun (e_L_law_708 (X := X)) _)).trans ⟨fun k => k.2, fun k => ⟨⟨rfl, Nat.le_of_ble_eq_true rfl, Nat.le_of_ble_eq_true rfl⟩, k⟩⟩
set_option maxRecDepth 100000 in
theorem e_L_law_711 {X : ev_E} : (ev_TT X).1 309 711 = i_is 5 713 := (congrFun tt_L_law 711).trans rfl
theorem t_L_law_711 {X : ev_E} {st : List Value} {v : Int32} {a0 a1 a2 a3 a4 a5 a6 : Value} {h : ev_M} {n q : Nat} {P : ev_O → ev_M → Nat → Nat → Prop} : ev_ok (ev_TT X) 309 711 [a0, a1, a2, a3, a4, a5, a6] ((.int v) :: st) h n q P ↔ ev_ok (ev_TT X) 309 713 [a0, a1, a2, a3, ev_k a4, .int v, a6] st h n q P := ev_go (congrFun (e_L_law_711 (X := X)) _)
set_option maxRecDepth 100000 in
theorem e_L_law_713 {X : ev_E} : (ev_TT X).1 309 713 = i_al 2 714 := (congrFun tt_L_law 713).trans rfl
theorem t_L_law_713 {X : ev_E} {st : List Value} {v : Nat} {a0 a1 a3 a4 a5 a6 : Value} {h : ev_M} {n q : Nat} {P : ev_O → ev_M → Nat → Nat → Prop} : ev_ok (ev_TT X) 309 713 [a0, a1, .ref v, a3, a4, a5, a6] st h n q P ↔ ev_ok (ev_TT X) 309 714 [a0, a1, .ref v, a3, a4, a5, a6] ((.ref v) :: st) h n q P := ev_go (congrFun (e_L_law_713 (X := X)) _)
set_option maxRecDepth 100000 in
theorem e_L_law_714 {X : ev_E} : (ev_TT X).1 309 714 = i_al 0 715 := (congrFun tt_L_law 714).trans rfl
theorem t_L_law_714 {X : ev_E} {st : List Value} {v : Nat} {a1 a2 a3 a4 a5 a6 : Value} {h : ev_M} {n q : Nat} {P : ev_O → ev_M → Nat → Nat → Prop} : ev_ok (ev_TT X) 309 714 [.ref v, a1, a2, a3, a4, a5, a6] st h n q P ↔ ev_ok (ev_TT X) 309 715 [.ref v, a1, a2, a3, a4, a5, a6] ((.ref v) :: st) h n q P := ev_go (congrFun (e_L_law_714 (X := X)) _)
set_option maxRecDepth 100000 in
theorem e_L_law_715 {X : ev_E} : (ev_TT X).1 309 715 = i_il 4 717 := (congrFun tt_L_law 715).trans rfl
theorem t_L_law_715 {X : ev_E} {st : List Value} {v : Int32} {a0 a1 a2 a3 a5 a6 : Value} {h : ev_M} {n q : Nat} {P : ev_O → ev_M → Nat → Nat → Prop} : ev_ok (ev_TT X) 309 715 [a0, a1, a2, a3, .int v, a5, a6] st h n q P ↔ ev_ok (ev_TT X) 309 717 [a0, a1, a2, a3, .int v, a5, a6] ((.int v) :: st) h n q P := ev_go (congrFun (e_L_law_715 (X := X)) _)
set_option maxRecDepth 100000 in
theorem e_L_law_717 {X : ev_E} : (ev_TT X).1 309 717 = i_psh (.int (1)) 718 := (congrFun tt_L_law 717).trans rfl
theorem t_L_law_717 {X : ev_E} {st : List Value} {lo : List Value} {h : ev_M} {n q : Nat} {P : ev_O → ev_M → Nat → Nat → Prop} : ev_ok (ev_TT X) 309 717 lo st h n q P ↔ ev_ok (ev_TT X) 309 718 lo ((.int (1)) :: st) h n q P := ev_go (congrFun (e_L_law_717 (X := X)) _)
set_option maxRecDepth 100000 in
theorem e_L_law_718 {X : ev_E} : (ev_TT X).1 309 718 = i_ii (fun a b => a + b) 719 := (congrFun tt_L_law 718).trans rfl
theorem t_L_law_718 {X : ev_E} {x y : Int32} {st : List Value} {lo : List Value} {h : ev_M} {n q : Nat} {P : ev_O → ev_M → Nat → Nat → Prop} : ev_ok (ev_TT X) 309 718 lo (.int y :: .int x :: st) h n q P ↔ ev_ok (ev_TT X) 309 719 lo (.int (x + y) :: st) h n q P := ev_go (congrFun (e_L_law_718 (X := X)) _)
set_option maxRecDepth 100000 in
theorem e_L_law_719 {X : ev_E} : (ev_TT X).1 309 719 = i_ald X ev_tI 720 := (congrFun tt_L_law 719).trans rfl
theorem t_L_law_719 {X : ev_E} {i : Int32} {x : Nat} {st : List Value} {lo : List Value} {h : ev_M} {n q : Nat} {P : ev_O → ev_M → Nat → Nat → Prop} : ev_ok (ev_TT X) 309 719 lo (.int i :: .ref x :: st) h n q P ↔ ev_inA (ev_lk X h x) i ev_tI ∧ ev_ok (ev_TT X) 309 720 lo (ev_aG (ev_lk X h x) i :: st) h n q P := ev_goG (congrFun (e_L_law_719 (X := X)) _)
set_option maxRecDepth 100000 in
theorem e_L_law_720 {X : ev_E} : (ev_TT X).1 309 720 = i_cV X 168 1 13 2 723 := (congrFun tt_L_law 720).trans rfl
theorem t_L_law_720 {X : ev_E} {x : Nat} {y0 : Int32} {lo : List Value} {h : ev_M} {n q : Nat} {P : ev_O → ev_M → Nat → Nat → Prop} : ev_ok (ev_TT X) 309 720 lo [.int y0, .ref x] h n q P ↔ ev_isK (ev_lk X h x) 13 ∧ ev_ok (ev_TT X) 168 0 [.ref x, .int y0] [] h n q (ev_kr (ev_TT X) 309 720 723 lo [] P) := (ev_caG (congrFun (e_L_law_720 (X := X)) _)).trans (and_congr_left' ⟨fun k => k.1, fun k => ⟨k, rfl, Or.inl (Nat.le_of_ble_eq_true rfl), Nat.le_of_ble_eq_true rfl⟩⟩)
theorem x_L_law_720 {X : ev_E} {lo st : List Value} {h : ev_M} {n q : Nat} {P : ev_O → ev_M → Nat → Nat → Prop} {E : Nat} : ev_kr (ev_TT X) 309 720 723 lo st P (.inr E) h n q ↔ P (.inr E) h n q := ev_kr_x rfl
set_option maxRecDepth 100000 in
theorem e_L_law_723 {X : ev_E} : (ev_TT X).1 309 723 = i_is 6 725 := (congrFun tt_L_law 723).trans rfl
theorem t_L_law_723 {X : ev_E} {st : List Value} {v : Int32} {a0 a1 a2 a3 a4 a5 a6 : Value} {h : ev_M} {n q : Nat} {P : ev_O → ev_M → Nat → Nat → Prop} : ev_ok (ev_TT X) 309 723 [a0, a1, a2, a3, a4, a5, a6] ((.int v) :: st) h n q P ↔ ev_ok (ev_TT X) 309 725 [a0, a1, a2, a3, a4, ev_k a5, .int v] st h n q P := ev_go (congrFun (e_L_law_723 (X := X)) _)
set_option maxRecDepth 100000 in
theorem e_L_law_725 {X : ev_E} : (ev_TT X).1 309 725 = i_goto 1713 := (congrFun tt_L_law 725).trans rfl
theorem t_L_law_725 {X : ev_E} {st : List Value} {lo : List Value} {h : ev_M} {n q : Nat} {P : ev_O → ev_M → Nat → Nat → Prop} : ev_ok (ev_TT X) 309 725 lo st h n q P ↔ ev_ok (ev_TT X) 309 1713 lo st h n q P := ev_go (congrFun (e_L_law_725 (X := X)) _)
set_option maxRecDepth 100000 in
theorem e_L_law_728 {X : ev_E} : (ev_TT X).1 309 728 = i_al 1 729 := (congrFun tt_L_law 728).trans rfl
theorem t_L_law_728 {X : ev_E} {st : List Value} {v : Nat} {a0 a2 a3 a4 a5 a6 : Value} {h : ev_M} {n q : Nat} {P : ev_O → ev_M → Nat → Nat → Prop} : ev_ok (ev_TT X) 309 728 [a0, .ref v, a2, a3, a4, a5, a6] st h n q P ↔ ev_ok (ev_TT X) 309 729 [a0, .ref v, a2, a3, a4, a5, a6] ((.ref v) :: st) h n q P := ev_go (congrFun (e_L_law_728 (X := X)) _)
set_option maxRecDepth 100000 in
theorem e_L_law_729 {X : ev_E} : (ev_TT X).1 309 729 = i_al 0 730 := (congrFun tt_L_law 729).trans rfl
theorem t_L_law_729 {X : ev_E} {st : List Value} {v : Nat} {a1 a2 a3 a4 a5 a6 : Value} {h : ev_M} {n q : Nat} {P : ev_O → ev_M → Nat → Nat → Prop} : ev_ok (ev_TT X) 309 729 [.ref v, a1, a2, a3, a4, a5, a6] st h n q P ↔ ev_ok (ev_TT X) 309 730 [.ref v, a1, a2, a3, a4, a5, a6] ((.ref v) :: st) h n q P := ev_go (congrFun (e_L_law_729 (X := X)) _)
set_option maxRecDepth 100000 in
theorem e_L_law_730 {X : ev_E} : (ev_TT X).1 309 730 = i_il 4 732 := (congrFun tt_L_law 730).trans rfl
theorem t_L_law_730 {X : ev_E} {st : List Value} {v : Int32} {a0 a1 a2 a3 a5 a6 : Value} {h : ev_M} {n q : Nat} {P : ev_O → ev_M → Nat → Nat → Prop} : ev_ok (ev_TT X) 309 730 [a0, a1, a2, a3, .int v, a5, a6] st h n q P ↔ ev_ok (ev_TT X) 309 732 [a0, a1, a2, a3, .int v, a5, a6] ((.int v) :: st) h n q P := ev_go (congrFun (e_L_law_730 (X := X)) _)
set_option maxRecDepth 100000 in
theorem e_L_law_732 {X : ev_E} : (ev_TT X).1 309 732 = i_psh (.int (1)) 733 := (congrFun tt_L_law 732).trans rfl
theorem t_L_law_732 {X : ev_E} {st : List Value} {lo : List Value} {h : ev_M} {n q : Nat} {P : ev_O → ev_M → Nat → Nat → Prop} : ev_ok (ev_TT X) 309 732 lo st h n q P ↔ ev_ok (ev_TT X) 309 733 lo ((.int (1)) :: st) h n q P := ev_go (congrFun (e_L_law_732 (X := X)) _)
set_option maxRecDepth 100000 in
theorem e_L_law_733 {X : ev_E} : (ev_TT X).1 309 733 = i_ii (fun a b => a + b) 734 := (congrFun tt_L_law 733).trans rfl
theorem t_L_law_733 {X : ev_E} {x y : Int32} {st : List Value} {lo : List Value} {h : ev_M} {n q : Nat} {P : ev_O → ev_M → Nat → Nat → Prop} : ev_ok (ev_TT X) 309 733 lo (.int y :: .int x :: st) h n q P ↔ ev_ok (ev_TT X) 309 734 lo (.int (x + y) :: st) h n q P := ev_go (congrFun (e_L_law_733 (X := X)) _)
set_option maxRecDepth 100000 in
theorem e_L_law_734 {X : ev_E} : (ev_TT X).1 309 734 = i_ald X ev_tI 735 := (congrFun tt_L_law 734).trans rfl
theorem t_L_law_734 {X : ev_E} {i : Int32} {x : Nat} {st : List Value} {lo : List Value} {h : ev_M} {n q : Nat} {P : ev_O → ev_M → Nat → Nat → Prop} : ev_ok (ev_TT X) 309 734 lo (.int i :: .ref x :: st) h n q P ↔ ev_inA (ev_lk X h x) i ev_tI ∧ ev_ok (ev_TT X) 309 735 lo (ev_aG (ev_lk X h x) i :: st) h n q P := ev_goG (congrFun (e_L_law_734 (X := X)) _)
set_option maxRecDepth 100000 in
theorem e_L_law_735 {X : ev_E} : (ev_TT X).1 309 735 = i_al 0 736 := (congrFun tt_L_law 735).trans rfl
theorem t_L_law_735 {X : ev_E} {st : List Value} {v : Nat} {a1 a2 a3 a4 a5 a6 : Value} {h : ev_M} {n q : Nat} {P : ev_O → ev_M → Nat → Nat → Prop} : ev_ok (ev_TT X) 309 735 [.ref v, a1, a2, a3, a4, a5, a6] st h n q P ↔ ev_ok (ev_TT X) 309 736 [.ref v, a1, a2, a3, a4, a5, a6] ((.ref v) :: st) h n q P := ev_go (congrFun (e_L_law_735 (X := X)) _)
set_option maxRecDepth 100000 in
theorem e_L_law_736 {X : ev_E} : (ev_TT X).1 309 736 = i_il 4 738 := (congrFun tt_L_law 736).trans rfl
theorem t_L_law_736 {X : ev_E} {st : List Value} {v : Int32} {a0 a1 a2 a3 a5 a6 : Value} {h : ev_M} {n q : Nat} {P : ev_O → ev_M → Nat → Nat → Prop} : ev_ok (ev_TT X) 309 736 [a0, a1, a2, a3, .int v, a5, a6] st h n q P ↔ ev_ok (ev_TT X) 309 738 [a0, a1, a2, a3, .int v, a5, a6] ((.int v) :: st) h n q P := ev_go (congrFun (e_L_law_736 (X := X)) _)
set_option maxRecDepth 100000 in
theorem e_L_law_738 {X : ev_E} : (ev_TT X).1 309 738 = i_psh (.int (2)) 739 := (congrFun tt_L_law 738).trans rfl
theorem t_L_law_738 {X : ev_E} {st : List Value} {lo : List Value} {h : ev_M} {n q : Nat} {P : ev_O → ev_M → Nat → Nat → Prop} : ev_ok (ev_TT X) 309 738 lo st h n q P ↔ ev_ok (ev_TT X) 309 739 lo ((.int (2)) :: st) h n q P := ev_go (congrFun (e_L_law_738 (X := X)) _)
set_option maxRecDepth 100000 in
theorem e_L_law_739 {X : ev_E} : (ev_TT X).1 309 739 = i_ii (fun a b => a + b) 740 := (congrFun tt_L_law 739).trans rfl
theorem t_L_law_739 {X : ev_E} {x y : Int32} {st : List Value} {lo : List Value} {h : ev_M} {n q : Nat} {P : ev_O → ev_M → Nat → Nat → Prop} : ev_ok (ev_TT X) 309 739 lo (.int y :: .int x :: st) h n q P ↔ ev_ok (ev_TT X) 309 740 lo (.int (x + y) :: st) h n q P := ev_go (congrFun (e_L_law_739 (X := X)) _)
set_option maxRecDepth 100000 in
theorem e_L_law_740 {X : ev_E} : (ev_TT X).1 309 740 = i_ald X ev_tI 741 := (congrFun tt_L_law 740).trans rfl
theorem t_L_law_740 {X : ev_E} {i : Int32} {x : Nat} {st : List Value} {lo : List Value} {h : ev_M} {n q : Nat} {P : ev_O → ev_M → Nat → Nat → Prop} : ev_ok (ev_TT X) 309 740 lo (.int i :: .ref x :: st) h n q P ↔ ev_inA (ev_lk X h x) i ev_tI ∧ ev_ok (ev_TT X) 309 741 lo (ev_aG (ev_lk X h x) i :: st) h n q P := ev_goG (congrFun (e_L_law_740 (X := X)) _)
set_option maxRecDepth 100000 in
theorem e_L_law_741 {X : ev_E} : (ev_TT X).1 309 741 = i_al 3 742 := (congrFun tt_L_law 741).trans rfl
theorem t_L_law_741 {X : ev_E} {st : List Value} {v : Nat} {a0 a1 a2 a4 a5 a6 : Value} {h : ev_M} {n q : Nat} {P : ev_O → ev_M → Nat → Nat → Prop} : ev_ok (ev_TT X) 309 741 [a0, a1, a2, .ref v, a4, a5, a6] st h n q P ↔ ev_ok (ev_TT X) 309 742 [a0, a1, a2, .ref v, a4, a5, a6] ((.ref v) :: st) h n q P := ev_go (congrFun (e_L_law_741 (X := X)) _)
set_option maxRecDepth 100000 in
theorem e_L_law_742 {X : ev_E} : (ev_TT X).1 309 742 = i_cS 185 4 5 745 := (congrFun tt_L_law 742).trans rfl
theorem t_L_law_742 {X : ev_E} {y3 : Nat} {y2 : Int32} {y1 : Int32} {y0 : Nat} {lo : List Value} {h : ev_M} {n q : Nat} {P : ev_O → ev_M → Nat → Nat → Prop} : ev_ok (ev_TT X) 309 742 lo [.ref y3, .int y2, .int y1, .ref y0] h n q P ↔ ev_ok (ev_TT X) 185 0 [.ref y0, .int y1, .int y2, .ref y3, ev_J] [] h n q (ev_kr (ev_TT X) 309 742 745 lo [] P) := (ev_caG (congrFun (e_L_law_742 (X := X)) _)).trans ⟨fun k => k.2, fun k => ⟨⟨rfl, Nat.le_of_ble_eq_true rfl, Nat.le_of_ble_eq_true rfl⟩, k⟩⟩
set_option maxRecDepth 100000 in
theorem e_L_law_745 {X : ev_E} : (ev_TT X).1 309 745 = i_is 5 747 := (congrFun tt_L_law 745).trans rfl
theorem t_L_law_745 {X : ev_E} {st : List Value} {v : Int32} {a0 a1 a2 a3 a4 a5 a6 : Value} {h : ev_M} {n q : Nat} {P : ev_O → ev_M → Nat → Nat → Prop} : ev_ok (ev_TT X) 309 745 [a0, a1, a2, a3, a4, a5, a6] ((.int v) :: st) h n q P ↔ ev_ok (ev_TT X) 309 747 [a0, a1, a2, a3, ev_k a4, .int v, a6] st h n q P := ev_go (congrFun (e_L_law_745 (X := X)) _)
set_option maxRecDepth 100000 in
theorem e_L_law_747 {X : ev_E} : (ev_TT X).1 309 747 = i_al 2 748 := (congrFun tt_L_law 747).trans rfl
theorem t_L_law_747 {X : ev_E} {st : List Value} {v : Nat} {a0 a1 a3 a4 a5 a6 : Value} {h : ev_M} {n q : Nat} {P : ev_O → ev_M → Nat → Nat → Prop} : ev_ok (ev_TT X) 309 747 [a0, a1, .ref v, a3, a4, a5, a6] st h n q P ↔ ev_ok (ev_TT X) 309 748 [a0, a1, .ref v, a3, a4, a5, a6] ((.ref v) :: st) h n q P := ev_go (congrFun (e_L_law_747 (X := X)) _)
set_option maxRecDepth 100000 in
theorem e_L_law_748 {X : ev_E} : (ev_TT X).1 309 748 = i_al 0 749 := (congrFun tt_L_law 748).trans rfl
theorem t_L_law_748 {X : ev_E} {st : List Value} {v : Nat} {a1 a2 a3 a4 a5 a6 : Value} {h : ev_M} {n q : Nat} {P : ev_O → ev_M → Nat → Nat → Prop} : ev_ok (ev_TT X) 309 748 [.ref v, a1, a2, a3, a4, a5, a6] st h n q P ↔ ev_ok (ev_TT X) 309 749 [.ref v, a1, a2, a3, a4, a5, a6] ((.ref v) :: st) h n q P := ev_go (congrFun (e_L_law_748 (X := X)) _)
set_option maxRecDepth 100000 in
theorem e_L_law_749 {X : ev_E} : (ev_TT X).1 309 749 = i_il 4 751 := (congrFun tt_L_law 749).trans rfl
theorem t_L_law_749 {X : ev_E} {st : List Value} {v : Int32} {a0 a1 a2 a3 a5 a6 : Value} {h : ev_M} {n q : Nat} {P : ev_O → ev_M → Nat → Nat → Prop} : ev_ok (ev_TT X) 309 749 [a0, a1, a2, a3, .int v, a5, a6] st h n q P ↔ ev_ok (ev_TT X) 309 751 [a0, a1, a2, a3, .int v, a5, a6] ((.int v) :: st) h n q P := ev_go (congrFun (e_L_law_749 (X := X)) _)
set_option maxRecDepth 100000 in
theorem e_L_law_751 {X : ev_E} : (ev_TT X).1 309 751 = i_psh (.int (1)) 752 := (congrFun tt_L_law 751).trans rfl
theorem t_L_law_751 {X : ev_E} {st : List Value} {lo : List Value} {h : ev_M} {n q : Nat} {P : ev_O → ev_M → Nat → Nat → Prop} : ev_ok (ev_TT X) 309 751 lo st h n q P ↔ ev_ok (ev_TT X) 309 752 lo ((.int (1)) :: st) h n q P := ev_go (congrFun (e_L_law_751 (X := X)) _)
set_option maxRecDepth 100000 in
theorem e_L_law_752 {X : ev_E} : (ev_TT X).1 309 752 = i_ii (fun a b => a + b) 753 := (congrFun tt_L_law 752).trans rfl
theorem t_L_law_752 {X : ev_E} {x y : Int32} {st : List Value} {lo : List Value} {h : ev_M} {n q : Nat} {P : ev_O → ev_M → Nat → Nat → Prop} : ev_ok (ev_TT X) 309 752 lo (.int y :: .int x :: st) h n q P ↔ ev_ok (ev_TT X) 309 753 lo (.int (x + y) :: st) h n q P := ev_go (congrFun (e_L_law_752 (X := X)) _)
set_option maxRecDepth 100000 in
theorem e_L_law_753 {X : ev_E} : (ev_TT X).1 309 753 = i_ald X ev_tI 754 := (congrFun tt_L_law 753).trans rfl
theorem t_L_law_753 {X : ev_E} {i : Int32} {x : Nat} {st : List Value} {lo : List Value} {h : ev_M} {n q : Nat} {P : ev_O → ev_M → Nat → Nat → Prop} : ev_ok (ev_TT X) 309 753 lo (.int i :: .ref x :: st) h n q P ↔ ev_inA (ev_lk X h x) i ev_tI ∧ ev_ok (ev_TT X) 309 754 lo (ev_aG (ev_lk X h x) i :: st) h n q P := ev_goG (congrFun (e_L_law_753 (X := X)) _)
set_option maxRecDepth 100000 in
theorem e_L_law_754 {X : ev_E} : (ev_TT X).1 309 754 = i_al 0 755 := (congrFun tt_L_law 754).trans rfl
theorem t_L_law_754 {X : ev_E} {st : List Value} {v : Nat} {a1 a2 a3 a4 a5 a6 : Value} {h : ev_M} {n q : Nat} {P : ev_O → ev_M → Nat → Nat → Prop} : ev_ok (ev_TT X) 309 754 [.ref v, a1, a2, a3, a4, a5, a6] st h n q P ↔ ev_ok (ev_TT X) 309 755 [.ref v, a1, a2, a3, a4, a5, a6] ((.ref v) :: st) h n q P := ev_go (congrFun (e_L_law_754 (X := X)) _)
set_option maxRecDepth 100000 in
theorem e_L_law_755 {X : ev_E} : (ev_TT X).1 309 755 = i_il 4 757 := (congrFun tt_L_law 755).trans rfl
theorem t_L_law_755 {X : ev_E} {st : List Value} {v : Int32} {a0 a1 a2 a3 a5 a6 : Value} {h : ev_M} {n q : Nat} {P : ev_O → ev_M → Nat → Nat → Prop} : ev_ok (ev_TT X) 309 755 [a0, a1, a2, a3, .int v, a5, a6] st h n q P ↔ ev_ok (ev_TT X) 309 757 [a0, a1, a2, a3, .int v, a5, a6] ((.int v) :: st) h n q P := ev_go (congrFun (e_L_law_755 (X := X)) _)
set_option maxRecDepth 100000 in
theorem e_L_law_757 {X : ev_E} : (ev_TT X).1 309 757 = i_psh (.int (2)) 758 := (congrFun tt_L_law 757).trans rfl
theorem t_L_law_757 {X : ev_E} {st : List Value} {lo : List Value} {h : ev_M} {n q : Nat} {P : ev_O → ev_M → Nat → Nat → Prop} : ev_ok (ev_TT X) 309 757 lo st h n q P ↔ ev_ok (ev_TT X) 309 758 lo ((.int (2)) :: st) h n q P := ev_go (congrFun (e_L_law_757 (X := X)) _)
set_option maxRecDepth 100000 in
theorem e_L_law_758 {X : ev_E} : (ev_TT X).1 309 758 = i_ii (fun a b => a + b) 759 := (congrFun tt_L_law 758).trans rfl
theorem t_L_law_758 {X : ev_E} {x y : Int32} {st : List Value} {lo : List Value} {h : ev_M} {n q : Nat} {P : ev_O → ev_M → Nat → Nat → Prop} : ev_ok (ev_TT X) 309 758 lo (.int y :: .int x :: st) h n q P ↔ ev_ok (ev_TT X) 309 759 lo (.int (x + y) :: st) h n q P := ev_go (congrFun (e_L_law_758 (X := X)) _)
set_option maxRecDepth 100000 in
theorem e_L_law_759 {X : ev_E} : (ev_TT X).1 309 759 = i_ald X ev_tI 760 := (congrFun tt_L_law 759).trans rfl
theorem t_L_law_759 {X : ev_E} {i : Int32} {x : Nat} {st : List Value} {lo : List Value} {h : ev_M} {n q : Nat} {P : ev_O → ev_M → Nat → Nat → Prop} : ev_ok (ev_TT X) 309 759 lo (.int i :: .ref x :: st) h n q P ↔ ev_inA (ev_lk X h x) i ev_tI ∧ ev_ok (ev_TT X) 309 760 lo (ev_aG (ev_lk X h x) i :: st) h n q P := ev_goG (congrFun (e_L_law_759 (X := X)) _)
set_option maxRecDepth 100000 in
theorem e_L_law_760 {X : ev_E} : (ev_TT X).1 309 760 = i_cV X 235 2 13 3 763 := (congrFun tt_L_law 760).trans rfl
theorem t_L_law_760 {X : ev_E} {x : Nat} {y1 : Int32} {y0 : Int32} {lo : List Value} {h : ev_M} {n q : Nat} {P : ev_O → ev_M → Nat → Nat → Prop} : ev_ok (ev_TT X) 309 760 lo [.int y1, .int y0, .ref x] h n q P ↔ ev_isK (ev_lk X h x) 13 ∧ ev_ok (ev_TT X) 235 0 [.ref x, .int y0, .int y1] [] h n q (ev_kr (ev_TT X) 309 760 763 lo [] P) := (ev_caG (congrFun (e_L_law_760 (X := X)) _)).trans (and_congr_left' ⟨fun k => k.1, fun k => ⟨k, rfl, Or.inl (Nat.le_of_ble_eq_true rfl), Nat.le_of_ble_eq_true rfl⟩⟩)
theorem x_L_law_760 {X : ev_E} {lo st : List Value} {h : ev_M} {n q : Nat} {P : ev_O → ev_M → Nat → Nat → Prop} {E : Nat} : ev_kr (ev_TT X) 309 760 763 lo st P (.inr E) h n q ↔ P (.inr E) h n q := ev_kr_x rfl
set_option maxRecDepth 100000 in
theorem e_L_law_763 {X : ev_E} : (ev_TT X).1 309 763 = i_is 6 765 := (congrFun tt_L_law 763).trans rfl
theorem t_L_law_763 {X : ev_E} {st : List Value} {v : Int32} {a0 a1 a2 a3 a4 a5 a6 : Value} {h : ev_M} {n q : Nat} {P : ev_O → ev_M → Nat → Nat → Prop} : ev_ok (ev_TT X) 309 763 [a0, a1, a2, a3, a4, a5, a6] ((.int v) :: st) h n q P ↔ ev_ok (ev_TT X) 309 765 [a0, a1, a2, a3, a4, ev_k a5, .int v] st h n q P := ev_go (congrFun (e_L_law_763 (X := X)) _)
set_option maxRecDepth 100000 in
theorem e_L_law_765 {X : ev_E} : (ev_TT X).1 309 765 = i_goto 1713 := (congrFun tt_L_law 765).trans rfl
theorem t_L_law_765 {X : ev_E} {st : List Value} {lo : List Value} {h : ev_M} {n q : Nat} {P : ev_O → ev_M → Nat → Nat → Prop} : ev_ok (ev_TT X) 309 765 lo st h n q P ↔ ev_ok (ev_TT X) 309 1713 lo st h n q P := ev_go (congrFun (e_L_law_765 (X := X)) _)
set_option maxRecDepth 100000 in
theorem e_L_law_768 {X : ev_E} : (ev_TT X).1 309 768 = i_al 1 769 := (congrFun tt_L_law 768).trans rfl
theorem t_L_law_768 {X : ev_E} {st : List Value} {v : Nat} {a0 a2 a3 a4 a5 a6 : Value} {h : ev_M} {n q : Nat} {P : ev_O → ev_M → Nat → Nat → Prop} : ev_ok (ev_TT X) 309 768 [a0, .ref v, a2, a3, a4, a5, a6] st h n q P ↔ ev_ok (ev_TT X) 309 769 [a0, .ref v, a2, a3, a4, a5, a6] ((.ref v) :: st) h n q P := ev_go (congrFun (e_L_law_768 (X := X)) _)
set_option maxRecDepth 100000 in
theorem e_L_law_769 {X : ev_E} : (ev_TT X).1 309 769 = i_al 0 770 := (congrFun tt_L_law 769).trans rfl
theorem t_L_law_769 {X : ev_E} {st : List Value} {v : Nat} {a1 a2 a3 a4 a5 a6 : Value} {h : ev_M} {n q : Nat} {P : ev_O → ev_M → Nat → Nat → Prop} : ev_ok (ev_TT X) 309 769 [.ref v, a1, a2, a3, a4, a5, a6] st h n q P ↔ ev_ok (ev_TT X) 309 770 [.ref v, a1, a2, a3, a4, a5, a6] ((.ref v) :: st) h n q P := ev_go (congrFun (e_L_law_769 (X := X)) _)
set_option maxRecDepth 100000 in
theorem e_L_law_770 {X : ev_E} : (ev_TT X).1 309 770 = i_il 4 772 := (congrFun tt_L_law 770).trans rfl
theorem t_L_law_770 {X : ev_E} {st : List Value} {v : Int32} {a0 a1 a2 a3 a5 a6 : Value} {h : ev_M} {n q : Nat} {P : ev_O → ev_M → Nat → Nat → Prop} : ev_ok (ev_TT X) 309 770 [a0, a1, a2, a3, .int v, a5, a6] st h n q P ↔ ev_ok (ev_TT X) 309 772 [a0, a1, a2, a3, .int v, a5, a6] ((.int v) :: st) h n q P := ev_go (congrFun (e_L_law_770 (X := X)) _)
set_option maxRecDepth 100000 in
theorem e_L_law_772 {X : ev_E} : (ev_TT X).1 309 772 = i_psh (.int (1)) 773 := (congrFun tt_L_law 772).trans rfl
theorem t_L_law_772 {X : ev_E} {st : List Value} {lo : List Value} {h : ev_M} {n q : Nat} {P : ev_O → ev_M → Nat → Nat → Prop} : ev_ok (ev_TT X) 309 772 lo st h n q P ↔ ev_ok (ev_TT X) 309 773 lo ((.int (1)) :: st) h n q P := ev_go (congrFun (e_L_law_772 (X := X)) _)
set_option maxRecDepth 100000 in
theorem e_L_law_773 {X : ev_E} : (ev_TT X).1 309 773 = i_ii (fun a b => a + b) 774 := (congrFun tt_L_law 773).trans rfl
theorem t_L_law_773 {X : ev_E} {x y : Int32} {st : List Value} {lo : List Value} {h : ev_M} {n q : Nat} {P : ev_O → ev_M → Nat → Nat → Prop} : ev_ok (ev_TT X) 309 773 lo (.int y :: .int x :: st) h n q P ↔ ev_ok (ev_TT X) 309 774 lo (.int (x + y) :: st) h n q P := ev_go (congrFun (e_L_law_773 (X := X)) _)
set_option maxRecDepth 100000 in
theorem e_L_law_774 {X : ev_E} : (ev_TT X).1 309 774 = i_ald X ev_tI 775 := (congrFun tt_L_law 774).trans rfl
theorem t_L_law_774 {X : ev_E} {i : Int32} {x : Nat} {st : List Value} {lo : List Value} {h : ev_M} {n q : Nat} {P : ev_O → ev_M → Nat → Nat → Prop} : ev_ok (ev_TT X) 309 774 lo (.int i :: .ref x :: st) h n q P ↔ ev_inA (ev_lk X h x) i ev_tI ∧ ev_ok (ev_TT X) 309 775 lo (ev_aG (ev_lk X h x) i :: st) h n q P := ev_goG (congrFun (e_L_law_774 (X := X)) _)
set_option maxRecDepth 100000 in
theorem e_L_law_775 {X : ev_E} : (ev_TT X).1 309 775 = i_al 0 776 := (congrFun tt_L_law 775).trans rfl
theorem t_L_law_775 {X : ev_E} {st : List Value} {v : Nat} {a1 a2 a3 a4 a5 a6 : Value} {h : ev_M} {n q : Nat} {P : ev_O → ev_M → Nat → Nat → Prop} : ev_ok (ev_TT X) 309 775 [.ref v, a1, a2, a3, a4, a5, a6] st h n q P ↔ ev_ok (ev_TT X) 309 776 [.ref v, a1, a2, a3, a4, a5, a6] ((.ref v) :: st) h n q P := ev_go (congrFun (e_L_law_775 (X := X)) _)
set_option maxRecDepth 100000 in
theorem e_L_law_776 {X : ev_E} : (ev_TT X).1 309 776 = i_il 4 778 := (congrFun tt_L_law 776).trans rfl
theorem t_L_law_776 {X : ev_E} {st : List Value} {v : Int32} {a0 a1 a2 a3 a5 a6 : Value} {h : ev_M} {n q : Nat} {P : ev_O → ev_M → Nat → Nat → Prop} : ev_ok (ev_TT X) 309 776 [a0, a1, a2, a3, .int v, a5, a6] st h n q P ↔ ev_ok (ev_TT X) 309 778 [a0, a1, a2, a3, .int v, a5, a6] ((.int v) :: st) h n q P := ev_go (congrFun (e_L_law_776 (X := X)) _)
set_option maxRecDepth 100000 in
theorem e_L_law_778 {X : ev_E} : (ev_TT X).1 309 778 = i_psh (.int (2)) 779 := (congrFun tt_L_law 778).trans rfl
theorem t_L_law_778 {X : ev_E} {st : List Value} {lo : List Value} {h : ev_M} {n q : Nat} {P : ev_O → ev_M → Nat → Nat → Prop} : ev_ok (ev_TT X) 309 778 lo st h n q P ↔ ev_ok (ev_TT X) 309 779 lo ((.int (2)) :: st) h n q P := ev_go (congrFun (e_L_law_778 (X := X)) _)
set_option maxRecDepth 100000 in
theorem e_L_law_779 {X : ev_E} : (ev_TT X).1 309 779 = i_ii (fun a b => a + b) 780 := (congrFun tt_L_law 779).trans rfl
theorem t_L_law_779 {X : ev_E} {x y : Int32} {st : List Value} {lo : List Value} {h : ev_M} {n q : Nat} {P : ev_O → ev_M → Nat → Nat → Prop} : ev_ok (ev_TT X) 309 779 lo (.int y :: .int x :: st) h n q P ↔ ev_ok (ev_TT X) 309 780 lo (.int (x + y) :: st) h n q P := ev_go (congrFun (e_L_law_779 (X := X)) _)
set_option maxRecDepth 100000 in
theorem e_L_law_780 {X : ev_E} : (ev_TT X).1 309 780 = i_ald X ev_tI 781 := (congrFun tt_L_law 780).trans rfl
theorem t_L_law_780 {X : ev_E} {i : Int32} {x : Nat} {st : List Value} {lo : List Value} {h : ev_M} {n q : Nat} {P : ev_O → ev_M → Nat → Nat → Prop} : ev_ok (ev_TT X) 309 780 lo (.int i :: .ref x :: st) h n q P ↔ ev_inA (ev_lk X h x) i ev_tI ∧ ev_ok (ev_TT X) 309 781 lo (ev_aG (ev_lk X h x) i :: st) h n q P := ev_goG (congrFun (e_L_law_780 (X := X)) _)
set_option maxRecDepth 100000 in
theorem e_L_law_781 {X : ev_E} : (ev_TT X).1 309 781 = i_al 3 782 := (congrFun tt_L_law 781).trans rfl
theorem t_L_law_781 {X : ev_E} {st : List Value} {v : Nat} {a0 a1 a2 a4 a5 a6 : Value} {h : ev_M} {n q : Nat} {P : ev_O → ev_M → Nat → Nat → Prop} : ev_ok (ev_TT X) 309 781 [a0, a1, a2, .ref v, a4, a5, a6] st h n q P ↔ ev_ok (ev_TT X) 309 782 [a0, a1, a2, .ref v, a4, a5, a6] ((.ref v) :: st) h n q P := ev_go (congrFun (e_L_law_781 (X := X)) _)
set_option maxRecDepth 100000 in
theorem e_L_law_782 {X : ev_E} : (ev_TT X).1 309 782 = i_cS 193 4 5 785 := (congrFun tt_L_law 782).trans rfl
theorem t_L_law_782 {X : ev_E} {y3 : Nat} {y2 : Int32} {y1 : Int32} {y0 : Nat} {lo : List Value} {h : ev_M} {n q : Nat} {P : ev_O → ev_M → Nat → Nat → Prop} : ev_ok (ev_TT X) 309 782 lo [.ref y3, .int y2, .int y1, .ref y0] h n q P ↔ ev_ok (ev_TT X) 193 0 [.ref y0, .int y1, .int y2, .ref y3, ev_J] [] h n q (ev_kr (ev_TT X) 309 782 785 lo [] P) := (ev_caG (congrFun (e_L_law_782 (X := X)) _)).trans ⟨fun k => k.2, fun k => ⟨⟨rfl, Nat.le_of_ble_eq_true rfl, Nat.le_of_ble_eq_true rfl⟩, k⟩⟩
set_option maxRecDepth 100000 in
theorem e_L_law_785 {X : ev_E} : (ev_TT X).1 309 785 = i_is 5 787 := (congrFun tt_L_law 785).trans rfl
theorem t_L_law_785 {X : ev_E} {st : List Value} {v : Int32} {a0 a1 a2 a3 a4 a5 a6 : Value} {h : ev_M} {n q : Nat} {P : ev_O → ev_M → Nat → Nat → Prop} : ev_ok (ev_TT X) 309 785 [a0, a1, a2, a3, a4, a5, a6] ((.int v) :: st) h n q P ↔ ev_ok (ev_TT X) 309 787 [a0, a1, a2, a3, ev_k a4, .int v, a6] st h n q P := ev_go (congrFun (e_L_law_785 (X := X)) _)
set_option maxRecDepth 100000 in
theorem e_L_law_787 {X : ev_E} : (ev_TT X).1 309 787 = i_al 2 788 := (congrFun tt_L_law 787).trans rfl
theorem t_L_law_787 {X : ev_E} {st : List Value} {v : Nat} {a0 a1 a3 a4 a5 a6 : Value} {h : ev_M} {n q : Nat} {P : ev_O → ev_M → Nat → Nat → Prop} : ev_ok (ev_TT X) 309 787 [a0, a1, .ref v, a3, a4, a5, a6] st h n q P ↔ ev_ok (ev_TT X) 309 788 [a0, a1, .ref v, a3, a4, a5, a6] ((.ref v) :: st) h n q P := ev_go (congrFun (e_L_law_787 (X := X)) _)
set_option maxRecDepth 100000 in
theorem e_L_law_788 {X : ev_E} : (ev_TT X).1 309 788 = i_al 0 789 := (congrFun tt_L_law 788).trans rfl
theorem t_L_law_788 {X : ev_E} {st : List Value} {v : Nat} {a1 a2 a3 a4 a5 a6 : Value} {h : ev_M} {n q : Nat} {P : ev_O → ev_M → Nat → Nat → Prop} : ev_ok (ev_TT X) 309 788 [.ref v, a1, a2, a3, a4, a5, a6] st h n q P ↔ ev_ok (ev_TT X) 309 789 [.ref v, a1, a2, a3, a4, a5, a6] ((.ref v) :: st) h n q P := ev_go (congrFun (e_L_law_788 (X := X)) _)
set_option maxRecDepth 100000 in
theorem e_L_law_789 {X : ev_E} : (ev_TT X).1 309 789 = i_il 4 791 := (congrFun tt_L_law 789).trans rfl
theorem t_L_law_789 {X : ev_E} {st : List Value} {v : Int32} {a0 a1 a2 a3 a5 a6 : Value} {h : ev_M} {n q : Nat} {P : ev_O → ev_M → Nat → Nat → Prop} : ev_ok (ev_TT X) 309 789 [a0, a1, a2, a3, .int v, a5, a6] st h n q P ↔ ev_ok (ev_TT X) 309 791 [a0, a1, a2, a3, .int v, a5, a6] ((.int v) :: st) h n q P := ev_go (congrFun (e_L_law_789 (X := X)) _)
set_option maxRecDepth 100000 in
theorem e_L_law_791 {X : ev_E} : (ev_TT X).1 309 791 = i_psh (.int (1)) 792 := (congrFun tt_L_law 791).trans rfl
theorem t_L_law_791 {X : ev_E} {st : List Value} {lo : List Value} {h : ev_M} {n q : Nat} {P : ev_O → ev_M → Nat → Nat → Prop} : ev_ok (ev_TT X) 309 791 lo st h n q P ↔ ev_ok (ev_TT X) 309 792 lo ((.int (1)) :: st) h n q P := ev_go (congrFun (e_L_law_791 (X := X)) _)
set_option maxRecDepth 100000 in
theorem e_L_law_792 {X : ev_E} : (ev_TT X).1 309 792 = i_ii (fun a b => a + b) 793 := (congrFun tt_L_law 792).trans rfl
theorem t_L_law_792 {X : ev_E} {x y : Int32} {st : List Value} {lo : List Value} {h : ev_M} {n q : Nat} {P : ev_O → ev_M → Nat → Nat → Prop} : ev_ok (ev_TT X) 309 792 lo (.int y :: .int x :: st) h n q P ↔ ev_ok (ev_TT X) 309 793 lo (.int (x + y) :: st) h n q P := ev_go (congrFun (e_L_law_792 (X := X)) _)
set_option maxRecDepth 100000 in
theorem e_L_law_793 {X : ev_E} : (ev_TT X).1 309 793 = i_ald X ev_tI 794 := (congrFun tt_L_law 793).trans rfl
theorem t_L_law_793 {X : ev_E} {i : Int32} {x : Nat} {st : List Value} {lo : List Value} {h : ev_M} {n q : Nat} {P : ev_O → ev_M → Nat → Nat → Prop} : ev_ok (ev_TT X) 309 793 lo (.int i :: .ref x :: st) h n q P ↔ ev_inA (ev_lk X h x) i ev_tI ∧ ev_ok (ev_TT X) 309 794 lo (ev_aG (ev_lk X h x) i :: st) h n q P := ev_goG (congrFun (e_L_law_793 (X := X)) _)
set_option maxRecDepth 100000 in
theorem e_L_law_794 {X : ev_E} : (ev_TT X).1 309 794 = i_al 0 795 := (congrFun tt_L_law 794).trans rfl
theorem t_L_law_794 {X : ev_E} {st : List Value} {v : Nat} {a1 a2 a3 a4 a5 a6 : Value} {h : ev_M} {n q : Nat} {P : ev_O → ev_M → Nat → Nat → Prop} : ev_ok (ev_TT X) 309 794 [.ref v, a1, a2, a3, a4, a5, a6] st h n q P ↔ ev_ok (ev_TT X) 309 795 [.ref v, a1, a2, a3, a4, a5, a6] ((.ref v) :: st) h n q P := ev_go (congrFun (e_L_law_794 (X := X)) _)
set_option maxRecDepth 100000 in
theorem e_L_law_795 {X : ev_E} : (ev_TT X).1 309 795 = i_il 4 797 := (congrFun tt_L_law 795).trans rfl
theorem t_L_law_795 {X : ev_E} {st : List Value} {v : Int32} {a0 a1 a2 a3 a5 a6 : Value} {h : ev_M} {n q : Nat} {P : ev_O → ev_M → Nat → Nat → Prop} : ev_ok (ev_TT X) 309 795 [a0, a1, a2, a3, .int v, a5, a6] st h n q P ↔ ev_ok (ev_TT X) 309 797 [a0, a1, a2, a3, .int v, a5, a6] ((.int v) :: st) h n q P := ev_go (congrFun (e_L_law_795 (X := X)) _)
set_option maxRecDepth 100000 in
theorem e_L_law_797 {X : ev_E} : (ev_TT X).1 309 797 = i_psh (.int (2)) 798 := (congrFun tt_L_law 797).trans rfl
theorem t_L_law_797 {X : ev_E} {st : List Value} {lo : List Value} {h : ev_M} {n q : Nat} {P : ev_O → ev_M → Nat → Nat → Prop} : ev_ok (ev_TT X) 309 797 lo st h n q P ↔ ev_ok (ev_TT X) 309 798 lo ((.int (2)) :: st) h n q P := ev_go (congrFun (e_L_law_797 (X := X)) _)
set_option maxRecDepth 100000 in
theorem e_L_law_798 {X : ev_E} : (ev_TT X).1 309 798 = i_ii (fun a b => a + b) 799 := (congrFun tt_L_law 798).trans rfl
theorem t_L_law_798 {X : ev_E} {x y : Int32} {st : List Value} {lo : List Value} {h : ev_M} {n q : Nat} {P : ev_O → ev_M → Nat → Nat → Prop} : ev_ok (ev_TT X) 309 798 lo (.int y :: .int x :: st) h n q P ↔ ev_ok (ev_TT X) 309 799 lo (.int (x + y) :: st) h n q P := ev_go (congrFun (e_L_law_798 (X := X)) _)
set_option maxRecDepth 100000 in
theorem e_L_law_799 {X : ev_E} : (ev_TT X).1 309 799 = i_ald X ev_tI 800 := (congrFun tt_L_law 799).trans rfl
theorem t_L_law_799 {X : ev_E} {i : Int32} {x : Nat} {st : List Value} {lo : List Value} {h : ev_M} {n q : Nat} {P : ev_O → ev_M → Nat → Nat → Prop} : ev_ok (ev_TT X) 309 799 lo (.int i :: .ref x :: st) h n q P ↔ ev_inA (ev_lk X h x) i ev_tI ∧ ev_ok (ev_TT X) 309 800 lo (ev_aG (ev_lk X h x) i :: st) h n q P := ev_goG (congrFun (e_L_law_799 (X := X)) _)
set_option maxRecDepth 100000 in
theorem e_L_law_800 {X : ev_E} : (ev_TT X).1 309 800 = i_cV X 243 2 13 3 803 := (congrFun tt_L_law 800).trans rfl
theorem t_L_law_800 {X : ev_E} {x : Nat} {y1 : Int32} {y0 : Int32} {lo : List Value} {h : ev_M} {n q : Nat} {P : ev_O → ev_M → Nat → Nat → Prop} : ev_ok (ev_TT X) 309 800 lo [.int y1, .int y0, .ref x] h n q P ↔ ev_isK (ev_lk X h x) 13 ∧ ev_ok (ev_TT X) 243 0 [.ref x, .int y0, .int y1] [] h n q (ev_kr (ev_TT X) 309 800 803 lo [] P) := (ev_caG (congrFun (e_L_law_800 (X := X)) _)).trans (and_congr_left' ⟨fun k => k.1, fun k => ⟨k, rfl, Or.inl (Nat.le_of_ble_eq_true rfl), Nat.le_of_ble_eq_true rfl⟩⟩)
theorem x_L_law_800 {X : ev_E} {lo st : List Value} {h : ev_M} {n q : Nat} {P : ev_O → ev_M → Nat → Nat → Prop} {E : Nat} : ev_kr (ev_TT X) 309 800 803 lo st P (.inr E) h n q ↔ P (.inr E) h n q := ev_kr_x rfl
set_option maxRecDepth 100000 in
theorem e_L_law_803 {X : ev_E} : (ev_TT X).1 309 803 = i_is 6 805 := (congrFun tt_L_law 803).trans rfl
theorem t_L_law_803 {X : ev_E} {st : List Value} {v : Int32} {a0 a1 a2 a3 a4 a5 a6 : Value} {h : ev_M} {n q : Nat} {P : ev_O → ev_M → Nat → Nat → Prop} : ev_ok (ev_TT X) 309 803 [a0, a1, a2, a3, a4, a5, a6] ((.int v) :: st) h n q P ↔ ev_ok (ev_TT X) 309 805 [a0, a1, a2, a3, a4, ev_k a5, .int v] st h n q P := ev_go (congrFun (e_L_law_803 (X := X)) _)
set_option maxRecDepth 100000 in
theorem e_L_law_805 {X : ev_E} : (ev_TT X).1 309 805 = i_goto 1713 := (congrFun tt_L_law 805).trans rfl
theorem t_L_law_805 {X : ev_E} {st : List Value} {lo : List Value} {h : ev_M} {n q : Nat} {P : ev_O → ev_M → Nat → Nat → Prop} : ev_ok (ev_TT X) 309 805 lo st h n q P ↔ ev_ok (ev_TT X) 309 1713 lo st h n q P := ev_go (congrFun (e_L_law_805 (X := X)) _)
set_option maxRecDepth 100000 in
theorem e_L_law_808 {X : ev_E} : (ev_TT X).1 309 808 = i_al 1 809 := (congrFun tt_L_law 808).trans rfl
theorem t_L_law_808 {X : ev_E} {st : List Value} {v : Nat} {a0 a2 a3 a4 a5 a6 : Value} {h : ev_M} {n q : Nat} {P : ev_O → ev_M → Nat → Nat → Prop} : ev_ok (ev_TT X) 309 808 [a0, .ref v, a2, a3, a4, a5, a6] st h n q P ↔ ev_ok (ev_TT X) 309 809 [a0, .ref v, a2, a3, a4, a5, a6] ((.ref v) :: st) h n q P := ev_go (congrFun (e_L_law_808 (X := X)) _)
set_option maxRecDepth 100000 in
theorem e_L_law_809 {X : ev_E} : (ev_TT X).1 309 809 = i_al 0 810 := (congrFun tt_L_law 809).trans rfl
theorem t_L_law_809 {X : ev_E} {st : List Value} {v : Nat} {a1 a2 a3 a4 a5 a6 : Value} {h : ev_M} {n q : Nat} {P : ev_O → ev_M → Nat → Nat → Prop} : ev_ok (ev_TT X) 309 809 [.ref v, a1, a2, a3, a4, a5, a6] st h n q P ↔ ev_ok (ev_TT X) 309 810 [.ref v, a1, a2, a3, a4, a5, a6] ((.ref v) :: st) h n q P := ev_go (congrFun (e_L_law_809 (X := X)) _)
set_option maxRecDepth 100000 in
theorem e_L_law_810 {X : ev_E} : (ev_TT X).1 309 810 = i_il 4 812 := (congrFun tt_L_law 810).trans rfl
theorem t_L_law_810 {X : ev_E} {st : List Value} {v : Int32} {a0 a1 a2 a3 a5 a6 : Value} {h : ev_M} {n q : Nat} {P : ev_O → ev_M → Nat → Nat → Prop} : ev_ok (ev_TT X) 309 810 [a0, a1, a2, a3, .int v, a5, a6] st h n q P ↔ ev_ok (ev_TT X) 309 812 [a0, a1, a2, a3, .int v, a5, a6] ((.int v) :: st) h n q P := ev_go (congrFun (e_L_law_810 (X := X)) _)
set_option maxRecDepth 100000 in
theorem e_L_law_812 {X : ev_E} : (ev_TT X).1 309 812 = i_psh (.int (1)) 813 := (congrFun tt_L_law 812).trans rfl
theorem t_L_law_812 {X : ev_E} {st : List Value} {lo : List Value} {h : ev_M} {n q : Nat} {P : ev_O → ev_M → Nat → Nat → Prop} : ev_ok (ev_TT X) 309 812 lo st h n q P ↔ ev_ok (ev_TT X) 309 813 lo ((.int (1)) :: st) h n q P := ev_go (congrFun (e_L_law_812 (X := X)) _)
set_option maxRecDepth 100000 in
theorem e_L_law_813 {X : ev_E} : (ev_TT X).1 309 813 = i_ii (fun a b => a + b) 814 := (congrFun tt_L_law 813).trans rfl
theorem t_L_law_813 {X : ev_E} {x y : Int32} {st : List Value} {lo : List Value} {h : ev_M} {n q : Nat} {P : ev_O → ev_M → Nat → Nat → Prop} : ev_ok (ev_TT X) 309 813 lo (.int y :: .int x :: st) h n q P ↔ ev_ok (ev_TT X) 309 814 lo (.int (x + y) :: st) h n q P := ev_go (congrFun (e_L_law_813 (X := X)) _)
set_option maxRecDepth 100000 in
theorem e_L_law_814 {X : ev_E} : (ev_TT X).1 309 814 = i_ald X ev_tI 815 := (congrFun tt_L_law 814).trans rfl
theorem t_L_law_814 {X : ev_E} {i : Int32} {x : Nat} {st : List Value} {lo : List Value} {h : ev_M} {n q : Nat} {P : ev_O → ev_M → Nat → Nat → Prop} : ev_ok (ev_TT X) 309 814 lo (.int i :: .ref x :: st) h n q P ↔ ev_inA (ev_lk X h x) i ev_tI ∧ ev_ok (ev_TT X) 309 815 lo (ev_aG (ev_lk X h x) i :: st) h n q P := ev_goG (congrFun (e_L_law_814 (X := X)) _)
set_option maxRecDepth 100000 in
theorem e_L_law_815 {X : ev_E} : (ev_TT X).1 309 815 = i_al 0 816 := (congrFun tt_L_law 815).trans rfl
theorem t_L_law_815 {X : ev_E} {st : List Value} {v : Nat} {a1 a2 a3 a4 a5 a6 : Value} {h : ev_M} {n q : Nat} {P : ev_O → ev_M → Nat → Nat → Prop} : ev_ok (ev_TT X) 309 815 [.ref v, a1, a2, a3, a4, a5, a6] st h n q P ↔ ev_ok (ev_TT X) 309 816 [.ref v, a1, a2, a3, a4, a5, a6] ((.ref v) :: st) h n q P := ev_go (congrFun (e_L_law_815 (X := X)) _)
set_option maxRecDepth 100000 in
theorem e_L_law_816 {X : ev_E} : (ev_TT X).1 309 816 = i_il 4 818 := (congrFun tt_L_law 816).trans rfl
theorem t_L_law_816 {X : ev_E} {st : List Value} {v : Int32} {a0 a1 a2 a3 a5 a6 : Value} {h : ev_M} {n q : Nat} {P : ev_O → ev_M → Nat → Nat → Prop} : ev_ok (ev_TT X) 309 816 [a0, a1, a2, a3, .int v, a5, a6] st h n q P ↔ ev_ok (ev_TT X) 309 818 [a0, a1, a2, a3, .int v, a5, a6] ((.int v) :: st) h n q P := ev_go (congrFun (e_L_law_816 (X := X)) _)
set_option maxRecDepth 100000 in
theorem e_L_law_818 {X : ev_E} : (ev_TT X).1 309 818 = i_psh (.int (2)) 819 := (congrFun tt_L_law 818).trans rfl
theorem t_L_law_818 {X : ev_E} {st : List Value} {lo : List Value} {h : ev_M} {n q : Nat} {P : ev_O → ev_M → Nat → Nat → Prop} : ev_ok (ev_TT X) 309 818 lo st h n q P ↔ ev_ok (ev_TT X) 309 819 lo ((.int (2)) :: st) h n q P := ev_go (congrFun (e_L_law_818 (X := X)) _)
set_option maxRecDepth 100000 in
theorem e_L_law_819 {X : ev_E} : (ev_TT X).1 309 819 = i_ii (fun a b => a + b) 820 := (congrFun tt_L_law 819).trans rfl
theorem t_L_law_819 {X : ev_E} {x y : Int32} {st : List Value} {lo : List Value} {h : ev_M} {n q : Nat} {P : ev_O → ev_M → Nat → Nat → Prop} : ev_ok (ev_TT X) 309 819 lo (.int y :: .int x :: st) h n q P ↔ ev_ok (ev_TT X) 309 820 lo (.int (x + y) :: st) h n q P := ev_go (congrFun (e_L_law_819 (X := X)) _)
set_option maxRecDepth 100000 in
theorem e_L_law_820 {X : ev_E} : (ev_TT X).1 309 820 = i_ald X ev_tI 821 := (congrFun tt_L_law 820).trans rfl
theorem t_L_law_820 {X : ev_E} {i : Int32} {x : Nat} {st : List Value} {lo : List Value} {h : ev_M} {n q : Nat} {P : ev_O → ev_M → Nat → Nat → Prop} : ev_ok (ev_TT X) 309 820 lo (.int i :: .ref x :: st) h n q P ↔ ev_inA (ev_lk X h x) i ev_tI ∧ ev_ok (ev_TT X) 309 821 lo (ev_aG (ev_lk X h x) i :: st) h n q P := ev_goG (congrFun (e_L_law_820 (X := X)) _)
set_option maxRecDepth 100000 in
theorem e_L_law_821 {X : ev_E} : (ev_TT X).1 309 821 = i_al 3 822 := (congrFun tt_L_law 821).trans rfl
theorem t_L_law_821 {X : ev_E} {st : List Value} {v : Nat} {a0 a1 a2 a4 a5 a6 : Value} {h : ev_M} {n q : Nat} {P : ev_O → ev_M → Nat → Nat → Prop} : ev_ok (ev_TT X) 309 821 [a0, a1, a2, .ref v, a4, a5, a6] st h n q P ↔ ev_ok (ev_TT X) 309 822 [a0, a1, a2, .ref v, a4, a5, a6] ((.ref v) :: st) h n q P := ev_go (congrFun (e_L_law_821 (X := X)) _)
set_option maxRecDepth 100000 in
theorem e_L_law_822 {X : ev_E} : (ev_TT X).1 309 822 = i_cS 190 4 5 825 := (congrFun tt_L_law 822).trans rfl
theorem t_L_law_822 {X : ev_E} {y3 : Nat} {y2 : Int32} {y1 : Int32} {y0 : Nat} {lo : List Value} {h : ev_M} {n q : Nat} {P : ev_O → ev_M → Nat → Nat → Prop} : ev_ok (ev_TT X) 309 822 lo [.ref y3, .int y2, .int y1, .ref y0] h n q P ↔ ev_ok (ev_TT X) 190 0 [.ref y0, .int y1, .int y2, .ref y3, ev_J] [] h n q (ev_kr (ev_TT X) 309 822 825 lo [] P) := (ev_caG (congrFun (e_L_law_822 (X := X)) _)).trans ⟨fun k => k.2, fun k => ⟨⟨rfl, Nat.le_of_ble_eq_true rfl, Nat.le_of_ble_eq_true rfl⟩, k⟩⟩
set_option maxRecDepth 100000 in
theorem e_L_law_825 {X : ev_E} : (ev_TT X).1 309 825 = i_is 5 827 := (congrFun tt_L_law 825).trans rfl
theorem t_L_law_825 {X : ev_E} {st : List Value} {v : Int32} {a0 a1 a2 a3 a4 a5 a6 : Value} {h : ev_M} {n q : Nat} {P : ev_O → ev_M → Nat → Nat → Prop} : ev_ok (ev_TT X) 309 825 [a0, a1, a2, a3, a4, a5, a6] ((.int v) :: st) h n q P ↔ ev_ok (ev_TT X) 309 827 [a0, a1, a2, a3, ev_k a4, .int v, a6] st h n q P := ev_go (congrFun (e_L_law_825 (X := X)) _)
set_option maxRecDepth 100000 in
theorem e_L_law_827 {X : ev_E} : (ev_TT X).1 309 827 = i_al 2 828 := (congrFun tt_L_law 827).trans rfl
theorem t_L_law_827 {X : ev_E} {st : List Value} {v : Nat} {a0 a1 a3 a4 a5 a6 : Value} {h : ev_M} {n q : Nat} {P : ev_O → ev_M → Nat → Nat → Prop} : ev_ok (ev_TT X) 309 827 [a0, a1, .ref v, a3, a4, a5, a6] st h n q P ↔ ev_ok (ev_TT X) 309 828 [a0, a1, .ref v, a3, a4, a5, a6] ((.ref v) :: st) h n q P := ev_go (congrFun (e_L_law_827 (X := X)) _)
set_option maxRecDepth 100000 in
theorem e_L_law_828 {X : ev_E} : (ev_TT X).1 309 828 = i_al 0 829 := (congrFun tt_L_law 828).trans rfl
theorem t_L_law_828 {X : ev_E} {st : List Value} {v : Nat} {a1 a2 a3 a4 a5 a6 : Value} {h : ev_M} {n q : Nat} {P : ev_O → ev_M → Nat → Nat → Prop} : ev_ok (ev_TT X) 309 828 [.ref v, a1, a2, a3, a4, a5, a6] st h n q P ↔ ev_ok (ev_TT X) 309 829 [.ref v, a1, a2, a3, a4, a5, a6] ((.ref v) :: st) h n q P := ev_go (congrFun (e_L_law_828 (X := X)) _)
set_option maxRecDepth 100000 in
theorem e_L_law_829 {X : ev_E} : (ev_TT X).1 309 829 = i_il 4 831 := (congrFun tt_L_law 829).trans rfl
theorem t_L_law_829 {X : ev_E} {st : List Value} {v : Int32} {a0 a1 a2 a3 a5 a6 : Value} {h : ev_M} {n q : Nat} {P : ev_O → ev_M → Nat → Nat → Prop} : ev_ok (ev_TT X) 309 829 [a0, a1, a2, a3, .int v, a5, a6] st h n q P ↔ ev_ok (ev_TT X) 309 831 [a0, a1, a2, a3, .int v, a5, a6] ((.int v) :: st) h n q P := ev_go (congrFun (e_L_law_829 (X := X)) _)
set_option maxRecDepth 100000 in
theorem e_L_law_831 {X : ev_E} : (ev_TT X).1 309 831 = i_psh (.int (1)) 832 := (congrFun tt_L_law 831).trans rfl
theorem t_L_law_831 {X : ev_E} {st : List Value} {lo : List Value} {h : ev_M} {n q : Nat} {P : ev_O → ev_M → Nat → Nat → Prop} : ev_ok (ev_TT X) 309 831 lo st h n q P ↔ ev_ok (ev_TT X) 309 832 lo ((.int (1)) :: st) h n q P := ev_go (congrFun (e_L_law_831 (X := X)) _)
set_option maxRecDepth 100000 in
theorem e_L_law_832 {X : ev_E} : (ev_TT X).1 309 832 = i_ii (fun a b => a + b) 833 := (congrFun tt_L_law 832).trans rfl
theorem t_L_law_832 {X : ev_E} {x y : Int32} {st : List Value} {lo : List Value} {h : ev_M} {n q : Nat} {P : ev_O → ev_M → Nat → Nat → Prop} : ev_ok (ev_TT X) 309 832 lo (.int y :: .int x :: st) h n q P ↔ ev_ok (ev_TT X) 309 833 lo (.int (x + y) :: st) h n q P := ev_go (congrFun (e_L_law_832 (X := X)) _)
set_option maxRecDepth 100000 in
theorem e_L_law_833 {X : ev_E} : (ev_TT X).1 309 833 = i_ald X ev_tI 834 := (congrFun tt_L_law 833).trans rfl
theorem t_L_law_833 {X : ev_E} {i : Int32} {x : Nat} {st : List Value} {lo : List Value} {h : ev_M} {n q : Nat} {P : ev_O → ev_M → Nat → Nat → Prop} : ev_ok (ev_TT X) 309 833 lo (.int i :: .ref x :: st) h n q P ↔ ev_inA (ev_lk X h x) i ev_tI ∧ ev_ok (ev_TT X) 309 834 lo (ev_aG (ev_lk X h x) i :: st) h n q P := ev_goG (congrFun (e_L_law_833 (X := X)) _)
set_option maxRecDepth 100000 in
theorem e_L_law_834 {X : ev_E} : (ev_TT X).1 309 834 = i_al 0 835 := (congrFun tt_L_law 834).trans rfl
theorem t_L_law_834 {X : ev_E} {st : List Value} {v : Nat} {a1 a2 a3 a4 a5 a6 : Value} {h : ev_M} {n q : Nat} {P : ev_O → ev_M → Nat → Nat → Prop} : ev_ok (ev_TT X) 309 834 [.ref v, a1, a2, a3, a4, a5, a6] st h n q P ↔ ev_ok (ev_TT X) 309 835 [.ref v, a1, a2, a3, a4, a5, a6] ((.ref v) :: st) h n q P := ev_go (congrFun (e_L_law_834 (X := X)) _)
set_option maxRecDepth 100000 in
theorem e_L_law_835 {X : ev_E} : (ev_TT X).1 309 835 = i_il 4 837 := (congrFun tt_L_law 835).trans rfl
theorem t_L_law_835 {X : ev_E} {st : List Value} {v : Int32} {a0 a1 a2 a3 a5 a6 : Value} {h : ev_M} {n q : Nat} {P : ev_O → ev_M → Nat → Nat → Prop} : ev_ok (ev_TT X) 309 835 [a0, a1, a2, a3, .int v, a5, a6] st h n q P ↔ ev_ok (ev_TT X) 309 837 [a0, a1, a2, a3, .int v, a5, a6] ((.int v) :: st) h n q P := ev_go (congrFun (e_L_law_835 (X := X)) _)
set_option maxRecDepth 100000 in
theorem e_L_law_837 {X : ev_E} : (ev_TT X).1 309 837 = i_psh (.int (2)) 838 := (congrFun tt_L_law 837).trans rfl
theorem t_L_law_837 {X : ev_E} {st : List Value} {lo : List Value} {h : ev_M} {n q : Nat} {P : ev_O → ev_M → Nat → Nat → Prop} : ev_ok (ev_TT X) 309 837 lo st h n q P ↔ ev_ok (ev_TT X) 309 838 lo ((.int (2)) :: st) h n q P := ev_go (congrFun (e_L_law_837 (X := X)) _)
set_option maxRecDepth 100000 in
theorem e_L_law_838 {X : ev_E} : (ev_TT X).1 309 838 = i_ii (fun a b => a + b) 839 := (congrFun tt_L_law 838).trans rfl
theorem t_L_law_838 {X : ev_E} {x y : Int32} {st : List Value} {lo : List Value} {h : ev_M} {n q : Nat} {P : ev_O → ev_M → Nat → Nat → Prop} : ev_ok (ev_TT X) 309 838 lo (.int y :: .int x :: st) h n q P ↔ ev_ok (ev_TT X) 309 839 lo (.int (x + y) :: st) h n q P := ev_go (congrFun (e_L_law_838 (X := X)) _)
set_option maxRecDepth 100000 in
theorem e_L_law_839 {X : ev_E} : (ev_TT X).1 309 839 = i_ald X ev_tI 840 := (congrFun tt_L_law 839).trans rfl
theorem t_L_law_839 {X : ev_E} {i : Int32} {x : Nat} {st : List Value} {lo : List Value} {h : ev_M} {n q : Nat} {P : ev_O → ev_M → Nat → Nat → Prop} : ev_ok (ev_TT X) 309 839 lo (.int i :: .ref x :: st) h n q P ↔ ev_inA (ev_lk X h x) i ev_tI ∧ ev_ok (ev_TT X) 309 840 lo (ev_aG (ev_lk X h x) i :: st) h n q P := ev_goG (congrFun (e_L_law_839 (X := X)) _)
set_option maxRecDepth 100000 in
theorem e_L_law_840 {X : ev_E} : (ev_TT X).1 309 840 = i_cV X 237 2 13 3 843 := (congrFun tt_L_law 840).trans rfl
theorem t_L_law_840 {X : ev_E} {x : Nat} {y1 : Int32} {y0 : Int32} {lo : List Value} {h : ev_M} {n q : Nat} {P : ev_O → ev_M → Nat → Nat → Prop} : ev_ok (ev_TT X) 309 840 lo [.int y1, .int y0, .ref x] h n q P ↔ ev_isK (ev_lk X h x) 13 ∧ ev_ok (ev_TT X) 237 0 [.ref x, .int y0, .int y1] [] h n q (ev_kr (ev_TT X) 309 840 843 lo [] P) := (ev_caG (congrFun (e_L_law_840 (X := X)) _)).trans (and_congr_left' ⟨fun k => k.1, fun k => ⟨k, rfl, Or.inl (Nat.le_of_ble_eq_true rfl), Nat.le_of_ble_eq_true rfl⟩⟩)
theorem x_L_law_840 {X : ev_E} {lo st : List Value} {h : ev_M} {n q : Nat} {P : ev_O → ev_M → Nat → Nat → Prop} {E : Nat} : ev_kr (ev_TT X) 309 840 843 lo st P (.inr E) h n q ↔ P (.inr E) h n q := ev_kr_x rfl
set_option maxRecDepth 100000 in
theorem e_L_law_843 {X : ev_E} : (ev_TT X).1 309 843 = i_is 6 845 := (congrFun tt_L_law 843).trans rfl
theorem t_L_law_843 {X : ev_E} {st : List Value} {v : Int32} {a0 a1 a2 a3 a4 a5 a6 : Value} {h : ev_M} {n q : Nat} {P : ev_O → ev_M → Nat → Nat → Prop} : ev_ok (ev_TT X) 309 843 [a0, a1, a2, a3, a4, a5, a6] ((.int v) :: st) h n q P ↔ ev_ok (ev_TT X) 309 845 [a0, a1, a2, a3, a4, ev_k a5, .int v] st h n q P := ev_go (congrFun (e_L_law_843 (X := X)) _)
set_option maxRecDepth 100000 in
theorem e_L_law_845 {X : ev_E} : (ev_TT X).1 309 845 = i_goto 1713 := (congrFun tt_L_law 845).trans rfl
theorem t_L_law_845 {X : ev_E} {st : List Value} {lo : List Value} {h : ev_M} {n q : Nat} {P : ev_O → ev_M → Nat → Nat → Prop} : ev_ok (ev_TT X) 309 845 lo st h n q P ↔ ev_ok (ev_TT X) 309 1713 lo st h n q P := ev_go (congrFun (e_L_law_845 (X := X)) _)
set_option maxRecDepth 100000 in
theorem e_L_law_848 {X : ev_E} : (ev_TT X).1 309 848 = i_al 1 849 := (congrFun tt_L_law 848).trans rfl
theorem t_L_law_848 {X : ev_E} {st : List Value} {v : Nat} {a0 a2 a3 a4 a5 a6 : Value} {h : ev_M} {n q : Nat} {P : ev_O → ev_M → Nat → Nat → Prop} : ev_ok (ev_TT X) 309 848 [a0, .ref v, a2, a3, a4, a5, a6] st h n q P ↔ ev_ok (ev_TT X) 309 849 [a0, .ref v, a2, a3, a4, a5, a6] ((.ref v) :: st) h n q P := ev_go (congrFun (e_L_law_848 (X := X)) _)
set_option maxRecDepth 100000 in
theorem e_L_law_849 {X : ev_E} : (ev_TT X).1 309 849 = i_al 0 850 := (congrFun tt_L_law 849).trans rfl
theorem t_L_law_849 {X : ev_E} {st : List Value} {v : Nat} {a1 a2 a3 a4 a5 a6 : Value} {h : ev_M} {n q : Nat} {P : ev_O → ev_M → Nat → Nat → Prop} : ev_ok (ev_TT X) 309 849 [.ref v, a1, a2, a3, a4, a5, a6] st h n q P ↔ ev_ok (ev_TT X) 309 850 [.ref v, a1, a2, a3, a4, a5, a6] ((.ref v) :: st) h n q P := ev_go (congrFun (e_L_law_849 (X := X)) _)
set_option maxRecDepth 100000 in
theorem e_L_law_850 {X : ev_E} : (ev_TT X).1 309 850 = i_il 4 852 := (congrFun tt_L_law 850).trans rfl
theorem t_L_law_850 {X : ev_E} {st : List Value} {v : Int32} {a0 a1 a2 a3 a5 a6 : Value} {h : ev_M} {n q : Nat} {P : ev_O → ev_M → Nat → Nat → Prop} : ev_ok (ev_TT X) 309 850 [a0, a1, a2, a3, .int v, a5, a6] st h n q P ↔ ev_ok (ev_TT X) 309 852 [a0, a1, a2, a3, .int v, a5, a6] ((.int v) :: st) h n q P := ev_go (congrFun (e_L_law_850 (X := X)) _)
set_option maxRecDepth 100000 in
theorem e_L_law_852 {X : ev_E} : (ev_TT X).1 309 852 = i_psh (.int (1)) 853 := (congrFun tt_L_law 852).trans rfl
theorem t_L_law_852 {X : ev_E} {st : List Value} {lo : List Value} {h : ev_M} {n q : Nat} {P : ev_O → ev_M → Nat → Nat → Prop} : ev_ok (ev_TT X) 309 852 lo st h n q P ↔ ev_ok (ev_TT X) 309 853 lo ((.int (1)) :: st) h n q P := ev_go (congrFun (e_L_law_852 (X := X)) _)
set_option maxRecDepth 100000 in
theorem e_L_law_853 {X : ev_E} : (ev_TT X).1 309 853 = i_ii (fun a b => a + b) 854 := (congrFun tt_L_law 853).trans rfl
theorem t_L_law_853 {X : ev_E} {x y : Int32} {st : List Value} {lo : List Value} {h : ev_M} {n q : Nat} {P : ev_O → ev_M → Nat → Nat → Prop} : ev_ok (ev_TT X) 309 853 lo (.int y :: .int x :: st) h n q P ↔ ev_ok (ev_TT X) 309 854 lo (.int (x + y) :: st) h n q P := ev_go (congrFun (e_L_law_853 (X := X)) _)
set_option maxRecDepth 100000 in
theorem e_L_law_854 {X : ev_E} : (ev_TT X).1 309 854 = i_ald X ev_tI 855 := (congrFun tt_L_law 854).trans rfl
theorem t_L_law_854 {X : ev_E} {i : Int32} {x : Nat} {st : List Value} {lo : List Value} {h : ev_M} {n q : Nat} {P : ev_O → ev_M → Nat → Nat → Prop} : ev_ok (ev_TT X) 309 854 lo (.int i :: .ref x :: st) h n q P ↔ ev_inA (ev_lk X h x) i ev_tI ∧ ev_ok (ev_TT X) 309 855 lo (ev_aG (ev_lk X h x) i :: st) h n q P := ev_goG (congrFun (e_L_law_854 (X := X)) _)
set_option maxRecDepth 100000 in
theorem e_L_law_855 {X : ev_E} : (ev_TT X).1 309 855 = i_al 0 856 := (congrFun tt_L_law 855).trans rfl
theorem t_L_law_855 {X : ev_E} {st : List Value} {v : Nat} {a1 a2 a3 a4 a5 a6 : Value} {h : ev_M} {n q : Nat} {P : ev_O → ev_M → Nat → Nat → Prop} : ev_ok (ev_TT X) 309 855 [.ref v, a1, a2, a3, a4, a5, a6] st h n q P ↔ ev_ok (ev_TT X) 309 856 [.ref v, a1, a2, a3, a4, a5, a6] ((.ref v) :: st) h n q P := ev_go (congrFun (e_L_law_855 (X := X)) _)
set_option maxRecDepth 100000 in
theorem e_L_law_856 {X : ev_E} : (ev_TT X).1 309 856 = i_il 4 858 := (congrFun tt_L_law 856).trans rfl
theorem t_L_law_856 {X : ev_E} {st : List Value} {v : Int32} {a0 a1 a2 a3 a5 a6 : Value} {h : ev_M} {n q : Nat} {P : ev_O → ev_M → Nat → Nat → Prop} : ev_ok (ev_TT X) 309 856 [a0, a1, a2, a3, .int v, a5, a6] st h n q P ↔ ev_ok (ev_TT X) 309 858 [a0, a1, a2, a3, .int v, a5, a6] ((.int v) :: st) h n q P := ev_go (congrFun (e_L_law_856 (X := X)) _)
set_option maxRecDepth 100000 in
theorem e_L_law_858 {X : ev_E} : (ev_TT X).1 309 858 = i_psh (.int (2)) 859 := (congrFun tt_L_law 858).trans rfl
theorem t_L_law_858 {X : ev_E} {st : List Value} {lo : List Value} {h : ev_M} {n q : Nat} {P : ev_O → ev_M → Nat → Nat → Prop} : ev_ok (ev_TT X) 309 858 lo st h n q P ↔ ev_ok (ev_TT X) 309 859 lo ((.int (2)) :: st) h n q P := ev_go (congrFun (e_L_law_858 (X := X)) _)
set_option maxRecDepth 100000 in
theorem e_L_law_859 {X : ev_E} : (ev_TT X).1 309 859 = i_ii (fun a b => a + b) 860 := (congrFun tt_L_law 859).trans rfl
theorem t_L_law_859 {X : ev_E} {x y : Int32} {st : List Value} {lo : List Value} {h : ev_M} {n q : Nat} {P : ev_O → ev_M → Nat → Nat → Prop} : ev_ok (ev_TT X) 309 859 lo (.int y :: .int x :: st) h n q P ↔ ev_ok (ev_TT X) 309 860 lo (.int (x + y) :: st) h n q P := ev_go (congrFun (e_L_law_859 (X := X)) _)
set_option maxRecDepth 100000 in
theorem e_L_law_860 {X : ev_E} : (ev_TT X).1 309 860 = i_ald X ev_tI 861 := (congrFun tt_L_law 860).trans rfl
theorem t_L_law_860 {X : ev_E} {i : Int32} {x : Nat} {st : List Value} {lo : List Value} {h : ev_M} {n q : Nat} {P : ev_O → ev_M → Nat → Nat → Prop} : ev_ok (ev_TT X) 309 860 lo (.int i :: .ref x :: st) h n q P ↔ ev_inA (ev_lk X h x) i ev_tI ∧ ev_ok (ev_TT X) 309 861 lo (ev_aG (ev_lk X h x) i :: st) h n q P := ev_goG (congrFun (e_L_law_860 (X := X)) _)
set_option maxRecDepth 100000 in
theorem e_L_law_861 {X : ev_E} : (ev_TT X).1 309 861 = i_al 3 862 := (congrFun tt_L_law 861).trans rfl
theorem t_L_law_861 {X : ev_E} {st : List Value} {v : Nat} {a0 a1 a2 a4 a5 a6 : Value} {h : ev_M} {n q : Nat} {P : ev_O → ev_M → Nat → Nat → Prop} : ev_ok (ev_TT X) 309 861 [a0, a1, a2, .ref v, a4, a5, a6] st h n q P ↔ ev_ok (ev_TT X) 309 862 [a0, a1, a2, .ref v, a4, a5, a6] ((.ref v) :: st) h n q P := ev_go (congrFun (e_L_law_861 (X := X)) _)
set_option maxRecDepth 100000 in
theorem e_L_law_862 {X : ev_E} : (ev_TT X).1 309 862 = i_cS 136 4 5 865 := (congrFun tt_L_law 862).trans rfl
theorem t_L_law_862 {X : ev_E} {y3 : Nat} {y2 : Int32} {y1 : Int32} {y0 : Nat} {lo : List Value} {h : ev_M} {n q : Nat} {P : ev_O → ev_M → Nat → Nat → Prop} : ev_ok (ev_TT X) 309 862 lo [.ref y3, .int y2, .int y1, .ref y0] h n q P ↔ ev_ok (ev_TT X) 136 0 [.ref y0, .int y1, .int y2, .ref y3, ev_J] [] h n q (ev_kr (ev_TT X) 309 862 865 lo [] P) := (ev_caG (congrFun (e_L_law_862 (X := X)) _)).trans ⟨fun k => k.2, fun k => ⟨⟨rfl, Nat.le_of_ble_eq_true rfl, Nat.le_of_ble_eq_true rfl⟩, k⟩⟩
set_option maxRecDepth 100000 in
theorem e_L_law_865 {X : ev_E} : (ev_TT X).1 309 865 = i_is 5 867 := (congrFun tt_L_law 865).trans rfl
theorem t_L_law_865 {X : ev_E} {st : List Value} {v : Int32} {a0 a1 a2 a3 a4 a5 a6 : Value} {h : ev_M} {n q : Nat} {P : ev_O → ev_M → Nat → Nat → Prop} : ev_ok (ev_TT X) 309 865 [a0, a1, a2, a3, a4, a5, a6] ((.int v) :: st) h n q P ↔ ev_ok (ev_TT X) 309 867 [a0, a1, a2, a3, ev_k a4, .int v, a6] st h n q P := ev_go (congrFun (e_L_law_865 (X := X)) _)
set_option maxRecDepth 100000 in
theorem e_L_law_867 {X : ev_E} : (ev_TT X).1 309 867 = i_al 2 868 := (congrFun tt_L_law 867).trans rfl
theorem t_L_law_867 {X : ev_E} {st : List Value} {v : Nat} {a0 a1 a3 a4 a5 a6 : Value} {h : ev_M} {n q : Nat} {P : ev_O → ev_M → Nat → Nat → Prop} : ev_ok (ev_TT X) 309 867 [a0, a1, .ref v, a3, a4, a5, a6] st h n q P ↔ ev_ok (ev_TT X) 309 868 [a0, a1, .ref v, a3, a4, a5, a6] ((.ref v) :: st) h n q P := ev_go (congrFun (e_L_law_867 (X := X)) _)
set_option maxRecDepth 100000 in
theorem e_L_law_868 {X : ev_E} : (ev_TT X).1 309 868 = i_al 0 869 := (congrFun tt_L_law 868).trans rfl
theorem t_L_law_868 {X : ev_E} {st : List Value} {v : Nat} {a1 a2 a3 a4 a5 a6 : Value} {h : ev_M} {n q : Nat} {P : ev_O → ev_M → Nat → Nat → Prop} : ev_ok (ev_TT X) 309 868 [.ref v, a1, a2, a3, a4, a5, a6] st h n q P ↔ ev_ok (ev_TT X) 309 869 [.ref v, a1, a2, a3, a4, a5, a6] ((.ref v) :: st) h n q P := ev_go (congrFun (e_L_law_868 (X := X)) _)
set_option maxRecDepth 100000 in
theorem e_L_law_869 {X : ev_E} : (ev_TT X).1 309 869 = i_il 4 871 := (congrFun tt_L_law 869).trans rfl
theorem t_L_law_869 {X : ev_E} {st : List Value} {v : Int32} {a0 a1 a2 a3 a5 a6 : Value} {h : ev_M} {n q : Nat} {P : ev_O → ev_M → Nat → Nat → Prop} : ev_ok (ev_TT X) 309 869 [a0, a1, a2, a3, .int v, a5, a6] st h n q P ↔ ev_ok (ev_TT X) 309 871 [a0, a1, a2, a3, .int v, a5, a6] ((.int v) :: st) h n q P := ev_go (congrFun (e_L_law_869 (X := X)) _)
set_option maxRecDepth 100000 in
theorem e_L_law_871 {X : ev_E} : (ev_TT X).1 309 871 = i_psh (.int (1)) 872 := (congrFun tt_L_law 871).trans rfl
theorem t_L_law_871 {X : ev_E} {st : List Value} {lo : List Value} {h : ev_M} {n q : Nat} {P : ev_O → ev_M → Nat → Nat → Prop} : ev_ok (ev_TT X) 309 871 lo st h n q P ↔ ev_ok (ev_TT X) 309 872 lo ((.int (1)) :: st) h n q P := ev_go (congrFun (e_L_law_871 (X := X)) _)
set_option maxRecDepth 100000 in
theorem e_L_law_872 {X : ev_E} : (ev_TT X).1 309 872 = i_ii (fun a b => a + b) 873 := (congrFun tt_L_law 872).trans rfl
theorem t_L_law_872 {X : ev_E} {x y : Int32} {st : List Value} {lo : List Value} {h : ev_M} {n q : Nat} {P : ev_O → ev_M → Nat → Nat → Prop} : ev_ok (ev_TT X) 309 872 lo (.int y :: .int x :: st) h n q P ↔ ev_ok (ev_TT X) 309 873 lo (.int (x + y) :: st) h n q P := ev_go (congrFun (e_L_law_872 (X := X)) _)
set_option maxRecDepth 100000 in
theorem e_L_law_873 {X : ev_E} : (ev_TT X).1 309 873 = i_ald X ev_tI 874 := (congrFun tt_L_law 873).trans rfl
theorem t_L_law_873 {X : ev_E} {i : Int32} {x : Nat} {st : List Value} {lo : List Value} {h : ev_M} {n q : Nat} {P : ev_O → ev_M → Nat → Nat → Prop} : ev_ok (ev_TT X) 309 873 lo (.int i :: .ref x :: st) h n q P ↔ ev_inA (ev_lk X h x) i ev_tI ∧ ev_ok (ev_TT X) 309 874 lo (ev_aG (ev_lk X h x) i :: st) h n q P := ev_goG (congrFun (e_L_law_873 (X := X)) _)
set_option maxRecDepth 100000 in
theorem e_L_law_874 {X : ev_E} : (ev_TT X).1 309 874 = i_al 0 875 := (congrFun tt_L_law 874).trans rfl
theorem t_L_law_874 {X : ev_E} {st : List Value} {v : Nat} {a1 a2 a3 a4 a5 a6 : Value} {h : ev_M} {n q : Nat} {P : ev_O → ev_M → Nat → Nat → Prop} : ev_ok (ev_TT X) 309 874 [.ref v, a1, a2, a3, a4, a5, a6] st h n q P ↔ ev_ok (ev_TT X) 309 875 [.ref v, a1, a2, a3, a4, a5, a6] ((.ref v) :: st) h n q P := ev_go (congrFun (e_L_law_874 (X := X)) _)
set_option maxRecDepth 100000 in
theorem e_L_law_875 {X : ev_E} : (ev_TT X).1 309 875 = i_il 4 877 := (congrFun tt_L_law 875).trans rfl
theorem t_L_law_875 {X : ev_E} {st : List Value} {v : Int32} {a0 a1 a2 a3 a5 a6 : Value} {h : ev_M} {n q : Nat} {P : ev_O → ev_M → Nat → Nat → Prop} : ev_ok (ev_TT X) 309 875 [a0, a1, a2, a3, .int v, a5, a6] st h n q P ↔ ev_ok (ev_TT X) 309 877 [a0, a1, a2, a3, .int v, a5, a6] ((.int v) :: st) h n q P := ev_go (congrFun (e_L_law_875 (X := X)) _)
set_option maxRecDepth 100000 in
theorem e_L_law_877 {X : ev_E} : (ev_TT X).1 309 877 = i_psh (.int (2)) 878 := (congrFun tt_L_law 877).trans rfl
theorem t_L_law_877 {X : ev_E} {st : List Value} {lo : List Value} {h : ev_M} {n q : Nat} {P : ev_O → ev_M → Nat → Nat → Prop} : ev_ok (ev_TT X) 309 877 lo st h n q P ↔ ev_ok (ev_TT X) 309 878 lo ((.int (2)) :: st) h n q P := ev_go (congrFun (e_L_law_877 (X := X)) _)
set_option maxRecDepth 100000 in
theorem e_L_law_878 {X : ev_E} : (ev_TT X).1 309 878 = i_ii (fun a b => a + b) 879 := (congrFun tt_L_law 878).trans rfl
theorem t_L_law_878 {X : ev_E} {x y : Int32} {st : List Value} {lo : List Value} {h : ev_M} {n q : Nat} {P : ev_O → ev_M → Nat → Nat → Prop} : ev_ok (ev_TT X) 309 878 lo (.int y :: .int x :: st) h n q P ↔ ev_ok (ev_TT X) 309 879 lo (.int (x + y) :: st) h n q P := ev_go (congrFun (e_L_law_878 (X := X)) _)
set_option maxRecDepth 100000 in
theorem e_L_law_879 {X : ev_E} : (ev_TT X).1 309 879 = i_ald X ev_tI 880 := (congrFun tt_L_law 879).trans rfl
theorem t_L_law_879 {X : ev_E} {i : Int32} {x : Nat} {st : List Value} {lo : List Value} {h : ev_M} {n q : Nat} {P : ev_O → ev_M → Nat → Nat → Prop} : ev_ok (ev_TT X) 309 879 lo (.int i :: .ref x :: st) h n q P ↔ ev_inA (ev_lk X h x) i ev_tI ∧ ev_ok (ev_TT X) 309 880 lo (ev_aG (ev_lk X h x) i :: st) h n q P := ev_goG (congrFun (e_L_law_879 (X := X)) _)
set_option maxRecDepth 100000 in
theorem e_L_law_880 {X : ev_E} : (ev_TT X).1 309 880 = i_cV X 238 2 13 3 883 := (congrFun tt_L_law 880).trans rfl
theorem t_L_law_880 {X : ev_E} {x : Nat} {y1 : Int32} {y0 : Int32} {lo : List Value} {h : ev_M} {n q : Nat} {P : ev_O → ev_M → Nat → Nat → Prop} : ev_ok (ev_TT X) 309 880 lo [.int y1, .int y0, .ref x] h n q P ↔ ev_isK (ev_lk X h x) 13 ∧ ev_ok (ev_TT X) 238 0 [.ref x, .int y0, .int y1] [] h n q (ev_kr (ev_TT X) 309 880 883 lo [] P) := (ev_caG (congrFun (e_L_law_880 (X := X)) _)).trans (and_congr_left' ⟨fun k => k.1, fun k => ⟨k, rfl, Or.inl (Nat.le_of_ble_eq_true rfl), Nat.le_of_ble_eq_true rfl⟩⟩)
theorem x_L_law_880 {X : ev_E} {lo st : List Value} {h : ev_M} {n q : Nat} {P : ev_O → ev_M → Nat → Nat → Prop} {E : Nat} : ev_kr (ev_TT X) 309 880 883 lo st P (.inr E) h n q ↔ P (.inr E) h n q := ev_kr_x rfl
set_option maxRecDepth 100000 in
theorem e_L_law_883 {X : ev_E} : (ev_TT X).1 309 883 = i_is 6 885 := (congrFun tt_L_law 883).trans rfl
theorem t_L_law_883 {X : ev_E} {st : List Value} {v : Int32} {a0 a1 a2 a3 a4 a5 a6 : Value} {h : ev_M} {n q : Nat} {P : ev_O → ev_M → Nat → Nat → Prop} : ev_ok (ev_TT X) 309 883 [a0, a1, a2, a3, a4, a5, a6] ((.int v) :: st) h n q P ↔ ev_ok (ev_TT X) 309 885 [a0, a1, a2, a3, a4, ev_k a5, .int v] st h n q P := ev_go (congrFun (e_L_law_883 (X := X)) _)
set_option maxRecDepth 100000 in
theorem e_L_law_885 {X : ev_E} : (ev_TT X).1 309 885 = i_goto 1713 := (congrFun tt_L_law 885).trans rfl
theorem t_L_law_885 {X : ev_E} {st : List Value} {lo : List Value} {h : ev_M} {n q : Nat} {P : ev_O → ev_M → Nat → Nat → Prop} : ev_ok (ev_TT X) 309 885 lo st h n q P ↔ ev_ok (ev_TT X) 309 1713 lo st h n q P := ev_go (congrFun (e_L_law_885 (X := X)) _)
set_option maxRecDepth 100000 in
theorem e_L_law_888 {X : ev_E} : (ev_TT X).1 309 888 = i_al 1 889 := (congrFun tt_L_law 888).trans rfl
theorem t_L_law_888 {X : ev_E} {st : List Value} {v : Nat} {a0 a2 a3 a4 a5 a6 : Value} {h : ev_M} {n q : Nat} {P : ev_O → ev_M → Nat → Nat → Prop} : ev_ok (ev_TT X) 309 888 [a0, .ref v, a2, a3, a4, a5, a6] st h n q P ↔ ev_ok (ev_TT X) 309 889 [a0, .ref v, a2, a3, a4, a5, a6] ((.ref v) :: st) h n q P := ev_go (congrFun (e_L_law_888 (X := X)) _)
set_option maxRecDepth 100000 in
theorem e_L_law_889 {X : ev_E} : (ev_TT X).1 309 889 = i_al 0 890 := (congrFun tt_L_law 889).trans rfl
theorem t_L_law_889 {X : ev_E} {st : List Value} {v : Nat} {a1 a2 a3 a4 a5 a6 : Value} {h : ev_M} {n q : Nat} {P : ev_O → ev_M → Nat → Nat → Prop} : ev_ok (ev_TT X) 309 889 [.ref v, a1, a2, a3, a4, a5, a6] st h n q P ↔ ev_ok (ev_TT X) 309 890 [.ref v, a1, a2, a3, a4, a5, a6] ((.ref v) :: st) h n q P := ev_go (congrFun (e_L_law_889 (X := X)) _)
set_option maxRecDepth 100000 in
theorem e_L_law_890 {X : ev_E} : (ev_TT X).1 309 890 = i_il 4 892 := (congrFun tt_L_law 890).trans rfl
theorem t_L_law_890 {X : ev_E} {st : List Value} {v : Int32} {a0 a1 a2 a3 a5 a6 : Value} {h : ev_M} {n q : Nat} {P : ev_O → ev_M → Nat → Nat → Prop} : ev_ok (ev_TT X) 309 890 [a0, a1, a2, a3, .int v, a5, a6] st h n q P ↔ ev_ok (ev_TT X) 309 892 [a0, a1, a2, a3, .int v, a5, a6] ((.int v) :: st) h n q P := ev_go (congrFun (e_L_law_890 (X := X)) _)
set_option maxRecDepth 100000 in
theorem e_L_law_892 {X : ev_E} : (ev_TT X).1 309 892 = i_psh (.int (1)) 893 := (congrFun tt_L_law 892).trans rfl
theorem t_L_law_892 {X : ev_E} {st : List Value} {lo : List Value} {h : ev_M} {n q : Nat} {P : ev_O → ev_M → Nat → Nat → Prop} : ev_ok (ev_TT X) 309 892 lo st h n q P ↔ ev_ok (ev_TT X) 309 893 lo ((.int (1)) :: st) h n q P := ev_go (congrFun (e_L_law_892 (X := X)) _)
set_option maxRecDepth 100000 in
theorem e_L_law_893 {X : ev_E} : (ev_TT X).1 309 893 = i_ii (fun a b => a + b) 894 := (congrFun tt_L_law 893).trans rfl
theorem t_L_law_893 {X : ev_E} {x y : Int32} {st : List Value} {lo : List Value} {h : ev_M} {n q : Nat} {P : ev_O → ev_M → Nat → Nat → Prop} : ev_ok (ev_TT X) 309 893 lo (.int y :: .int x :: st) h n q P ↔ ev_ok (ev_TT X) 309 894 lo (.int (x + y) :: st) h n q P := ev_go (congrFun (e_L_law_893 (X := X)) _)
set_option maxRecDepth 100000 in
theorem e_L_law_894 {X : ev_E} : (ev_TT X).1 309 894 = i_ald X ev_tI 895 := (congrFun tt_L_law 894).trans rfl
theorem t_L_law_894 {X : ev_E} {i : Int32} {x : Nat} {st : List Value} {lo : List Value} {h : ev_M} {n q : Nat} {P : ev_O → ev_M → Nat → Nat → Prop} : ev_ok (ev_TT X) 309 894 lo (.int i :: .ref x :: st) h n q P ↔ ev_inA (ev_lk X h x) i ev_tI ∧ ev_ok (ev_TT X) 309 895 lo (ev_aG (ev_lk X h x) i :: st) h n q P := ev_goG (congrFun (e_L_law_894 (X := X)) _)
set_option maxRecDepth 100000 in
theorem e_L_law_895 {X : ev_E} : (ev_TT X).1 309 895 = i_al 3 896 := (congrFun tt_L_law 895).trans rfl
theorem t_L_law_895 {X : ev_E} {st : List Value} {v : Nat} {a0 a1 a2 a4 a5 a6 : Value} {h : ev_M} {n q : Nat} {P : ev_O → ev_M → Nat → Nat → Prop} : ev_ok (ev_TT X) 309 895 [a0, a1, a2, .ref v, a4, a5, a6] st h n q P ↔ ev_ok (ev_TT X) 309 896 [a0, a1, a2, .ref v, a4, a5, a6] ((.ref v) :: st) h n q P := ev_go (congrFun (e_L_law_895 (X := X)) _)
set_option maxRecDepth 100000 in
theorem e_L_law_896 {X : ev_E} : (ev_TT X).1 309 896 = i_cS 181 3 4 899 := (congrFun tt_L_law 896).trans rfl
theorem t_L_law_896 {X : ev_E} {y2 : Nat} {y1 : Int32} {y0 : Nat} {lo : List Value} {h : ev_M} {n q : Nat} {P : ev_O → ev_M → Nat → Nat → Prop} : ev_ok (ev_TT X) 309 896 lo [.ref y2, .int y1, .ref y0] h n q P ↔ ev_ok (ev_TT X) 181 0 [.ref y0, .int y1, .ref y2, ev_J] [] h n q (ev_kr (ev_TT X) 309 896 899 lo [] P) := (ev_caG (congrFun (e_L_law_896 (X := X)) _)).trans ⟨fun k => k.2, fun k => ⟨⟨rfl, Nat.le_of_ble_eq_true rfl, Nat.le_of_ble_eq_true rfl⟩, k⟩⟩
set_option maxRecDepth 100000 in
theorem e_L_law_899 {X : ev_E} : (ev_TT X).1 309 899 = i_is 5 901 := (congrFun tt_L_law 899).trans rfl
theorem t_L_law_899 {X : ev_E} {st : List Value} {v : Int32} {a0 a1 a2 a3 a4 a5 a6 : Value} {h : ev_M} {n q : Nat} {P : ev_O → ev_M → Nat → Nat → Prop} : ev_ok (ev_TT X) 309 899 [a0, a1, a2, a3, a4, a5, a6] ((.int v) :: st) h n q P ↔ ev_ok (ev_TT X) 309 901 [a0, a1, a2, a3, ev_k a4, .int v, a6] st h n q P := ev_go (congrFun (e_L_law_899 (X := X)) _)
set_option maxRecDepth 100000 in
theorem e_L_law_901 {X : ev_E} : (ev_TT X).1 309 901 = i_al 2 902 := (congrFun tt_L_law 901).trans rfl
theorem t_L_law_901 {X : ev_E} {st : List Value} {v : Nat} {a0 a1 a3 a4 a5 a6 : Value} {h : ev_M} {n q : Nat} {P : ev_O → ev_M → Nat → Nat → Prop} : ev_ok (ev_TT X) 309 901 [a0, a1, .ref v, a3, a4, a5, a6] st h n q P ↔ ev_ok (ev_TT X) 309 902 [a0, a1, .ref v, a3, a4, a5, a6] ((.ref v) :: st) h n q P := ev_go (congrFun (e_L_law_901 (X := X)) _)
set_option maxRecDepth 100000 in
theorem e_L_law_902 {X : ev_E} : (ev_TT X).1 309 902 = i_al 0 903 := (congrFun tt_L_law 902).trans rfl
theorem t_L_law_902 {X : ev_E} {st : List Value} {v : Nat} {a1 a2 a3 a4 a5 a6 : Value} {h : ev_M} {n q : Nat} {P : ev_O → ev_M → Nat → Nat → Prop} : ev_ok (ev_TT X) 309 902 [.ref v, a1, a2, a3, a4, a5, a6] st h n q P ↔ ev_ok (ev_TT X) 309 903 [.ref v, a1, a2, a3, a4, a5, a6] ((.ref v) :: st) h n q P := ev_go (congrFun (e_L_law_902 (X := X)) _)
set_option maxRecDepth 100000 in
theorem e_L_law_903 {X : ev_E} : (ev_TT X).1 309 903 = i_il 4 905 := (congrFun tt_L_law 903).trans rfl
theorem t_L_law_903 {X : ev_E} {st : List Value} {v : Int32} {a0 a1 a2 a3 a5 a6 : Value} {h : ev_M} {n q : Nat} {P : ev_O → ev_M → Nat → Nat → Prop} : ev_ok (ev_TT X) 309 903 [a0, a1, a2, a3, .int v, a5, a6] st h n q P ↔ ev_ok (ev_TT X) 309 905 [a0, a1, a2, a3, .int v, a5, a6] ((.int v) :: st) h n q P := ev_go (congrFun (e_L_law_903 (X := X)) _)
set_option maxRecDepth 100000 in
theorem e_L_law_905 {X : ev_E} : (ev_TT X).1 309 905 = i_psh (.int (1)) 906 := (congrFun tt_L_law 905).trans rfl
theorem t_L_law_905 {X : ev_E} {st : List Value} {lo : List Value} {h : ev_M} {n q : Nat} {P : ev_O → ev_M → Nat → Nat → Prop} : ev_ok (ev_TT X) 309 905 lo st h n q P ↔ ev_ok (ev_TT X) 309 906 lo ((.int (1)) :: st) h n q P := ev_go (congrFun (e_L_law_905 (X := X)) _)
set_option maxRecDepth 100000 in
theorem e_L_law_906 {X : ev_E} : (ev_TT X).1 309 906 = i_ii (fun a b => a + b) 907 := (congrFun tt_L_law 906).trans rfl
theorem t_L_law_906 {X : ev_E} {x y : Int32} {st : List Value} {lo : List Value} {h : ev_M} {n q : Nat} {P : ev_O → ev_M → Nat → Nat → Prop} : ev_ok (ev_TT X) 309 906 lo (.int y :: .int x :: st) h n q P ↔ ev_ok (ev_TT X) 309 907 lo (.int (x + y) :: st) h n q P := ev_go (congrFun (e_L_law_906 (X := X)) _)
set_option maxRecDepth 100000 in
theorem e_L_law_907 {X : ev_E} : (ev_TT X).1 309 907 = i_ald X ev_tI 908 := (congrFun tt_L_law 907).trans rfl
theorem t_L_law_907 {X : ev_E} {i : Int32} {x : Nat} {st : List Value} {lo : List Value} {h : ev_M} {n q : Nat} {P : ev_O → ev_M → Nat → Nat → Prop} : ev_ok (ev_TT X) 309 907 lo (.int i :: .ref x :: st) h n q P ↔ ev_inA (ev_lk X h x) i ev_tI ∧ ev_ok (ev_TT X) 309 908 lo (ev_aG (ev_lk X h x) i :: st) h n q P := ev_goG (congrFun (e_L_law_907 (X := X)) _)
set_option maxRecDepth 100000 in
theorem e_L_law_908 {X : ev_E} : (ev_TT X).1 309 908 = i_cV X 232 1 13 2 911 := (congrFun tt_L_law 908).trans rfl
theorem t_L_law_908 {X : ev_E} {x : Nat} {y0 : Int32} {lo : List Value} {h : ev_M} {n q : Nat} {P : ev_O → ev_M → Nat → Nat → Prop} : ev_ok (ev_TT X) 309 908 lo [.int y0, .ref x] h n q P ↔ ev_isK (ev_lk X h x) 13 ∧ ev_ok (ev_TT X) 232 0 [.ref x, .int y0] [] h n q (ev_kr (ev_TT X) 309 908 911 lo [] P) := (ev_caG (congrFun (e_L_law_908 (X := X)) _)).trans (and_congr_left' ⟨fun k => k.1, fun k => ⟨k, rfl, Or.inl (Nat.le_of_ble_eq_true rfl), Nat.le_of_ble_eq_true rfl⟩⟩)
theorem x_L_law_908 {X : ev_E} {lo st : List Value} {h : ev_M} {n q : Nat} {P : ev_O → ev_M → Nat → Nat → Prop} {E : Nat} : ev_kr (ev_TT X) 309 908 911 lo st P (.inr E) h n q ↔ P (.inr E) h n q := ev_kr_x rfl
set_option maxRecDepth 100000 in
theorem e_L_law_911 {X : ev_E} : (ev_TT X).1 309 911 = i_is 6 913 := (congrFun tt_L_law 911).trans rfl
theorem t_L_law_911 {X : ev_E} {st : List Value} {v : Int32} {a0 a1 a2 a3 a4 a5 a6 : Value} {h : ev_M} {n q : Nat} {P : ev_O → ev_M → Nat → Nat → Prop} : ev_ok (ev_TT X) 309 911 [a0, a1, a2, a3, a4, a5, a6] ((.int v) :: st) h n q P ↔ ev_ok (ev_TT X) 309 913 [a0, a1, a2, a3, a4, ev_k a5, .int v] st h n q P := ev_go (congrFun (e_L_law_911 (X := X)) _)
set_option maxRecDepth 100000 in
theorem e_L_law_913 {X : ev_E} : (ev_TT X).1 309 913 = i_goto 1713 := (congrFun tt_L_law 913).trans rfl
theorem t_L_law_913 {X : ev_E} {st : List Value} {lo : List Value} {h : ev_M} {n q : Nat} {P : ev_O → ev_M → Nat → Nat → Prop} : ev_ok (ev_TT X) 309 913 lo st h n q P ↔ ev_ok (ev_TT X) 309 1713 lo st h n q P := ev_go (congrFun (e_L_law_913 (X := X)) _)
set_option maxRecDepth 100000 in
theorem e_L_law_916 {X : ev_E} : (ev_TT X).1 309 916 = i_al 1 917 := (congrFun tt_L_law 916).trans rfl
theorem t_L_law_916 {X : ev_E} {st : List Value} {v : Nat} {a0 a2 a3 a4 a5 a6 : Value} {h : ev_M} {n q : Nat} {P : ev_O → ev_M → Nat → Nat → Prop} : ev_ok (ev_TT X) 309 916 [a0, .ref v, a2, a3, a4, a5, a6] st h n q P ↔ ev_ok (ev_TT X) 309 917 [a0, .ref v, a2, a3, a4, a5, a6] ((.ref v) :: st) h n q P := ev_go (congrFun (e_L_law_916 (X := X)) _)
set_option maxRecDepth 100000 in
theorem e_L_law_917 {X : ev_E} : (ev_TT X).1 309 917 = i_al 0 918 := (congrFun tt_L_law 917).trans rfl
theorem t_L_law_917 {X : ev_E} {st : List Value} {v : Nat} {a1 a2 a3 a4 a5 a6 : Value} {h : ev_M} {n q : Nat} {P : ev_O → ev_M → Nat → Nat → Prop} : ev_ok (ev_TT X) 309 917 [.ref v, a1, a2, a3, a4, a5, a6] st h n q P ↔ ev_ok (ev_TT X) 309 918 [.ref v, a1, a2, a3, a4, a5, a6] ((.ref v) :: st) h n q P := ev_go (congrFun (e_L_law_917 (X := X)) _)
set_option maxRecDepth 100000 in
theorem e_L_law_918 {X : ev_E} : (ev_TT X).1 309 918 = i_il 4 920 := (congrFun tt_L_law 918).trans rfl
theorem t_L_law_918 {X : ev_E} {st : List Value} {v : Int32} {a0 a1 a2 a3 a5 a6 : Value} {h : ev_M} {n q : Nat} {P : ev_O → ev_M → Nat → Nat → Prop} : ev_ok (ev_TT X) 309 918 [a0, a1, a2, a3, .int v, a5, a6] st h n q P ↔ ev_ok (ev_TT X) 309 920 [a0, a1, a2, a3, .int v, a5, a6] ((.int v) :: st) h n q P := ev_go (congrFun (e_L_law_918 (X := X)) _)
set_option maxRecDepth 100000 in
theorem e_L_law_920 {X : ev_E} : (ev_TT X).1 309 920 = i_psh (.int (1)) 921 := (congrFun tt_L_law 920).trans rfl
theorem t_L_law_920 {X : ev_E} {st : List Value} {lo : List Value} {h : ev_M} {n q : Nat} {P : ev_O → ev_M → Nat → Nat → Prop} : ev_ok (ev_TT X) 309 920 lo st h n q P ↔ ev_ok (ev_TT X) 309 921 lo ((.int (1)) :: st) h n q P := ev_go (congrFun (e_L_law_920 (X := X)) _)
set_option maxRecDepth 100000 in
theorem e_L_law_921 {X : ev_E} : (ev_TT X).1 309 921 = i_ii (fun a b => a + b) 922 := (congrFun tt_L_law 921).trans rfl
theorem t_L_law_921 {X : ev_E} {x y : Int32} {st : List Value} {lo : List Value} {h : ev_M} {n q : Nat} {P : ev_O → ev_M → Nat → Nat → Prop} : ev_ok (ev_TT X) 309 921 lo (.int y :: .int x :: st) h n q P ↔ ev_ok (ev_TT X) 309 922 lo (.int (x + y) :: st) h n q P := ev_go (congrFun (e_L_law_921 (X := X)) _)
set_option maxRecDepth 100000 in
theorem e_L_law_922 {X : ev_E} : (ev_TT X).1 309 922 = i_ald X ev_tI 923 := (congrFun tt_L_law 922).trans rfl
theorem t_L_law_922 {X : ev_E} {i : Int32} {x : Nat} {st : List Value} {lo : List Value} {h : ev_M} {n q : Nat} {P : ev_O → ev_M → Nat → Nat → Prop} : ev_ok (ev_TT X) 309 922 lo (.int i :: .ref x :: st) h n q P ↔ ev_inA (ev_lk X h x) i ev_tI ∧ ev_ok (ev_TT X) 309 923 lo (ev_aG (ev_lk X h x) i :: st) h n q P := ev_goG (congrFun (e_L_law_922 (X := X)) _)
set_option maxRecDepth 100000 in
theorem e_L_law_923 {X : ev_E} : (ev_TT X).1 309 923 = i_al 3 924 := (congrFun tt_L_law 923).trans rfl
theorem t_L_law_923 {X : ev_E} {st : List Value} {v : Nat} {a0 a1 a2 a4 a5 a6 : Value} {h : ev_M} {n q : Nat} {P : ev_O → ev_M → Nat → Nat → Prop} : ev_ok (ev_TT X) 309 923 [a0, a1, a2, .ref v, a4, a5, a6] st h n q P ↔ ev_ok (ev_TT X) 309 924 [a0, a1, a2, .ref v, a4, a5, a6] ((.ref v) :: st) h n q P := ev_go (congrFun (e_L_law_923 (X := X)) _)
set_option maxRecDepth 100000 in
theorem e_L_law_924 {X : ev_E} : (ev_TT X).1 309 924 = i_cS 186 3 4 927 := (congrFun tt_L_law 924).trans rfl
theorem t_L_law_924 {X : ev_E} {y2 : Nat} {y1 : Int32} {y0 : Nat} {lo : List Value} {h : ev_M} {n q : Nat} {P : ev_O → ev_M → Nat → Nat → Prop} : ev_ok (ev_TT X) 309 924 lo [.ref y2, .int y1, .ref y0] h n q P ↔ ev_ok (ev_TT X) 186 0 [.ref y0, .int y1, .ref y2, ev_J] [] h n q (ev_kr (ev_TT X) 309 924 927 lo [] P) := (ev_caG (congrFun (e_L_law_924 (X := X)) _)).trans ⟨fun k => k.2, fun k => ⟨⟨rfl, Nat.le_of_ble_eq_true rfl, Nat.le_of_ble_eq_true rfl⟩, k⟩⟩
set_option maxRecDepth 100000 in
theorem e_L_law_927 {X : ev_E} : (ev_TT X).1 309 927 = i_is 5 929 := (congrFun tt_L_law 927).trans rfl
theorem t_L_law_927 {X : ev_E} {st : List Value} {v : Int32} {a0 a1 a2 a3 a4 a5 a6 : Value} {h : ev_M} {n q : Nat} {P : ev_O → ev_M → Nat → Nat → Prop} : ev_ok (ev_TT X) 309 927 [a0, a1, a2, a3, a4, a5, a6] ((.int v) :: st) h n q P ↔ ev_ok (ev_TT X) 309 929 [a0, a1, a2, a3, ev_k a4, .int v, a6] st h n q P := ev_go (congrFun (e_L_law_927 (X := X)) _)
set_option maxRecDepth 100000 in
theorem e_L_law_929 {X : ev_E} : (ev_TT X).1 309 929 = i_al 2 930 := (congrFun tt_L_law 929).trans rfl
theorem t_L_law_929 {X : ev_E} {st : List Value} {v : Nat} {a0 a1 a3 a4 a5 a6 : Value} {h : ev_M} {n q : Nat} {P : ev_O → ev_M → Nat → Nat → Prop} : ev_ok (ev_TT X) 309 929 [a0, a1, .ref v, a3, a4, a5, a6] st h n q P ↔ ev_ok (ev_TT X) 309 930 [a0, a1, .ref v, a3, a4, a5, a6] ((.ref v) :: st) h n q P := ev_go (congrFun (e_L_law_929 (X := X)) _)
set_option maxRecDepth 100000 in
theorem e_L_law_930 {X : ev_E} : (ev_TT X).1 309 930 = i_al 0 931 := (congrFun tt_L_law 930).trans rfl
theorem t_L_law_930 {X : ev_E} {st : List Value} {v : Nat} {a1 a2 a3 a4 a5 a6 : Value} {h : ev_M} {n q : Nat} {P : ev_O → ev_M → Nat → Nat → Prop} : ev_ok (ev_TT X) 309 930 [.ref v, a1, a2, a3, a4, a5, a6] st h n q P ↔ ev_ok (ev_TT X) 309 931 [.ref v, a1, a2, a3, a4, a5, a6] ((.ref v) :: st) h n q P := ev_go (congrFun (e_L_law_930 (X := X)) _)
set_option maxRecDepth 100000 in
theorem e_L_law_931 {X : ev_E} : (ev_TT X).1 309 931 = i_il 4 933 := (congrFun tt_L_law 931).trans rfl
theorem t_L_law_931 {X : ev_E} {st : List Value} {v : Int32} {a0 a1 a2 a3 a5 a6 : Value} {h : ev_M} {n q : Nat} {P : ev_O → ev_M → Nat → Nat → Prop} : ev_ok (ev_TT X) 309 931 [a0, a1, a2, a3, .int v, a5, a6] st h n q P ↔ ev_ok (ev_TT X) 309 933 [a0, a1, a2, a3, .int v, a5, a6] ((.int v) :: st) h n q P := ev_go (congrFun (e_L_law_931 (X := X)) _)
set_option maxRecDepth 100000 in
theorem e_L_law_933 {X : ev_E} : (ev_TT X).1 309 933 = i_psh (.int (1)) 934 := (congrFun tt_L_law 933).trans rfl
theorem t_L_law_933 {X : ev_E} {st : List Value} {lo : List Value} {h : ev_M} {n q : Nat} {P : ev_O → ev_M → Nat → Nat → Prop} : ev_ok (ev_TT X) 309 933 lo st h n q P ↔ ev_ok (ev_TT X) 309 934 lo ((.int (1)) :: st) h n q P := ev_go (congrFun (e_L_law_933 (X := X)) _)
set_option maxRecDepth 100000 in
theorem e_L_law_934 {X : ev_E} : (ev_TT X).1 309 934 = i_ii (fun a b => a + b) 935 := (congrFun tt_L_law 934).trans rfl
theorem t_L_law_934 {X : ev_E} {x y : Int32} {st : List Value} {lo : List Value} {h : ev_M} {n q : Nat} {P : ev_O → ev_M → Nat → Nat → Prop} : ev_ok (ev_TT X) 309 934 lo (.int y :: .int x :: st) h n q P ↔ ev_ok (ev_TT X) 309 935 lo (.int (x + y) :: st) h n q P := ev_go (congrFun (e_L_law_934 (X := X)) _)
set_option maxRecDepth 100000 in
theorem e_L_law_935 {X : ev_E} : (ev_TT X).1 309 935 = i_ald X ev_tI 936 := (congrFun tt_L_law 935).trans rfl
theorem t_L_law_935 {X : ev_E} {i : Int32} {x : Nat} {st : List Value} {lo : List Value} {h : ev_M} {n q : Nat} {P : ev_O → ev_M → Nat → Nat → Prop} : ev_ok (ev_TT X) 309 935 lo (.int i :: .ref x :: st) h n q P ↔ ev_inA (ev_lk X h x) i ev_tI ∧ ev_ok (ev_TT X) 309 936 lo (ev_aG (ev_lk X h x) i :: st) h n q P := ev_goG (congrFun (e_L_law_935 (X := X)) _)
set_option maxRecDepth 100000 in
theorem e_L_law_936 {X : ev_E} : (ev_TT X).1 309 936 = i_cV X 236 1 13 2 939 := (congrFun tt_L_law 936).trans rfl
theorem t_L_law_936 {X : ev_E} {x : Nat} {y0 : Int32} {lo : List Value} {h : ev_M} {n q : Nat} {P : ev_O → ev_M → Nat → Nat → Prop} : ev_ok (ev_TT X) 309 936 lo [.int y0, .ref x] h n q P ↔ ev_isK (ev_lk X h x) 13 ∧ ev_ok (ev_TT X) 236 0 [.ref x, .int y0] [] h n q (ev_kr (ev_TT X) 309 936 939 lo [] P) := (ev_caG (congrFun (e_L_law_936 (X := X)) _)).trans (and_congr_left' ⟨fun k => k.1, fun k => ⟨k, rfl, Or.inl (Nat.le_of_ble_eq_true rfl), Nat.le_of_ble_eq_true rfl⟩⟩)
theorem x_L_law_936 {X : ev_E} {lo st : List Value} {h : ev_M} {n q : Nat} {P : ev_O → ev_M → Nat → Nat → Prop} {E : Nat} : ev_kr (ev_TT X) 309 936 939 lo st P (.inr E) h n q ↔ P (.inr E) h n q := ev_kr_x rfl
set_option maxRecDepth 100000 in
theorem e_L_law_939 {X : ev_E} : (ev_TT X).1 309 939 = i_is 6 941 := (congrFun tt_L_law 939).trans rfl
theorem t_L_law_939 {X : ev_E} {st : List Value} {v : Int32} {a0 a1 a2 a3 a4 a5 a6 : Value} {h : ev_M} {n q : Nat} {P : ev_O → ev_M → Nat → Nat → Prop} : ev_ok (ev_TT X) 309 939 [a0, a1, a2, a3, a4, a5, a6] ((.int v) :: st) h n q P ↔ ev_ok (ev_TT X) 309 941 [a0, a1, a2, a3, a4, ev_k a5, .int v] st h n q P := ev_go (congrFun (e_L_law_939 (X := X)) _)
set_option maxRecDepth 100000 in
theorem e_L_law_941 {X : ev_E} : (ev_TT X).1 309 941 = i_goto 1713 := (congrFun tt_L_law 941).trans rfl
theorem t_L_law_941 {X : ev_E} {st : List Value} {lo : List Value} {h : ev_M} {n q : Nat} {P : ev_O → ev_M → Nat → Nat → Prop} : ev_ok (ev_TT X) 309 941 lo st h n q P ↔ ev_ok (ev_TT X) 309 1713 lo st h n q P := ev_go (congrFun (e_L_law_941 (X := X)) _)
set_option maxRecDepth 100000 in
theorem e_L_law_944 {X : ev_E} : (ev_TT X).1 309 944 = i_al 1 945 := (congrFun tt_L_law 944).trans rfl
theorem t_L_law_944 {X : ev_E} {st : List Value} {v : Nat} {a0 a2 a3 a4 a5 a6 : Value} {h : ev_M} {n q : Nat} {P : ev_O → ev_M → Nat → Nat → Prop} : ev_ok (ev_TT X) 309 944 [a0, .ref v, a2, a3, a4, a5, a6] st h n q P ↔ ev_ok (ev_TT X) 309 945 [a0, .ref v, a2, a3, a4, a5, a6] ((.ref v) :: st) h n q P := ev_go (congrFun (e_L_law_944 (X := X)) _)
set_option maxRecDepth 100000 in
theorem e_L_law_945 {X : ev_E} : (ev_TT X).1 309 945 = i_al 0 946 := (congrFun tt_L_law 945).trans rfl
theorem t_L_law_945 {X : ev_E} {st : List Value} {v : Nat} {a1 a2 a3 a4 a5 a6 : Value} {h : ev_M} {n q : Nat} {P : ev_O → ev_M → Nat → Nat → Prop} : ev_ok (ev_TT X) 309 945 [.ref v, a1, a2, a3, a4, a5, a6] st h n q P ↔ ev_ok (ev_TT X) 309 946 [.ref v, a1, a2, a3, a4, a5, a6] ((.ref v) :: st) h n q P := ev_go (congrFun (e_L_law_945 (X := X)) _)
set_option maxRecDepth 100000 in
theorem e_L_law_946 {X : ev_E} : (ev_TT X).1 309 946 = i_il 4 948 := (congrFun tt_L_law 946).trans rfl
theorem t_L_law_946 {X : ev_E} {st : List Value} {v : Int32} {a0 a1 a2 a3 a5 a6 : Value} {h : ev_M} {n q : Nat} {P : ev_O → ev_M → Nat → Nat → Prop} : ev_ok (ev_TT X) 309 946 [a0, a1, a2, a3, .int v, a5, a6] st h n q P ↔ ev_ok (ev_TT X) 309 948 [a0, a1, a2, a3, .int v, a5, a6] ((.int v) :: st) h n q P := ev_go (congrFun (e_L_law_946 (X := X)) _)
set_option maxRecDepth 100000 in
theorem e_L_law_948 {X : ev_E} : (ev_TT X).1 309 948 = i_psh (.int (1)) 949 := (congrFun tt_L_law 948).trans rfl
theorem t_L_law_948 {X : ev_E} {st : List Value} {lo : List Value} {h : ev_M} {n q : Nat} {P : ev_O → ev_M → Nat → Nat → Prop} : ev_ok (ev_TT X) 309 948 lo st h n q P ↔ ev_ok (ev_TT X) 309 949 lo ((.int (1)) :: st) h n q P := ev_go (congrFun (e_L_law_948 (X := X)) _)
set_option maxRecDepth 100000 in
theorem e_L_law_949 {X : ev_E} : (ev_TT X).1 309 949 = i_ii (fun a b => a + b) 950 := (congrFun tt_L_law 949).trans rfl
theorem t_L_law_949 {X : ev_E} {x y : Int32} {st : List Value} {lo : List Value} {h : ev_M} {n q : Nat} {P : ev_O → ev_M → Nat → Nat → Prop} : ev_ok (ev_TT X) 309 949 lo (.int y :: .int x :: st) h n q P ↔ ev_ok (ev_TT X) 309 950 lo (.int (x + y) :: st) h n q P := ev_go (congrFun (e_L_law_949 (X := X)) _)
set_option maxRecDepth 100000 in
theorem e_L_law_950 {X : ev_E} : (ev_TT X).1 309 950 = i_ald X ev_tI 951 := (congrFun tt_L_law 950).trans rfl
theorem t_L_law_950 {X : ev_E} {i : Int32} {x : Nat} {st : List Value} {lo : List Value} {h : ev_M} {n q : Nat} {P : ev_O → ev_M → Nat → Nat → Prop} : ev_ok (ev_TT X) 309 950 lo (.int i :: .ref x :: st) h n q P ↔ ev_inA (ev_lk X h x) i ev_tI ∧ ev_ok (ev_TT X) 309 951 lo (ev_aG (ev_lk X h x) i :: st) h n q P := ev_goG (congrFun (e_L_law_950 (X := X)) _)
set_option maxRecDepth 100000 in
theorem e_L_law_951 {X : ev_E} : (ev_TT X).1 309 951 = i_al 0 952 := (congrFun tt_L_law 951).trans rfl
theorem t_L_law_951 {X : ev_E} {st : List Value} {v : Nat} {a1 a2 a3 a4 a5 a6 : Value} {h : ev_M} {n q : Nat} {P : ev_O → ev_M → Nat → Nat → Prop} : ev_ok (ev_TT X) 309 951 [.ref v, a1, a2, a3, a4, a5, a6] st h n q P ↔ ev_ok (ev_TT X) 309 952 [.ref v, a1, a2, a3, a4, a5, a6] ((.ref v) :: st) h n q P := ev_go (congrFun (e_L_law_951 (X := X)) _)
set_option maxRecDepth 100000 in
theorem e_L_law_952 {X : ev_E} : (ev_TT X).1 309 952 = i_il 4 954 := (congrFun tt_L_law 952).trans rfl
theorem t_L_law_952 {X : ev_E} {st : List Value} {v : Int32} {a0 a1 a2 a3 a5 a6 : Value} {h : ev_M} {n q : Nat} {P : ev_O → ev_M → Nat → Nat → Prop} : ev_ok (ev_TT X) 309 952 [a0, a1, a2, a3, .int v, a5, a6] st h n q P ↔ ev_ok (ev_TT X) 309 954 [a0, a1, a2, a3, .int v, a5, a6] ((.int v) :: st) h n q P := ev_go (congrFun (e_L_law_952 (X := X)) _)
set_option maxRecDepth 100000 in
theorem e_L_law_954 {X : ev_E} : (ev_TT X).1 309 954 = i_psh (.int (2)) 955 := (congrFun tt_L_law 954).trans rfl
theorem t_L_law_954 {X : ev_E} {st : List Value} {lo : List Value} {h : ev_M} {n q : Nat} {P : ev_O → ev_M → Nat → Nat → Prop} : ev_ok (ev_TT X) 309 954 lo st h n q P ↔ ev_ok (ev_TT X) 309 955 lo ((.int (2)) :: st) h n q P := ev_go (congrFun (e_L_law_954 (X := X)) _)
set_option maxRecDepth 100000 in
theorem e_L_law_955 {X : ev_E} : (ev_TT X).1 309 955 = i_ii (fun a b => a + b) 956 := (congrFun tt_L_law 955).trans rfl
theorem t_L_law_955 {X : ev_E} {x y : Int32} {st : List Value} {lo : List Value} {h : ev_M} {n q : Nat} {P : ev_O → ev_M → Nat → Nat → Prop} : ev_ok (ev_TT X) 309 955 lo (.int y :: .int x :: st) h n q P ↔ ev_ok (ev_TT X) 309 956 lo (.int (x + y) :: st) h n q P := ev_go (congrFun (e_L_law_955 (X := X)) _)
set_option maxRecDepth 100000 in
theorem e_L_law_956 {X : ev_E} : (ev_TT X).1 309 956 = i_ald X ev_tI 957 := (congrFun tt_L_law 956).trans rfl
theorem t_L_law_956 {X : ev_E} {i : Int32} {x : Nat} {st : List Value} {lo : List Value} {h : ev_M} {n q : Nat} {P : ev_O → ev_M → Nat → Nat → Prop} : ev_ok (ev_TT X) 309 956 lo (.int i :: .ref x :: st) h n q P ↔ ev_inA (ev_lk X h x) i ev_tI ∧ ev_ok (ev_TT X) 309 957 lo (ev_aG (ev_lk X h x) i :: st) h n q P := ev_goG (congrFun (e_L_law_956 (X := X)) _)
set_option maxRecDepth 100000 in
theorem e_L_law_957 {X : ev_E} : (ev_TT X).1 309 957 = i_al 3 958 := (congrFun tt_L_law 957).trans rfl
theorem t_L_law_957 {X : ev_E} {st : List Value} {v : Nat} {a0 a1 a2 a4 a5 a6 : Value} {h : ev_M} {n q : Nat} {P : ev_O → ev_M → Nat → Nat → Prop} : ev_ok (ev_TT X) 309 957 [a0, a1, a2, .ref v, a4, a5, a6] st h n q P ↔ ev_ok (ev_TT X) 309 958 [a0, a1, a2, .ref v, a4, a5, a6] ((.ref v) :: st) h n q P := ev_go (congrFun (e_L_law_957 (X := X)) _)
set_option maxRecDepth 100000 in
theorem e_L_law_958 {X : ev_E} : (ev_TT X).1 309 958 = i_cS 305 4 5 961 := (congrFun tt_L_law 958).trans rfl
theorem t_L_law_958 {X : ev_E} {y3 : Nat} {y2 : Int32} {y1 : Int32} {y0 : Nat} {lo : List Value} {h : ev_M} {n q : Nat} {P : ev_O → ev_M → Nat → Nat → Prop} : ev_ok (ev_TT X) 309 958 lo [.ref y3, .int y2, .int y1, .ref y0] h n q P ↔ ev_ok (ev_TT X) 305 0 [.ref y0, .int y1, .int y2, .ref y3, ev_J] [] h n q (ev_kr (ev_TT X) 309 958 961 lo [] P) := (ev_caG (congrFun (e_L_law_958 (X := X)) _)).trans ⟨fun k => k.2, fun k => ⟨⟨rfl, Nat.le_of_ble_eq_true rfl, Nat.le_of_ble_eq_true rfl⟩, k⟩⟩
set_option maxRecDepth 100000 in
theorem e_L_law_961 {X : ev_E} : (ev_TT X).1 309 961 = i_is 5 963 := (congrFun tt_L_law 961).trans rfl
theorem t_L_law_961 {X : ev_E} {st : List Value} {v : Int32} {a0 a1 a2 a3 a4 a5 a6 : Value} {h : ev_M} {n q : Nat} {P : ev_O → ev_M → Nat → Nat → Prop} : ev_ok (ev_TT X) 309 961 [a0, a1, a2, a3, a4, a5, a6] ((.int v) :: st) h n q P ↔ ev_ok (ev_TT X) 309 963 [a0, a1, a2, a3, ev_k a4, .int v, a6] st h n q P := ev_go (congrFun (e_L_law_961 (X := X)) _)
set_option maxRecDepth 100000 in
theorem e_L_law_963 {X : ev_E} : (ev_TT X).1 309 963 = i_al 2 964 := (congrFun tt_L_law 963).trans rfl
theorem t_L_law_963 {X : ev_E} {st : List Value} {v : Nat} {a0 a1 a3 a4 a5 a6 : Value} {h : ev_M} {n q : Nat} {P : ev_O → ev_M → Nat → Nat → Prop} : ev_ok (ev_TT X) 309 963 [a0, a1, .ref v, a3, a4, a5, a6] st h n q P ↔ ev_ok (ev_TT X) 309 964 [a0, a1, .ref v, a3, a4, a5, a6] ((.ref v) :: st) h n q P := ev_go (congrFun (e_L_law_963 (X := X)) _)
set_option maxRecDepth 100000 in
theorem e_L_law_964 {X : ev_E} : (ev_TT X).1 309 964 = i_al 0 965 := (congrFun tt_L_law 964).trans rfl
theorem t_L_law_964 {X : ev_E} {st : List Value} {v : Nat} {a1 a2 a3 a4 a5 a6 : Value} {h : ev_M} {n q : Nat} {P : ev_O → ev_M → Nat → Nat → Prop} : ev_ok (ev_TT X) 309 964 [.ref v, a1, a2, a3, a4, a5, a6] st h n q P ↔ ev_ok (ev_TT X) 309 965 [.ref v, a1, a2, a3, a4, a5, a6] ((.ref v) :: st) h n q P := ev_go (congrFun (e_L_law_964 (X := X)) _)
set_option maxRecDepth 100000 in
theorem e_L_law_965 {X : ev_E} : (ev_TT X).1 309 965 = i_il 4 967 := (congrFun tt_L_law 965).trans rfl
theorem t_L_law_965 {X : ev_E} {st : List Value} {v : Int32} {a0 a1 a2 a3 a5 a6 : Value} {h : ev_M} {n q : Nat} {P : ev_O → ev_M → Nat → Nat → Prop} : ev_ok (ev_TT X) 309 965 [a0, a1, a2, a3, .int v, a5, a6] st h n q P ↔ ev_ok (ev_TT X) 309 967 [a0, a1, a2, a3, .int v, a5, a6] ((.int v) :: st) h n q P := ev_go (congrFun (e_L_law_965 (X := X)) _)
set_option maxRecDepth 100000 in
theorem e_L_law_967 {X : ev_E} : (ev_TT X).1 309 967 = i_psh (.int (1)) 968 := (congrFun tt_L_law 967).trans rfl
theorem t_L_law_967 {X : ev_E} {st : List Value} {lo : List Value} {h : ev_M} {n q : Nat} {P : ev_O → ev_M → Nat → Nat → Prop} : ev_ok (ev_TT X) 309 967 lo st h n q P ↔ ev_ok (ev_TT X) 309 968 lo ((.int (1)) :: st) h n q P := ev_go (congrFun (e_L_law_967 (X := X)) _)
set_option maxRecDepth 100000 in
theorem e_L_law_968 {X : ev_E} : (ev_TT X).1 309 968 = i_ii (fun a b => a + b) 969 := (congrFun tt_L_law 968).trans rfl
theorem t_L_law_968 {X : ev_E} {x y : Int32} {st : List Value} {lo : List Value} {h : ev_M} {n q : Nat} {P : ev_O → ev_M → Nat → Nat → Prop} : ev_ok (ev_TT X) 309 968 lo (.int y :: .int x :: st) h n q P ↔ ev_ok (ev_TT X) 309 969 lo (.int (x + y) :: st) h n q P := ev_go (congrFun (e_L_law_968 (X := X)) _)
set_option maxRecDepth 100000 in
theorem e_L_law_969 {X : ev_E} : (ev_TT X).1 309 969 = i_ald X ev_tI 970 := (congrFun tt_L_law 969).trans rfl
theorem t_L_law_969 {X : ev_E} {i : Int32} {x : Nat} {st : List Value} {lo : List Value} {h : ev_M} {n q : Nat} {P : ev_O → ev_M → Nat → Nat → Prop} : ev_ok (ev_TT X) 309 969 lo (.int i :: .ref x :: st) h n q P ↔ ev_inA (ev_lk X h x) i ev_tI ∧ ev_ok (ev_TT X) 309 970 lo (ev_aG (ev_lk X h x) i :: st) h n q P := ev_goG (congrFun (e_L_law_969 (X := X)) _)
set_option maxRecDepth 100000 in
theorem e_L_law_970 {X : ev_E} : (ev_TT X).1 309 970 = i_al 0 971 := (congrFun tt_L_law 970).trans rfl
theorem t_L_law_970 {X : ev_E} {st : List Value} {v : Nat} {a1 a2 a3 a4 a5 a6 : Value} {h : ev_M} {n q : Nat} {P : ev_O → ev_M → Nat → Nat → Prop} : ev_ok (ev_TT X) 309 970 [.ref v, a1, a2, a3, a4, a5, a6] st h n q P ↔ ev_ok (ev_TT X) 309 971 [.ref v, a1, a2, a3, a4, a5, a6] ((.ref v) :: st) h n q P := ev_go (congrFun (e_L_law_970 (X := X)) _)
set_option maxRecDepth 100000 in
theorem e_L_law_971 {X : ev_E} : (ev_TT X).1 309 971 = i_il 4 973 := (congrFun tt_L_law 971).trans rfl
theorem t_L_law_971 {X : ev_E} {st : List Value} {v : Int32} {a0 a1 a2 a3 a5 a6 : Value} {h : ev_M} {n q : Nat} {P : ev_O → ev_M → Nat → Nat → Prop} : ev_ok (ev_TT X) 309 971 [a0, a1, a2, a3, .int v, a5, a6] st h n q P ↔ ev_ok (ev_TT X) 309 973 [a0, a1, a2, a3, .int v, a5, a6] ((.int v) :: st) h n q P := ev_go (congrFun (e_L_law_971 (X := X)) _)
set_option maxRecDepth 100000 in
theorem e_L_law_973 {X : ev_E} : (ev_TT X).1 309 973 = i_psh (.int (2)) 974 := (congrFun tt_L_law 973).trans rfl
theorem t_L_law_973 {X : ev_E} {st : List Value} {lo : List Value} {h : ev_M} {n q : Nat} {P : ev_O → ev_M → Nat → Nat → Prop} : ev_ok (ev_TT X) 309 973 lo st h n q P ↔ ev_ok (ev_TT X) 309 974 lo ((.int (2)) :: st) h n q P := ev_go (congrFun (e_L_law_973 (X := X)) _)
set_option maxRecDepth 100000 in
theorem e_L_law_974 {X : ev_E} : (ev_TT X).1 309 974 = i_ii (fun a b => a + b) 975 := (congrFun tt_L_law 974).trans rfl
theorem t_L_law_974 {X : ev_E} {x y : Int32} {st : List Value} {lo : List Value} {h : ev_M} {n q : Nat} {P : ev_O → ev_M → Nat → Nat → Prop} : ev_ok (ev_TT X) 309 974 lo (.int y :: .int x :: st) h n q P ↔ ev_ok (ev_TT X) 309 975 lo (.int (x + y) :: st) h n q P := ev_go (congrFun (e_L_law_974 (X := X)) _)
set_option maxRecDepth 100000 in
theorem e_L_law_975 {X : ev_E} : (ev_TT X).1 309 975 = i_ald X ev_tI 976 := (congrFun tt_L_law 975).trans rfl
theorem t_L_law_975 {X : ev_E} {i : Int32} {x : Nat} {st : List Value} {lo : List Value} {h : ev_M} {n q : Nat} {P : ev_O → ev_M → Nat → Nat → Prop} : ev_ok (ev_TT X) 309 975 lo (.int i :: .ref x :: st) h n q P ↔ ev_inA (ev_lk X h x) i ev_tI ∧ ev_ok (ev_TT X) 309 976 lo (ev_aG (ev_lk X h x) i :: st) h n q P := ev_goG (congrFun (e_L_law_975 (X := X)) _)
set_option maxRecDepth 100000 in
theorem e_L_law_976 {X : ev_E} : (ev_TT X).1 309 976 = i_cV X 296 2 13 6 979 := (congrFun tt_L_law 976).trans rfl
theorem t_L_law_976 {X : ev_E} {x : Nat} {y1 : Int32} {y0 : Int32} {lo : List Value} {h : ev_M} {n q : Nat} {P : ev_O → ev_M → Nat → Nat → Prop} : ev_ok (ev_TT X) 309 976 lo [.int y1, .int y0, .ref x] h n q P ↔ ev_isK (ev_lk X h x) 13 ∧ ev_ok (ev_TT X) 296 0 [.ref x, .int y0, .int y1, ev_J, ev_J, ev_J] [] h n q (ev_kr (ev_TT X) 309 976 979 lo [] P) := (ev_caG (congrFun (e_L_law_976 (X := X)) _)).trans (and_congr_left' ⟨fun k => k.1, fun k => ⟨k, rfl, Or.inl (Nat.le_of_ble_eq_true rfl), Nat.le_of_ble_eq_true rfl⟩⟩)
theorem x_L_law_976 {X : ev_E} {lo st : List Value} {h : ev_M} {n q : Nat} {P : ev_O → ev_M → Nat → Nat → Prop} {E : Nat} : ev_kr (ev_TT X) 309 976 979 lo st P (.inr E) h n q ↔ P (.inr E) h n q := ev_kr_x rfl
set_option maxRecDepth 100000 in
theorem e_L_law_979 {X : ev_E} : (ev_TT X).1 309 979 = i_as 6 981 := (congrFun tt_L_law 979).trans rfl
theorem t_L_law_979 {X : ev_E} {st : List Value} {v : Nat} {a0 a1 a2 a3 a4 a5 a6 : Value} {h : ev_M} {n q : Nat} {P : ev_O → ev_M → Nat → Nat → Prop} : ev_ok (ev_TT X) 309 979 [a0, a1, a2, a3, a4, a5, a6] ((.ref v) :: st) h n q P ↔ ev_ok (ev_TT X) 309 981 [a0, a1, a2, a3, a4, ev_k a5, .ref v] st h n q P := ev_go (congrFun (e_L_law_979 (X := X)) _)
set_option maxRecDepth 100000 in
theorem e_L_law_981 {X : ev_E} : (ev_TT X).1 309 981 = i_goto 1713 := (congrFun tt_L_law 981).trans rfl
theorem t_L_law_981 {X : ev_E} {st : List Value} {lo : List Value} {h : ev_M} {n q : Nat} {P : ev_O → ev_M → Nat → Nat → Prop} : ev_ok (ev_TT X) 309 981 lo st h n q P ↔ ev_ok (ev_TT X) 309 1713 lo st h n q P := ev_go (congrFun (e_L_law_981 (X := X)) _)
set_option maxRecDepth 100000 in
theorem e_L_law_984 {X : ev_E} : (ev_TT X).1 309 984 = i_al 1 985 := (congrFun tt_L_law 984).trans rfl
theorem t_L_law_984 {X : ev_E} {st : List Value} {v : Nat} {a0 a2 a3 a4 a5 a6 : Value} {h : ev_M} {n q : Nat} {P : ev_O → ev_M → Nat → Nat → Prop} : ev_ok (ev_TT X) 309 984 [a0, .ref v, a2, a3, a4, a5, a6] st h n q P ↔ ev_ok (ev_TT X) 309 985 [a0, .ref v, a2, a3, a4, a5, a6] ((.ref v) :: st) h n q P := ev_go (congrFun (e_L_law_984 (X := X)) _)
set_option maxRecDepth 100000 in
theorem e_L_law_985 {X : ev_E} : (ev_TT X).1 309 985 = i_al 0 986 := (congrFun tt_L_law 985).trans rfl
theorem t_L_law_985 {X : ev_E} {st : List Value} {v : Nat} {a1 a2 a3 a4 a5 a6 : Value} {h : ev_M} {n q : Nat} {P : ev_O → ev_M → Nat → Nat → Prop} : ev_ok (ev_TT X) 309 985 [.ref v, a1, a2, a3, a4, a5, a6] st h n q P ↔ ev_ok (ev_TT X) 309 986 [.ref v, a1, a2, a3, a4, a5, a6] ((.ref v) :: st) h n q P := ev_go (congrFun (e_L_law_985 (X := X)) _)
set_option maxRecDepth 100000 in
theorem e_L_law_986 {X : ev_E} : (ev_TT X).1 309 986 = i_il 4 988 := (congrFun tt_L_law 986).trans rfl
theorem t_L_law_986 {X : ev_E} {st : List Value} {v : Int32} {a0 a1 a2 a3 a5 a6 : Value} {h : ev_M} {n q : Nat} {P : ev_O → ev_M → Nat → Nat → Prop} : ev_ok (ev_TT X) 309 986 [a0, a1, a2, a3, .int v, a5, a6] st h n q P ↔ ev_ok (ev_TT X) 309 988 [a0, a1, a2, a3, .int v, a5, a6] ((.int v) :: st) h n q P := ev_go (congrFun (e_L_law_986 (X := X)) _)
set_option maxRecDepth 100000 in
theorem e_L_law_988 {X : ev_E} : (ev_TT X).1 309 988 = i_psh (.int (1)) 989 := (congrFun tt_L_law 988).trans rfl
theorem t_L_law_988 {X : ev_E} {st : List Value} {lo : List Value} {h : ev_M} {n q : Nat} {P : ev_O → ev_M → Nat → Nat → Prop} : ev_ok (ev_TT X) 309 988 lo st h n q P ↔ ev_ok (ev_TT X) 309 989 lo ((.int (1)) :: st) h n q P := ev_go (congrFun (e_L_law_988 (X := X)) _)
set_option maxRecDepth 100000 in
theorem e_L_law_989 {X : ev_E} : (ev_TT X).1 309 989 = i_ii (fun a b => a + b) 990 := (congrFun tt_L_law 989).trans rfl
theorem t_L_law_989 {X : ev_E} {x y : Int32} {st : List Value} {lo : List Value} {h : ev_M} {n q : Nat} {P : ev_O → ev_M → Nat → Nat → Prop} : ev_ok (ev_TT X) 309 989 lo (.int y :: .int x :: st) h n q P ↔ ev_ok (ev_TT X) 309 990 lo (.int (x + y) :: st) h n q P := ev_go (congrFun (e_L_law_989 (X := X)) _)
set_option maxRecDepth 100000 in
theorem e_L_law_990 {X : ev_E} : (ev_TT X).1 309 990 = i_ald X ev_tI 991 := (congrFun tt_L_law 990).trans rfl
theorem t_L_law_990 {X : ev_E} {i : Int32} {x : Nat} {st : List Value} {lo : List Value} {h : ev_M} {n q : Nat} {P : ev_O → ev_M → Nat → Nat → Prop} : ev_ok (ev_TT X) 309 990 lo (.int i :: .ref x :: st) h n q P ↔ ev_inA (ev_lk X h x) i ev_tI ∧ ev_ok (ev_TT X) 309 991 lo (ev_aG (ev_lk X h x) i :: st) h n q P := ev_goG (congrFun (e_L_law_990 (X := X)) _)
set_option maxRecDepth 100000 in
theorem e_L_law_991 {X : ev_E} : (ev_TT X).1 309 991 = i_al 0 992 := (congrFun tt_L_law 991).trans rfl
theorem t_L_law_991 {X : ev_E} {st : List Value} {v : Nat} {a1 a2 a3 a4 a5 a6 : Value} {h : ev_M} {n q : Nat} {P : ev_O → ev_M → Nat → Nat → Prop} : ev_ok (ev_TT X) 309 991 [.ref v, a1, a2, a3, a4, a5, a6] st h n q P ↔ ev_ok (ev_TT X) 309 992 [.ref v, a1, a2, a3, a4, a5, a6] ((.ref v) :: st) h n q P := ev_go (congrFun (e_L_law_991 (X := X)) _)
set_option maxRecDepth 100000 in
theorem e_L_law_992 {X : ev_E} : (ev_TT X).1 309 992 = i_il 4 994 := (congrFun tt_L_law 992).trans rfl
theorem t_L_law_992 {X : ev_E} {st : List Value} {v : Int32} {a0 a1 a2 a3 a5 a6 : Value} {h : ev_M} {n q : Nat} {P : ev_O → ev_M → Nat → Nat → Prop} : ev_ok (ev_TT X) 309 992 [a0, a1, a2, a3, .int v, a5, a6] st h n q P ↔ ev_ok (ev_TT X) 309 994 [a0, a1, a2, a3, .int v, a5, a6] ((.int v) :: st) h n q P := ev_go (congrFun (e_L_law_992 (X := X)) _)
set_option maxRecDepth 100000 in
theorem e_L_law_994 {X : ev_E} : (ev_TT X).1 309 994 = i_psh (.int (2)) 995 := (congrFun tt_L_law 994).trans rfl
theorem t_L_law_994 {X : ev_E} {st : List Value} {lo : List Value} {h : ev_M} {n q : Nat} {P : ev_O → ev_M → Nat → Nat → Prop} : ev_ok (ev_TT X) 309 994 lo st h n q P ↔ ev_ok (ev_TT X) 309 995 lo ((.int (2)) :: st) h n q P := ev_go (congrFun (e_L_law_994 (X := X)) _)
set_option maxRecDepth 100000 in
theorem e_L_law_995 {X : ev_E} : (ev_TT X).1 309 995 = i_ii (fun a b => a + b) 996 := (congrFun tt_L_law 995).trans rfl
theorem t_L_law_995 {X : ev_E} {x y : Int32} {st : List Value} {lo : List Value} {h : ev_M} {n q : Nat} {P : ev_O → ev_M → Nat → Nat → Prop} : ev_ok (ev_TT X) 309 995 lo (.int y :: .int x :: st) h n q P ↔ ev_ok (ev_TT X) 309 996 lo (.int (x + y) :: st) h n q P := ev_go (congrFun (e_L_law_995 (X := X)) _)
set_option maxRecDepth 100000 in
theorem e_L_law_996 {X : ev_E} : (ev_TT X).1 309 996 = i_ald X ev_tI 997 := (congrFun tt_L_law 996).trans rfl
theorem t_L_law_996 {X : ev_E} {i : Int32} {x : Nat} {st : List Value} {lo : List Value} {h : ev_M} {n q : Nat} {P : ev_O → ev_M → Nat → Nat → Prop} : ev_ok (ev_TT X) 309 996 lo (.int i :: .ref x :: st) h n q P ↔ ev_inA (ev_lk X h x) i ev_tI ∧ ev_ok (ev_TT X) 309 997 lo (ev_aG (ev_lk X h x) i :: st) h n q P := ev_goG (congrFun (e_L_law_996 (X := X)) _)
set_option maxRecDepth 100000 in
theorem e_L_law_997 {X : ev_E} : (ev_TT X).1 309 997 = i_al 3 998 := (congrFun tt_L_law 997).trans rfl
theorem t_L_law_997 {X : ev_E} {st : List Value} {v : Nat} {a0 a1 a2 a4 a5 a6 : Value} {h : ev_M} {n q : Nat} {P : ev_O → ev_M → Nat → Nat → Prop} : ev_ok (ev_TT X) 309 997 [a0, a1, a2, .ref v, a4, a5, a6] st h n q P ↔ ev_ok (ev_TT X) 309 998 [a0, a1, a2, .ref v, a4, a5, a6] ((.ref v) :: st) h n q P := ev_go (congrFun (e_L_law_997 (X := X)) _)
set_option maxRecDepth 100000 in
theorem e_L_law_998 {X : ev_E} : (ev_TT X).1 309 998 = i_cS 135 4 5 1001 := (congrFun tt_L_law 998).trans rfl
theorem t_L_law_998 {X : ev_E} {y3 : Nat} {y2 : Int32} {y1 : Int32} {y0 : Nat} {lo : List Value} {h : ev_M} {n q : Nat} {P : ev_O → ev_M → Nat → Nat → Prop} : ev_ok (ev_TT X) 309 998 lo [.ref y3, .int y2, .int y1, .ref y0] h n q P ↔ ev_ok (ev_TT X) 135 0 [.ref y0, .int y1, .int y2, .ref y3, ev_J] [] h n q (ev_kr (ev_TT X) 309 998 1001 lo [] P) := (ev_caG (congrFun (e_L_law_998 (X := X)) _)).trans ⟨fun k => k.2, fun k => ⟨⟨rfl, Nat.le_of_ble_eq_true rfl, Nat.le_of_ble_eq_true rfl⟩, k⟩⟩
set_option maxRecDepth 100000 in
theorem e_L_law_1001 {X : ev_E} : (ev_TT X).1 309 1001 = i_is 5 1003 := (congrFun tt_L_law 1001).trans rfl
theorem t_L_law_1001 {X : ev_E} {st : List Value} {v : Int32} {a0 a1 a2 a3 a4 a5 a6 : Value} {h : ev_M} {n q : Nat} {P : ev_O → ev_M → Nat → Nat → Prop} : ev_ok (ev_TT X) 309 1001 [a0, a1, a2, a3, a4, a5, a6] ((.int v) :: st) h n q P ↔ ev_ok (ev_TT X) 309 1003 [a0, a1, a2, a3, ev_k a4, .int v, a6] st h n q P := ev_go (congrFun (e_L_law_1001 (X := X)) _)
set_option maxRecDepth 100000 in
theorem e_L_law_1003 {X : ev_E} : (ev_TT X).1 309 1003 = i_al 2 1004 := (congrFun tt_L_law 1003).trans rfl
theorem t_L_law_1003 {X : ev_E} {st : List Value} {v : Nat} {a0 a1 a3 a4 a5 a6 : Value} {h : ev_M} {n q : Nat} {P : ev_O → ev_M → Nat → Nat → Prop} : ev_ok (ev_TT X) 309 1003 [a0, a1, .ref v, a3, a4, a5, a6] st h n q P ↔ ev_ok (ev_TT X) 309 1004 [a0, a1, .ref v, a3, a4, a5, a6] ((.ref v) :: st) h n q P := ev_go (congrFun (e_L_law_1003 (X := X)) _)
set_option maxRecDepth 100000 in
theorem e_L_law_1004 {X : ev_E} : (ev_TT X).1 309 1004 = i_al 0 1005 := (congrFun tt_L_law 1004).trans rfl
theorem t_L_law_1004 {X : ev_E} {st : List Value} {v : Nat} {a1 a2 a3 a4 a5 a6 : Value} {h : ev_M} {n q : Nat} {P : ev_O → ev_M → Nat → Nat → Prop} : ev_ok (ev_TT X) 309 1004 [.ref v, a1, a2, a3, a4, a5, a6] st h n q P ↔ ev_ok (ev_TT X) 309 1005 [.ref v, a1, a2, a3, a4, a5, a6] ((.ref v) :: st) h n q P := ev_go (congrFun (e_L_law_1004 (X := X)) _)
set_option maxRecDepth 100000 in
theorem e_L_law_1005 {X : ev_E} : (ev_TT X).1 309 1005 = i_il 4 1007 := (congrFun tt_L_law 1005).trans rfl
theorem t_L_law_1005 {X : ev_E} {st : List Value} {v : Int32} {a0 a1 a2 a3 a5 a6 : Value} {h : ev_M} {n q : Nat} {P : ev_O → ev_M → Nat → Nat → Prop} : ev_ok (ev_TT X) 309 1005 [a0, a1, a2, a3, .int v, a5, a6] st h n q P ↔ ev_ok (ev_TT X) 309 1007 [a0, a1, a2, a3, .int v, a5, a6] ((.int v) :: st) h n q P := ev_go (congrFun (e_L_law_1005 (X := X)) _)
set_option maxRecDepth 100000 in
theorem e_L_law_1007 {X : ev_E} : (ev_TT X).1 309 1007 = i_psh (.int (1)) 1008 := (congrFun tt_L_law 1007).trans rfl
theorem t_L_law_1007 {X : ev_E} {st : List Value} {lo : List Value} {h : ev_M} {n q : Nat} {P : ev_O → ev_M → Nat → Nat → Prop} : ev_ok (ev_TT X) 309 1007 lo st h n q P ↔ ev_ok (ev_TT X) 309 1008 lo ((.int (1)) :: st) h n q P := ev_go (congrFun (e_L_law_1007 (X := X)) _)
set_option maxRecDepth 100000 in
theorem e_L_law_1008 {X : ev_E} : (ev_TT X).1 309 1008 = i_ii (fun a b => a + b) 1009 := (congrFun tt_L_law 1008).trans rfl
theorem t_L_law_1008 {X : ev_E} {x y : Int32} {st : List Value} {lo : List Value} {h : ev_M} {n q : Nat} {P : ev_O → ev_M → Nat → Nat → Prop} : ev_ok (ev_TT X) 309 1008 lo (.int y :: .int x :: st) h n q P ↔ ev_ok (ev_TT X) 309 1009 lo (.int (x + y) :: st) h n q P := ev_go (congrFun (e_L_law_1008 (X := X)) _)
set_option maxRecDepth 100000 in
theorem e_L_law_1009 {X : ev_E} : (ev_TT X).1 309 1009 = i_ald X ev_tI 1010 := (congrFun tt_L_law 1009).trans rfl
theorem t_L_law_1009 {X : ev_E} {i : Int32} {x : Nat} {st : List Value} {lo : List Value} {h : ev_M} {n q : Nat} {P : ev_O → ev_M → Nat → Nat → Prop} : ev_ok (ev_TT X) 309 1009 lo (.int i :: .ref x :: st) h n q P ↔ ev_inA (ev_lk X h x) i ev_tI ∧ ev_ok (ev_TT X) 309 1010 lo (ev_aG (ev_lk X h x) i :: st) h n q P := ev_goG (congrFun (e_L_law_1009 (X := X)) _)
set_option maxRecDepth 100000 in
theorem e_L_law_1010 {X : ev_E} : (ev_TT X).1 309 1010 = i_al 0 1011 := (congrFun tt_L_law 1010).trans rfl
theorem t_L_law_1010 {X : ev_E} {st : List Value} {v : Nat} {a1 a2 a3 a4 a5 a6 : Value} {h : ev_M} {n q : Nat} {P : ev_O → ev_M → Nat → Nat → Prop} : ev_ok (ev_TT X) 309 1010 [.ref v, a1, a2, a3, a4, a5, a6] st h n q P ↔ ev_ok (ev_TT X) 309 1011 [.ref v, a1, a2, a3, a4, a5, a6] ((.ref v) :: st) h n q P := ev_go (congrFun (e_L_law_1010 (X := X)) _)
set_option maxRecDepth 100000 in
theorem e_L_law_1011 {X : ev_E} : (ev_TT X).1 309 1011 = i_il 4 1013 := (congrFun tt_L_law 1011).trans rfl
theorem t_L_law_1011 {X : ev_E} {st : List Value} {v : Int32} {a0 a1 a2 a3 a5 a6 : Value} {h : ev_M} {n q : Nat} {P : ev_O → ev_M → Nat → Nat → Prop} : ev_ok (ev_TT X) 309 1011 [a0, a1, a2, a3, .int v, a5, a6] st h n q P ↔ ev_ok (ev_TT X) 309 1013 [a0, a1, a2, a3, .int v, a5, a6] ((.int v) :: st) h n q P := ev_go (congrFun (e_L_law_1011 (X := X)) _)
set_option maxRecDepth 100000 in
theorem e_L_law_1013 {X : ev_E} : (ev_TT X).1 309 1013 = i_psh (.int (2)) 1014 := (congrFun tt_L_law 1013).trans rfl
theorem t_L_law_1013 {X : ev_E} {st : List Value} {lo : List Value} {h : ev_M} {n q : Nat} {P : ev_O → ev_M → Nat → Nat → Prop} : ev_ok (ev_TT X) 309 1013 lo st h n q P ↔ ev_ok (ev_TT X) 309 1014 lo ((.int (2)) :: st) h n q P := ev_go (congrFun (e_L_law_1013 (X := X)) _)
set_option maxRecDepth 100000 in
theorem e_L_law_1014 {X : ev_E} : (ev_TT X).1 309 1014 = i_ii (fun a b => a + b) 1015 := (congrFun tt_L_law 1014).trans rfl
theorem t_L_law_1014 {X : ev_E} {x y : Int32} {st : List Value} {lo : List Value} {h : ev_M} {n q : Nat} {P : ev_O → ev_M → Nat → Nat → Prop} : ev_ok (ev_TT X) 309 1014 lo (.int y :: .int x :: st) h n q P ↔ ev_ok (ev_TT X) 309 1015 lo (.int (x + y) :: st) h n q P := ev_go (congrFun (e_L_law_1014 (X := X)) _)
set_option maxRecDepth 100000 in
theorem e_L_law_1015 {X : ev_E} : (ev_TT X).1 309 1015 = i_ald X ev_tI 1016 := (congrFun tt_L_law 1015).trans rfl
theorem t_L_law_1015 {X : ev_E} {i : Int32} {x : Nat} {st : List Value} {lo : List Value} {h : ev_M} {n q : Nat} {P : ev_O → ev_M → Nat → Nat → Prop} : ev_ok (ev_TT X) 309 1015 lo (.int i :: .ref x :: st) h n q P ↔ ev_inA (ev_lk X h x) i ev_tI ∧ ev_ok (ev_TT X) 309 1016 lo (ev_aG (ev_lk X h x) i :: st) h n q P := ev_goG (congrFun (e_L_law_1015 (X := X)) _)
set_option maxRecDepth 100000 in
theorem e_L_law_1016 {X : ev_E} : (ev_TT X).1 309 1016 = i_cV X 212 2 13 3 1019 := (congrFun tt_L_law 1016).trans rfl
theorem t_L_law_1016 {X : ev_E} {x : Nat} {y1 : Int32} {y0 : Int32} {lo : List Value} {h : ev_M} {n q : Nat} {P : ev_O → ev_M → Nat → Nat → Prop} : ev_ok (ev_TT X) 309 1016 lo [.int y1, .int y0, .ref x] h n q P ↔ ev_isK (ev_lk X h x) 13 ∧ ev_ok (ev_TT X) 212 0 [.ref x, .int y0, .int y1] [] h n q (ev_kr (ev_TT X) 309 1016 1019 lo [] P) := (ev_caG (congrFun (e_L_law_1016 (X := X)) _)).trans (and_congr_left' ⟨fun k => k.1, fun k => ⟨k, rfl, Or.inl (Nat.le_of_ble_eq_true rfl), Nat.le_of_ble_eq_true rfl⟩⟩)
theorem x_L_law_1016 {X : ev_E} {lo st : List Value} {h : ev_M} {n q : Nat} {P : ev_O → ev_M → Nat → Nat → Prop} {E : Nat} : ev_kr (ev_TT X) 309 1016 1019 lo st P (.inr E) h n q ↔ P (.inr E) h n q := ev_kr_x rfl
set_option maxRecDepth 100000 in
theorem e_L_law_1019 {X : ev_E} : (ev_TT X).1 309 1019 = i_is 6 1021 := (congrFun tt_L_law 1019).trans rfl
theorem t_L_law_1019 {X : ev_E} {st : List Value} {v : Int32} {a0 a1 a2 a3 a4 a5 a6 : Value} {h : ev_M} {n q : Nat} {P : ev_O → ev_M → Nat → Nat → Prop} : ev_ok (ev_TT X) 309 1019 [a0, a1, a2, a3, a4, a5, a6] ((.int v) :: st) h n q P ↔ ev_ok (ev_TT X) 309 1021 [a0, a1, a2, a3, a4, ev_k a5, .int v] st h n q P := ev_go (congrFun (e_L_law_1019 (X := X)) _)
set_option maxRecDepth 100000 in
theorem e_L_law_1021 {X : ev_E} : (ev_TT X).1 309 1021 = i_goto 1713 := (congrFun tt_L_law 1021).trans rfl
theorem t_L_law_1021 {X : ev_E} {st : List Value} {lo : List Value} {h : ev_M} {n q : Nat} {P : ev_O → ev_M → Nat → Nat → Prop} : ev_ok (ev_TT X) 309 1021 lo st h n q P ↔ ev_ok (ev_TT X) 309 1713 lo st h n q P := ev_go (congrFun (e_L_law_1021 (X := X)) _)
set_option maxRecDepth 100000 in
theorem e_L_law_1024 {X : ev_E} : (ev_TT X).1 309 1024 = i_al 1 1025 := (congrFun tt_L_law 1024).trans rfl
theorem t_L_law_1024 {X : ev_E} {st : List Value} {v : Nat} {a0 a2 a3 a4 a5 a6 : Value} {h : ev_M} {n q : Nat} {P : ev_O → ev_M → Nat → Nat → Prop} : ev_ok (ev_TT X) 309 1024 [a0, .ref v, a2, a3, a4, a5, a6] st h n q P ↔ ev_ok (ev_TT X) 309 1025 [a0, .ref v, a2, a3, a4, a5, a6] ((.ref v) :: st) h n q P := ev_go (congrFun (e_L_law_1024 (X := X)) _)
set_option maxRecDepth 100000 in
theorem e_L_law_1025 {X : ev_E} : (ev_TT X).1 309 1025 = i_al 0 1026 := (congrFun tt_L_law 1025).trans rfl
theorem t_L_law_1025 {X : ev_E} {st : List Value} {v : Nat} {a1 a2 a3 a4 a5 a6 : Value} {h : ev_M} {n q : Nat} {P : ev_O → ev_M → Nat → Nat → Prop} : ev_ok (ev_TT X) 309 1025 [.ref v, a1, a2, a3, a4, a5, a6] st h n q P ↔ ev_ok (ev_TT X) 309 1026 [.ref v, a1, a2, a3, a4, a5, a6] ((.ref v) :: st) h n q P := ev_go (congrFun (e_L_law_1025 (X := X)) _)
set_option maxRecDepth 100000 in
theorem e_L_law_1026 {X : ev_E} : (ev_TT X).1 309 1026 = i_il 4 1028 := (congrFun tt_L_law 1026).trans rfl
theorem t_L_law_1026 {X : ev_E} {st : List Value} {v : Int32} {a0 a1 a2 a3 a5 a6 : Value} {h : ev_M} {n q : Nat} {P : ev_O → ev_M → Nat → Nat → Prop} : ev_ok (ev_TT X) 309 1026 [a0, a1, a2, a3, .int v, a5, a6] st h n q P ↔ ev_ok (ev_TT X) 309 1028 [a0, a1, a2, a3, .int v, a5, a6] ((.int v) :: st) h n q P := ev_go (congrFun (e_L_law_1026 (X := X)) _)
set_option maxRecDepth 100000 in
theorem e_L_law_1028 {X : ev_E} : (ev_TT X).1 309 1028 = i_psh (.int (1)) 1029 := (congrFun tt_L_law 1028).trans rfl
theorem t_L_law_1028 {X : ev_E} {st : List Value} {lo : List Value} {h : ev_M} {n q : Nat} {P : ev_O → ev_M → Nat → Nat → Prop} : ev_ok (ev_TT X) 309 1028 lo st h n q P ↔ ev_ok (ev_TT X) 309 1029 lo ((.int (1)) :: st) h n q P := ev_go (congrFun (e_L_law_1028 (X := X)) _)
set_option maxRecDepth 100000 in
theorem e_L_law_1029 {X : ev_E} : (ev_TT X).1 309 1029 = i_ii (fun a b => a + b) 1030 := (congrFun tt_L_law 1029).trans rfl
theorem t_L_law_1029 {X : ev_E} {x y : Int32} {st : List Value} {lo : List Value} {h : ev_M} {n q : Nat} {P : ev_O → ev_M → Nat → Nat → Prop} : ev_ok (ev_TT X) 309 1029 lo (.int y :: .int x :: st) h n q P ↔ ev_ok (ev_TT X) 309 1030 lo (.int (x + y) :: st) h n q P := ev_go (congrFun (e_L_law_1029 (X := X)) _)
set_option maxRecDepth 100000 in
theorem e_L_law_1030 {X : ev_E} : (ev_TT X).1 309 1030 = i_ald X ev_tI 1031 := (congrFun tt_L_law 1030).trans rfl
theorem t_L_law_1030 {X : ev_E} {i : Int32} {x : Nat} {st : List Value} {lo : List Value} {h : ev_M} {n q : Nat} {P : ev_O → ev_M → Nat → Nat → Prop} : ev_ok (ev_TT X) 309 1030 lo (.int i :: .ref x :: st) h n q P ↔ ev_inA (ev_lk X h x) i ev_tI ∧ ev_ok (ev_TT X) 309 1031 lo (ev_aG (ev_lk X h x) i :: st) h n q P := ev_goG (congrFun (e_L_law_1030 (X := X)) _)
set_option maxRecDepth 100000 in
theorem e_L_law_1031 {X : ev_E} : (ev_TT X).1 309 1031 = i_al 0 1032 := (congrFun tt_L_law 1031).trans rfl
theorem t_L_law_1031 {X : ev_E} {st : List Value} {v : Nat} {a1 a2 a3 a4 a5 a6 : Value} {h : ev_M} {n q : Nat} {P : ev_O → ev_M → Nat → Nat → Prop} : ev_ok (ev_TT X) 309 1031 [.ref v, a1, a2, a3, a4, a5, a6] st h n q P ↔ ev_ok (ev_TT X) 309 1032 [.ref v, a1, a2, a3, a4, a5, a6] ((.ref v) :: st) h n q P := ev_go (congrFun (e_L_law_1031 (X := X)) _)
set_option maxRecDepth 100000 in
theorem e_L_law_1032 {X : ev_E} : (ev_TT X).1 309 1032 = i_il 4 1034 := (congrFun tt_L_law 1032).trans rfl
theorem t_L_law_1032 {X : ev_E} {st : List Value} {v : Int32} {a0 a1 a2 a3 a5 a6 : Value} {h : ev_M} {n q : Nat} {P : ev_O → ev_M → Nat → Nat → Prop} : ev_ok (ev_TT X) 309 1032 [a0, a1, a2, a3, .int v, a5, a6] st h n q P ↔ ev_ok (ev_TT X) 309 1034 [a0, a1, a2, a3, .int v, a5, a6] ((.int v) :: st) h n q P := ev_go (congrFun (e_L_law_1032 (X := X)) _)
set_option maxRecDepth 100000 in
theorem e_L_law_1034 {X : ev_E} : (ev_TT X).1 309 1034 = i_psh (.int (2)) 1035 := (congrFun tt_L_law 1034).trans rfl
theorem t_L_law_1034 {X : ev_E} {st : List Value} {lo : List Value} {h : ev_M} {n q : Nat} {P : ev_O → ev_M → Nat → Nat → Prop} : ev_ok (ev_TT X) 309 1034 lo st h n q P ↔ ev_ok (ev_TT X) 309 1035 lo ((.int (2)) :: st) h n q P := ev_go (congrFun (e_L_law_1034 (X := X)) _)
set_option maxRecDepth 100000 in
theorem e_L_law_1035 {X : ev_E} : (ev_TT X).1 309 1035 = i_ii (fun a b => a + b) 1036 := (congrFun tt_L_law 1035).trans rfl
theorem t_L_law_1035 {X : ev_E} {x y : Int32} {st : List Value} {lo : List Value} {h : ev_M} {n q : Nat} {P : ev_O → ev_M → Nat → Nat → Prop} : ev_ok (ev_TT X) 309 1035 lo (.int y :: .int x :: st) h n q P ↔ ev_ok (ev_TT X) 309 1036 lo (.int (x + y) :: st) h n q P := ev_go (congrFun (e_L_law_1035 (X := X)) _)
set_option maxRecDepth 100000 in
theorem e_L_law_1036 {X : ev_E} : (ev_TT X).1 309 1036 = i_ald X ev_tI 1037 := (congrFun tt_L_law 1036).trans rfl
theorem t_L_law_1036 {X : ev_E} {i : Int32} {x : Nat} {st : List Value} {lo : List Value} {h : ev_M} {n q : Nat} {P : ev_O → ev_M → Nat → Nat → Prop} : ev_ok (ev_TT X) 309 1036 lo (.int i :: .ref x :: st) h n q P ↔ ev_inA (ev_lk X h x) i ev_tI ∧ ev_ok (ev_TT X) 309 1037 lo (ev_aG (ev_lk X h x) i :: st) h n q P := ev_goG (congrFun (e_L_law_1036 (X := X)) _)
set_option maxRecDepth 100000 in
theorem e_L_law_1037 {X : ev_E} : (ev_TT X).1 309 1037 = i_al 3 1038 := (congrFun tt_L_law 1037).trans rfl
theorem t_L_law_1037 {X : ev_E} {st : List Value} {v : Nat} {a0 a1 a2 a4 a5 a6 : Value} {h : ev_M} {n q : Nat} {P : ev_O → ev_M → Nat → Nat → Prop} : ev_ok (ev_TT X) 309 1037 [a0, a1, a2, .ref v, a4, a5, a6] st h n q P ↔ ev_ok (ev_TT X) 309 1038 [a0, a1, a2, .ref v, a4, a5, a6] ((.ref v) :: st) h n q P := ev_go (congrFun (e_L_law_1037 (X := X)) _)
set_option maxRecDepth 100000 in
theorem e_L_law_1038 {X : ev_E} : (ev_TT X).1 309 1038 = i_cS 138 4 5 1041 := (congrFun tt_L_law 1038).trans rfl
theorem t_L_law_1038 {X : ev_E} {y3 : Nat} {y2 : Int32} {y1 : Int32} {y0 : Nat} {lo : List Value} {h : ev_M} {n q : Nat} {P : ev_O → ev_M → Nat → Nat → Prop} : ev_ok (ev_TT X) 309 1038 lo [.ref y3, .int y2, .int y1, .ref y0] h n q P ↔ ev_ok (ev_TT X) 138 0 [.ref y0, .int y1, .int y2, .ref y3, ev_J] [] h n q (ev_kr (ev_TT X) 309 1038 1041 lo [] P) := (ev_caG (congrFun (e_L_law_1038 (X := X)) _)).trans ⟨fun k => k.2, fun k => ⟨⟨rfl, Nat.le_of_ble_eq_true rfl, Nat.le_of_ble_eq_true rfl⟩, k⟩⟩
set_option maxRecDepth 100000 in
theorem e_L_law_1041 {X : ev_E} : (ev_TT X).1 309 1041 = i_is 5 1043 := (congrFun tt_L_law 1041).trans rfl
theorem t_L_law_1041 {X : ev_E} {st : List Value} {v : Int32} {a0 a1 a2 a3 a4 a5 a6 : Value} {h : ev_M} {n q : Nat} {P : ev_O → ev_M → Nat → Nat → Prop} : ev_ok (ev_TT X) 309 1041 [a0, a1, a2, a3, a4, a5, a6] ((.int v) :: st) h n q P ↔ ev_ok (ev_TT X) 309 1043 [a0, a1, a2, a3, ev_k a4, .int v, a6] st h n q P := ev_go (congrFun (e_L_law_1041 (X := X)) _)
set_option maxRecDepth 100000 in
theorem e_L_law_1043 {X : ev_E} : (ev_TT X).1 309 1043 = i_al 2 1044 := (congrFun tt_L_law 1043).trans rfl
theorem t_L_law_1043 {X : ev_E} {st : List Value} {v : Nat} {a0 a1 a3 a4 a5 a6 : Value} {h : ev_M} {n q : Nat} {P : ev_O → ev_M → Nat → Nat → Prop} : ev_ok (ev_TT X) 309 1043 [a0, a1, .ref v, a3, a4, a5, a6] st h n q P ↔ ev_ok (ev_TT X) 309 1044 [a0, a1, .ref v, a3, a4, a5, a6] ((.ref v) :: st) h n q P := ev_go (congrFun (e_L_law_1043 (X := X)) _)
set_option maxRecDepth 100000 in
theorem e_L_law_1044 {X : ev_E} : (ev_TT X).1 309 1044 = i_al 0 1045 := (congrFun tt_L_law 1044).trans rfl
theorem t_L_law_1044 {X : ev_E} {st : List Value} {v : Nat} {a1 a2 a3 a4 a5 a6 : Value} {h : ev_M} {n q : Nat} {P : ev_O → ev_M → Nat → Nat → Prop} : ev_ok (ev_TT X) 309 1044 [.ref v, a1, a2, a3, a4, a5, a6] st h n q P ↔ ev_ok (ev_TT X) 309 1045 [.ref v, a1, a2, a3, a4, a5, a6] ((.ref v) :: st) h n q P := ev_go (congrFun (e_L_law_1044 (X := X)) _)
set_option maxRecDepth 100000 in
theorem e_L_law_1045 {X : ev_E} : (ev_TT X).1 309 1045 = i_il 4 1047 := (congrFun tt_L_law 1045).trans rfl
theorem t_L_law_1045 {X : ev_E} {st : List Value} {v : Int32} {a0 a1 a2 a3 a5 a6 : Value} {h : ev_M} {n q : Nat} {P : ev_O → ev_M → Nat → Nat → Prop} : ev_ok (ev_TT X) 309 1045 [a0, a1, a2, a3, .int v, a5, a6] st h n q P ↔ ev_ok (ev_TT X) 309 1047 [a0, a1, a2, a3, .int v, a5, a6] ((.int v) :: st) h n q P := ev_go (congrFun (e_L_law_1045 (X := X)) _)
set_option maxRecDepth 100000 in
theorem e_L_law_1047 {X : ev_E} : (ev_TT X).1 309 1047 = i_psh (.int (1)) 1048 := (congrFun tt_L_law 1047).trans rfl
theorem t_L_law_1047 {X : ev_E} {st : List Value} {lo : List Value} {h : ev_M} {n q : Nat} {P : ev_O → ev_M → Nat → Nat → Prop} : ev_ok (ev_TT X) 309 1047 lo st h n q P ↔ ev_ok (ev_TT X) 309 1048 lo ((.int (1)) :: st) h n q P := ev_go (congrFun (e_L_law_1047 (X := X)) _)
set_option maxRecDepth 100000 in
theorem e_L_law_1048 {X : ev_E} : (ev_TT X).1 309 1048 = i_ii (fun a b => a + b) 1049 := (congrFun tt_L_law 1048).trans rfl
theorem t_L_law_1048 {X : ev_E} {x y : Int32} {st : List Value} {lo : List Value} {h : ev_M} {n q : Nat} {P : ev_O → ev_M → Nat → Nat → Prop} : ev_ok (ev_TT X) 309 1048 lo (.int y :: .int x :: st) h n q P ↔ ev_ok (ev_TT X) 309 1049 lo (.int (x + y) :: st) h n q P := ev_go (congrFun (e_L_law_1048 (X := X)) _)
set_option maxRecDepth 100000 in
theorem e_L_law_1049 {X : ev_E} : (ev_TT X).1 309 1049 = i_ald X ev_tI 1050 := (congrFun tt_L_law 1049).trans rfl
theorem t_L_law_1049 {X : ev_E} {i : Int32} {x : Nat} {st : List Value} {lo : List Value} {h : ev_M} {n q : Nat} {P : ev_O → ev_M → Nat → Nat → Prop} : ev_ok (ev_TT X) 309 1049 lo (.int i :: .ref x :: st) h n q P ↔ ev_inA (ev_lk X h x) i ev_tI ∧ ev_ok (ev_TT X) 309 1050 lo (ev_aG (ev_lk X h x) i :: st) h n q P := ev_goG (congrFun (e_L_law_1049 (X := X)) _)
set_option maxRecDepth 100000 in
theorem e_L_law_1050 {X : ev_E} : (ev_TT X).1 309 1050 = i_al 0 1051 := (congrFun tt_L_law 1050).trans rfl
theorem t_L_law_1050 {X : ev_E} {st : List Value} {v : Nat} {a1 a2 a3 a4 a5 a6 : Value} {h : ev_M} {n q : Nat} {P : ev_O → ev_M → Nat → Nat → Prop} : ev_ok (ev_TT X) 309 1050 [.ref v, a1, a2, a3, a4, a5, a6] st h n q P ↔ ev_ok (ev_TT X) 309 1051 [.ref v, a1, a2, a3, a4, a5, a6] ((.ref v) :: st) h n q P := ev_go (congrFun (e_L_law_1050 (X := X)) _)
set_option maxRecDepth 100000 in
theorem e_L_law_1051 {X : ev_E} : (ev_TT X).1 309 1051 = i_il 4 1053 := (congrFun tt_L_law 1051).trans rfl
theorem t_L_law_1051 {X : ev_E} {st : List Value} {v : Int32} {a0 a1 a2 a3 a5 a6 : Value} {h : ev_M} {n q : Nat} {P : ev_O → ev_M → Nat → Nat → Prop} : ev_ok (ev_TT X) 309 1051 [a0, a1, a2, a3, .int v, a5, a6] st h n q P ↔ ev_ok (ev_TT X) 309 1053 [a0, a1, a2, a3, .int v, a5, a6] ((.int v) :: st) h n q P := ev_go (congrFun (e_L_law_1051 (X := X)) _)
set_option maxRecDepth 100000 in
theorem e_L_law_1053 {X : ev_E} : (ev_TT X).1 309 1053 = i_psh (.int (2)) 1054 := (congrFun tt_L_law 1053).trans rfl
theorem t_L_law_1053 {X : ev_E} {st : List Value} {lo : List Value} {h : ev_M} {n q : Nat} {P : ev_O → ev_M → Nat → Nat → Prop} : ev_ok (ev_TT X) 309 1053 lo st h n q P ↔ ev_ok (ev_TT X) 309 1054 lo ((.int (2)) :: st) h n q P := ev_go (congrFun (e_L_law_1053 (X := X)) _)
set_option maxRecDepth 100000 in
theorem e_L_law_1054 {X : ev_E} : (ev_TT X).1 309 1054 = i_ii (fun a b => a + b) 1055 := (congrFun tt_L_law 1054).trans rfl
theorem t_L_law_1054 {X : ev_E} {x y : Int32} {st : List Value} {lo : List Value} {h : ev_M} {n q : Nat} {P : ev_O → ev_M → Nat → Nat → Prop} : ev_ok (ev_TT X) 309 1054 lo (.int y :: .int x :: st) h n q P ↔ ev_ok (ev_TT X) 309 1055 lo (.int (x + y) :: st) h n q P := ev_go (congrFun (e_L_law_1054 (X := X)) _)
set_option maxRecDepth 100000 in
theorem e_L_law_1055 {X : ev_E} : (ev_TT X).1 309 1055 = i_ald X ev_tI 1056 := (congrFun tt_L_law 1055).trans rfl
theorem t_L_law_1055 {X : ev_E} {i : Int32} {x : Nat} {st : List Value} {lo : List Value} {h : ev_M} {n q : Nat} {P : ev_O → ev_M → Nat → Nat → Prop} : ev_ok (ev_TT X) 309 1055 lo (.int i :: .ref x :: st) h n q P ↔ ev_inA (ev_lk X h x) i ev_tI ∧ ev_ok (ev_TT X) 309 1056 lo (ev_aG (ev_lk X h x) i :: st) h n q P := ev_goG (congrFun (e_L_law_1055 (X := X)) _)
set_option maxRecDepth 100000 in
theorem e_L_law_1056 {X : ev_E} : (ev_TT X).1 309 1056 = i_cV X 170 2 13 4 1059 := (congrFun tt_L_law 1056).trans rfl
theorem t_L_law_1056 {X : ev_E} {x : Nat} {y1 : Int32} {y0 : Int32} {lo : List Value} {h : ev_M} {n q : Nat} {P : ev_O → ev_M → Nat → Nat → Prop} : ev_ok (ev_TT X) 309 1056 lo [.int y1, .int y0, .ref x] h n q P ↔ ev_isK (ev_lk X h x) 13 ∧ ev_ok (ev_TT X) 170 0 [.ref x, .int y0, .int y1, ev_J] [] h n q (ev_kr (ev_TT X) 309 1056 1059 lo [] P) := (ev_caG (congrFun (e_L_law_1056 (X := X)) _)).trans (and_congr_left' ⟨fun k => k.1, fun k => ⟨k, rfl, Or.inl (Nat.le_of_ble_eq_true rfl), Nat.le_of_ble_eq_true rfl⟩⟩)
theorem x_L_law_1056 {X : ev_E} {lo st : List Value} {h : ev_M} {n q : Nat} {P : ev_O → ev_M → Nat → Nat → Prop} {E : Nat} : ev_kr (ev_TT X) 309 1056 1059 lo st P (.inr E) h n q ↔ P (.inr E) h n q := ev_kr_x rfl
set_option maxRecDepth 100000 in
theorem e_L_law_1059 {X : ev_E} : (ev_TT X).1 309 1059 = i_is 6 1061 := (congrFun tt_L_law 1059).trans rfl
theorem t_L_law_1059 {X : ev_E} {st : List Value} {v : Int32} {a0 a1 a2 a3 a4 a5 a6 : Value} {h : ev_M} {n q : Nat} {P : ev_O → ev_M → Nat → Nat → Prop} : ev_ok (ev_TT X) 309 1059 [a0, a1, a2, a3, a4, a5, a6] ((.int v) :: st) h n q P ↔ ev_ok (ev_TT X) 309 1061 [a0, a1, a2, a3, a4, ev_k a5, .int v] st h n q P := ev_go (congrFun (e_L_law_1059 (X := X)) _)
set_option maxRecDepth 100000 in
theorem e_L_law_1061 {X : ev_E} : (ev_TT X).1 309 1061 = i_goto 1713 := (congrFun tt_L_law 1061).trans rfl
theorem t_L_law_1061 {X : ev_E} {st : List Value} {lo : List Value} {h : ev_M} {n q : Nat} {P : ev_O → ev_M → Nat → Nat → Prop} : ev_ok (ev_TT X) 309 1061 lo st h n q P ↔ ev_ok (ev_TT X) 309 1713 lo st h n q P := ev_go (congrFun (e_L_law_1061 (X := X)) _)
set_option maxRecDepth 100000 in
theorem e_L_law_1064 {X : ev_E} : (ev_TT X).1 309 1064 = i_al 1 1065 := (congrFun tt_L_law 1064).trans rfl
theorem t_L_law_1064 {X : ev_E} {st : List Value} {v : Nat} {a0 a2 a3 a4 a5 a6 : Value} {h : ev_M} {n q : Nat} {P : ev_O → ev_M → Nat → Nat → Prop} : ev_ok (ev_TT X) 309 1064 [a0, .ref v, a2, a3, a4, a5, a6] st h n q P ↔ ev_ok (ev_TT X) 309 1065 [a0, .ref v, a2, a3, a4, a5, a6] ((.ref v) :: st) h n q P := ev_go (congrFun (e_L_law_1064 (X := X)) _)
set_option maxRecDepth 100000 in
theorem e_L_law_1065 {X : ev_E} : (ev_TT X).1 309 1065 = i_al 0 1066 := (congrFun tt_L_law 1065).trans rfl
theorem t_L_law_1065 {X : ev_E} {st : List Value} {v : Nat} {a1 a2 a3 a4 a5 a6 : Value} {h : ev_M} {n q : Nat} {P : ev_O → ev_M → Nat → Nat → Prop} : ev_ok (ev_TT X) 309 1065 [.ref v, a1, a2, a3, a4, a5, a6] st h n q P ↔ ev_ok (ev_TT X) 309 1066 [.ref v, a1, a2, a3, a4, a5, a6] ((.ref v) :: st) h n q P := ev_go (congrFun (e_L_law_1065 (X := X)) _)
set_option maxRecDepth 100000 in
theorem e_L_law_1066 {X : ev_E} : (ev_TT X).1 309 1066 = i_il 4 1068 := (congrFun tt_L_law 1066).trans rfl
theorem t_L_law_1066 {X : ev_E} {st : List Value} {v : Int32} {a0 a1 a2 a3 a5 a6 : Value} {h : ev_M} {n q : Nat} {P : ev_O → ev_M → Nat → Nat → Prop} : ev_ok (ev_TT X) 309 1066 [a0, a1, a2, a3, .int v, a5, a6] st h n q P ↔ ev_ok (ev_TT X) 309 1068 [a0, a1, a2, a3, .int v, a5, a6] ((.int v) :: st) h n q P := ev_go (congrFun (e_L_law_1066 (X := X)) _)
set_option maxRecDepth 100000 in
theorem e_L_law_1068 {X : ev_E} : (ev_TT X).1 309 1068 = i_psh (.int (1)) 1069 := (congrFun tt_L_law 1068).trans rfl
theorem t_L_law_1068 {X : ev_E} {st : List Value} {lo : List Value} {h : ev_M} {n q : Nat} {P : ev_O → ev_M → Nat → Nat → Prop} : ev_ok (ev_TT X) 309 1068 lo st h n q P ↔ ev_ok (ev_TT X) 309 1069 lo ((.int (1)) :: st) h n q P := ev_go (congrFun (e_L_law_1068 (X := X)) _)
set_option maxRecDepth 100000 in
theorem e_L_law_1069 {X : ev_E} : (ev_TT X).1 309 1069 = i_ii (fun a b => a + b) 1070 := (congrFun tt_L_law 1069).trans rfl
theorem t_L_law_1069 {X : ev_E} {x y : Int32} {st : List Value} {lo : List Value} {h : ev_M} {n q : Nat} {P : ev_O → ev_M → Nat → Nat → Prop} : ev_ok (ev_TT X) 309 1069 lo (.int y :: .int x :: st) h n q P ↔ ev_ok (ev_TT X) 309 1070 lo (.int (x + y) :: st) h n q P := ev_go (congrFun (e_L_law_1069 (X := X)) _)
set_option maxRecDepth 100000 in
theorem e_L_law_1070 {X : ev_E} : (ev_TT X).1 309 1070 = i_ald X ev_tI 1071 := (congrFun tt_L_law 1070).trans rfl
theorem t_L_law_1070 {X : ev_E} {i : Int32} {x : Nat} {st : List Value} {lo : List Value} {h : ev_M} {n q : Nat} {P : ev_O → ev_M → Nat → Nat → Prop} : ev_ok (ev_TT X) 309 1070 lo (.int i :: .ref x :: st) h n q P ↔ ev_inA (ev_lk X h x) i ev_tI ∧ ev_ok (ev_TT X) 309 1071 lo (ev_aG (ev_lk X h x) i :: st) h n q P := ev_goG (congrFun (e_L_law_1070 (X := X)) _)
set_option maxRecDepth 100000 in
theorem e_L_law_1071 {X : ev_E} : (ev_TT X).1 309 1071 = i_al 3 1072 := (congrFun tt_L_law 1071).trans rfl
theorem t_L_law_1071 {X : ev_E} {st : List Value} {v : Nat} {a0 a1 a2 a4 a5 a6 : Value} {h : ev_M} {n q : Nat} {P : ev_O → ev_M → Nat → Nat → Prop} : ev_ok (ev_TT X) 309 1071 [a0, a1, a2, .ref v, a4, a5, a6] st h n q P ↔ ev_ok (ev_TT X) 309 1072 [a0, a1, a2, .ref v, a4, a5, a6] ((.ref v) :: st) h n q P := ev_go (congrFun (e_L_law_1071 (X := X)) _)
set_option maxRecDepth 100000 in
theorem e_L_law_1072 {X : ev_E} : (ev_TT X).1 309 1072 = i_cS 223 3 4 1075 := (congrFun tt_L_law 1072).trans rfl
theorem t_L_law_1072 {X : ev_E} {y2 : Nat} {y1 : Int32} {y0 : Nat} {lo : List Value} {h : ev_M} {n q : Nat} {P : ev_O → ev_M → Nat → Nat → Prop} : ev_ok (ev_TT X) 309 1072 lo [.ref y2, .int y1, .ref y0] h n q P ↔ ev_ok (ev_TT X) 223 0 [.ref y0, .int y1, .ref y2, ev_J] [] h n q (ev_kr (ev_TT X) 309 1072 1075 lo [] P) := (ev_caG (congrFun (e_L_law_1072 (X := X)) _)).trans ⟨fun k => k.2, fun k => ⟨⟨rfl, Nat.le_of_ble_eq_true rfl, Nat.le_of_ble_eq_true rfl⟩, k⟩⟩
set_option maxRecDepth 100000 in
theorem e_L_law_1075 {X : ev_E} : (ev_TT X).1 309 1075 = i_is 5 1077 := (congrFun tt_L_law 1075).trans rfl
theorem t_L_law_1075 {X : ev_E} {st : List Value} {v : Int32} {a0 a1 a2 a3 a4 a5 a6 : Value} {h : ev_M} {n q : Nat} {P : ev_O → ev_M → Nat → Nat → Prop} : ev_ok (ev_TT X) 309 1075 [a0, a1, a2, a3, a4, a5, a6] ((.int v) :: st) h n q P ↔ ev_ok (ev_TT X) 309 1077 [a0, a1, a2, a3, ev_k a4, .int v, a6] st h n q P := ev_go (congrFun (e_L_law_1075 (X := X)) _)
set_option maxRecDepth 100000 in
theorem e_L_law_1077 {X : ev_E} : (ev_TT X).1 309 1077 = i_al 2 1078 := (congrFun tt_L_law 1077).trans rfl
theorem t_L_law_1077 {X : ev_E} {st : List Value} {v : Nat} {a0 a1 a3 a4 a5 a6 : Value} {h : ev_M} {n q : Nat} {P : ev_O → ev_M → Nat → Nat → Prop} : ev_ok (ev_TT X) 309 1077 [a0, a1, .ref v, a3, a4, a5, a6] st h n q P ↔ ev_ok (ev_TT X) 309 1078 [a0, a1, .ref v, a3, a4, a5, a6] ((.ref v) :: st) h n q P := ev_go (congrFun (e_L_law_1077 (X := X)) _)
set_option maxRecDepth 100000 in
theorem e_L_law_1078 {X : ev_E} : (ev_TT X).1 309 1078 = i_al 0 1079 := (congrFun tt_L_law 1078).trans rfl
theorem t_L_law_1078 {X : ev_E} {st : List Value} {v : Nat} {a1 a2 a3 a4 a5 a6 : Value} {h : ev_M} {n q : Nat} {P : ev_O → ev_M → Nat → Nat → Prop} : ev_ok (ev_TT X) 309 1078 [.ref v, a1, a2, a3, a4, a5, a6] st h n q P ↔ ev_ok (ev_TT X) 309 1079 [.ref v, a1, a2, a3, a4, a5, a6] ((.ref v) :: st) h n q P := ev_go (congrFun (e_L_law_1078 (X := X)) _)
set_option maxRecDepth 100000 in
theorem e_L_law_1079 {X : ev_E} : (ev_TT X).1 309 1079 = i_il 4 1081 := (congrFun tt_L_law 1079).trans rfl
theorem t_L_law_1079 {X : ev_E} {st : List Value} {v : Int32} {a0 a1 a2 a3 a5 a6 : Value} {h : ev_M} {n q : Nat} {P : ev_O → ev_M → Nat → Nat → Prop} : ev_ok (ev_TT X) 309 1079 [a0, a1, a2, a3, .int v, a5, a6] st h n q P ↔ ev_ok (ev_TT X) 309 1081 [a0, a1, a2, a3, .int v, a5, a6] ((.int v) :: st) h n q P := ev_go (congrFun (e_L_law_1079 (X := X)) _)
set_option maxRecDepth 100000 in
theorem e_L_law_1081 {X : ev_E} : (ev_TT X).1 309 1081 = i_psh (.int (1)) 1082 := (congrFun tt_L_law 1081).trans rfl
theorem t_L_law_1081 {X : ev_E} {st : List Value} {lo : List Value} {h : ev_M} {n q : Nat} {P : ev_O → ev_M → Nat → Nat → Prop} : ev_ok (ev_TT X) 309 1081 lo st h n q P ↔ ev_ok (ev_TT X) 309 1082 lo ((.int (1)) :: st) h n q P := ev_go (congrFun (e_L_law_1081 (X := X)) _)
set_option maxRecDepth 100000 in
theorem e_L_law_1082 {X : ev_E} : (ev_TT X).1 309 1082 = i_ii (fun a b => a + b) 1083 := (congrFun tt_L_law 1082).trans rfl
theorem t_L_law_1082 {X : ev_E} {x y : Int32} {st : List Value} {lo : List Value} {h : ev_M} {n q : Nat} {P : ev_O → ev_M → Nat → Nat → Prop} : ev_ok (ev_TT X) 309 1082 lo (.int y :: .int x :: st) h n q P ↔ ev_ok (ev_TT X) 309 1083 lo (.int (x + y) :: st) h n q P := ev_go (congrFun (e_L_law_1082 (X := X)) _)
set_option maxRecDepth 100000 in
theorem e_L_law_1083 {X : ev_E} : (ev_TT X).1 309 1083 = i_ald X ev_tI 1084 := (congrFun tt_L_law 1083).trans rfl
theorem t_L_law_1083 {X : ev_E} {i : Int32} {x : Nat} {st : List Value} {lo : List Value} {h : ev_M} {n q : Nat} {P : ev_O → ev_M → Nat → Nat → Prop} : ev_ok (ev_TT X) 309 1083 lo (.int i :: .ref x :: st) h n q P ↔ ev_inA (ev_lk X h x) i ev_tI ∧ ev_ok (ev_TT X) 309 1084 lo (ev_aG (ev_lk X h x) i :: st) h n q P := ev_goG (congrFun (e_L_law_1083 (X := X)) _)
set_option maxRecDepth 100000 in
theorem e_L_law_1084 {X : ev_E} : (ev_TT X).1 309 1084 = i_cV X 241 1 13 3 1087 := (congrFun tt_L_law 1084).trans rfl
theorem t_L_law_1084 {X : ev_E} {x : Nat} {y0 : Int32} {lo : List Value} {h : ev_M} {n q : Nat} {P : ev_O → ev_M → Nat → Nat → Prop} : ev_ok (ev_TT X) 309 1084 lo [.int y0, .ref x] h n q P ↔ ev_isK (ev_lk X h x) 13 ∧ ev_ok (ev_TT X) 241 0 [.ref x, .int y0, ev_J] [] h n q (ev_kr (ev_TT X) 309 1084 1087 lo [] P) := (ev_caG (congrFun (e_L_law_1084 (X := X)) _)).trans (and_congr_left' ⟨fun k => k.1, fun k => ⟨k, rfl, Or.inl (Nat.le_of_ble_eq_true rfl), Nat.le_of_ble_eq_true rfl⟩⟩)
theorem x_L_law_1084 {X : ev_E} {lo st : List Value} {h : ev_M} {n q : Nat} {P : ev_O → ev_M → Nat → Nat → Prop} {E : Nat} : ev_kr (ev_TT X) 309 1084 1087 lo st P (.inr E) h n q ↔ P (.inr E) h n q := ev_kr_x rfl
set_option maxRecDepth 100000 in
theorem e_L_law_1087 {X : ev_E} : (ev_TT X).1 309 1087 = i_is 6 1089 := (congrFun tt_L_law 1087).trans rfl
theorem t_L_law_1087 {X : ev_E} {st : List Value} {v : Int32} {a0 a1 a2 a3 a4 a5 a6 : Value} {h : ev_M} {n q : Nat} {P : ev_O → ev_M → Nat → Nat → Prop} : ev_ok (ev_TT X) 309 1087 [a0, a1, a2, a3, a4, a5, a6] ((.int v) :: st) h n q P ↔ ev_ok (ev_TT X) 309 1089 [a0, a1, a2, a3, a4, ev_k a5, .int v] st h n q P := ev_go (congrFun (e_L_law_1087 (X := X)) _)
set_option maxRecDepth 100000 in
theorem e_L_law_1089 {X : ev_E} : (ev_TT X).1 309 1089 = i_goto 1713 := (congrFun tt_L_law 1089).trans rfl
theorem t_L_law_1089 {X : ev_E} {st : List Value} {lo : List Value} {h : ev_M} {n q : Nat} {P : ev_O → ev_M → Nat → Nat → Prop} : ev_ok (ev_TT X) 309 1089 lo st h n q P ↔ ev_ok (ev_TT X) 309 1713 lo st h n q P := ev_go (congrFun (e_L_law_1089 (X := X)) _)
set_option maxRecDepth 100000 in
theorem e_L_law_1092 {X : ev_E} : (ev_TT X).1 309 1092 = i_al 1 1093 := (congrFun tt_L_law 1092).trans rfl
theorem t_L_law_1092 {X : ev_E} {st : List Value} {v : Nat} {a0 a2 a3 a4 a5 a6 : Value} {h : ev_M} {n q : Nat} {P : ev_O → ev_M → Nat → Nat → Prop} : ev_ok (ev_TT X) 309 1092 [a0, .ref v, a2, a3, a4, a5, a6] st h n q P ↔ ev_ok (ev_TT X) 309 1093 [a0, .ref v, a2, a3, a4, a5, a6] ((.ref v) :: st) h n q P := ev_go (congrFun (e_L_law_1092 (X := X)) _)
set_option maxRecDepth 100000 in
theorem e_L_law_1093 {X : ev_E} : (ev_TT X).1 309 1093 = i_al 0 1094 := (congrFun tt_L_law 1093).trans rfl
theorem t_L_law_1093 {X : ev_E} {st : List Value} {v : Nat} {a1 a2 a3 a4 a5 a6 : Value} {h : ev_M} {n q : Nat} {P : ev_O → ev_M → Nat → Nat → Prop} : ev_ok (ev_TT X) 309 1093 [.ref v, a1, a2, a3, a4, a5, a6] st h n q P ↔ ev_ok (ev_TT X) 309 1094 [.ref v, a1, a2, a3, a4, a5, a6] ((.ref v) :: st) h n q P := ev_go (congrFun (e_L_law_1093 (X := X)) _)
set_option maxRecDepth 100000 in
theorem e_L_law_1094 {X : ev_E} : (ev_TT X).1 309 1094 = i_il 4 1096 := (congrFun tt_L_law 1094).trans rfl
theorem t_L_law_1094 {X : ev_E} {st : List Value} {v : Int32} {a0 a1 a2 a3 a5 a6 : Value} {h : ev_M} {n q : Nat} {P : ev_O → ev_M → Nat → Nat → Prop} : ev_ok (ev_TT X) 309 1094 [a0, a1, a2, a3, .int v, a5, a6] st h n q P ↔ ev_ok (ev_TT X) 309 1096 [a0, a1, a2, a3, .int v, a5, a6] ((.int v) :: st) h n q P := ev_go (congrFun (e_L_law_1094 (X := X)) _)
set_option maxRecDepth 100000 in
theorem e_L_law_1096 {X : ev_E} : (ev_TT X).1 309 1096 = i_psh (.int (1)) 1097 := (congrFun tt_L_law 1096).trans rfl
theorem t_L_law_1096 {X : ev_E} {st : List Value} {lo : List Value} {h : ev_M} {n q : Nat} {P : ev_O → ev_M → Nat → Nat → Prop} : ev_ok (ev_TT X) 309 1096 lo st h n q P ↔ ev_ok (ev_TT X) 309 1097 lo ((.int (1)) :: st) h n q P := ev_go (congrFun (e_L_law_1096 (X := X)) _)
set_option maxRecDepth 100000 in
theorem e_L_law_1097 {X : ev_E} : (ev_TT X).1 309 1097 = i_ii (fun a b => a + b) 1098 := (congrFun tt_L_law 1097).trans rfl
theorem t_L_law_1097 {X : ev_E} {x y : Int32} {st : List Value} {lo : List Value} {h : ev_M} {n q : Nat} {P : ev_O → ev_M → Nat → Nat → Prop} : ev_ok (ev_TT X) 309 1097 lo (.int y :: .int x :: st) h n q P ↔ ev_ok (ev_TT X) 309 1098 lo (.int (x + y) :: st) h n q P := ev_go (congrFun (e_L_law_1097 (X := X)) _)
set_option maxRecDepth 100000 in
theorem e_L_law_1098 {X : ev_E} : (ev_TT X).1 309 1098 = i_ald X ev_tI 1099 := (congrFun tt_L_law 1098).trans rfl
theorem t_L_law_1098 {X : ev_E} {i : Int32} {x : Nat} {st : List Value} {lo : List Value} {h : ev_M} {n q : Nat} {P : ev_O → ev_M → Nat → Nat → Prop} : ev_ok (ev_TT X) 309 1098 lo (.int i :: .ref x :: st) h n q P ↔ ev_inA (ev_lk X h x) i ev_tI ∧ ev_ok (ev_TT X) 309 1099 lo (ev_aG (ev_lk X h x) i :: st) h n q P := ev_goG (congrFun (e_L_law_1098 (X := X)) _)
set_option maxRecDepth 100000 in
theorem e_L_law_1099 {X : ev_E} : (ev_TT X).1 309 1099 = i_al 3 1100 := (congrFun tt_L_law 1099).trans rfl
theorem t_L_law_1099 {X : ev_E} {st : List Value} {v : Nat} {a0 a1 a2 a4 a5 a6 : Value} {h : ev_M} {n q : Nat} {P : ev_O → ev_M → Nat → Nat → Prop} : ev_ok (ev_TT X) 309 1099 [a0, a1, a2, .ref v, a4, a5, a6] st h n q P ↔ ev_ok (ev_TT X) 309 1100 [a0, a1, a2, .ref v, a4, a5, a6] ((.ref v) :: st) h n q P := ev_go (congrFun (e_L_law_1099 (X := X)) _)
set_option maxRecDepth 100000 in
theorem e_L_law_1100 {X : ev_E} : (ev_TT X).1 309 1100 = i_cS 221 3 4 1103 := (congrFun tt_L_law 1100).trans rfl
theorem t_L_law_1100 {X : ev_E} {y2 : Nat} {y1 : Int32} {y0 : Nat} {lo : List Value} {h : ev_M} {n q : Nat} {P : ev_O → ev_M → Nat → Nat → Prop} : ev_ok (ev_TT X) 309 1100 lo [.ref y2, .int y1, .ref y0] h n q P ↔ ev_ok (ev_TT X) 221 0 [.ref y0, .int y1, .ref y2, ev_J] [] h n q (ev_kr (ev_TT X) 309 1100 1103 lo [] P) := (ev_caG (congrFun (e_L_law_1100 (X := X)) _)).trans ⟨fun k => k.2, fun k => ⟨⟨rfl, Nat.le_of_ble_eq_true rfl, Nat.le_of_ble_eq_true rfl⟩, k⟩⟩
set_option maxRecDepth 100000 in
theorem e_L_law_1103 {X : ev_E} : (ev_TT X).1 309 1103 = i_is 5 1105 := (congrFun tt_L_law 1103).trans rfl
theorem t_L_law_1103 {X : ev_E} {st : List Value} {v : Int32} {a0 a1 a2 a3 a4 a5 a6 : Value} {h : ev_M} {n q : Nat} {P : ev_O → ev_M → Nat → Nat → Prop} : ev_ok (ev_TT X) 309 1103 [a0, a1, a2, a3, a4, a5, a6] ((.int v) :: st) h n q P ↔ ev_ok (ev_TT X) 309 1105 [a0, a1, a2, a3, ev_k a4, .int v, a6] st h n q P := ev_go (congrFun (e_L_law_1103 (X := X)) _)
set_option maxRecDepth 100000 in
theorem e_L_law_1105 {X : ev_E} : (ev_TT X).1 309 1105 = i_al 2 1106 := (congrFun tt_L_law 1105).trans rfl
theorem t_L_law_1105 {X : ev_E} {st : List Value} {v : Nat} {a0 a1 a3 a4 a5 a6 : Value} {h : ev_M} {n q : Nat} {P : ev_O → ev_M → Nat → Nat → Prop} : ev_ok (ev_TT X) 309 1105 [a0, a1, .ref v, a3, a4, a5, a6] st h n q P ↔ ev_ok (ev_TT X) 309 1106 [a0, a1, .ref v, a3, a4, a5, a6] ((.ref v) :: st) h n q P := ev_go (congrFun (e_L_law_1105 (X := X)) _)
set_option maxRecDepth 100000 in
theorem e_L_law_1106 {X : ev_E} : (ev_TT X).1 309 1106 = i_al 0 1107 := (congrFun tt_L_law 1106).trans rfl
theorem t_L_law_1106 {X : ev_E} {st : List Value} {v : Nat} {a1 a2 a3 a4 a5 a6 : Value} {h : ev_M} {n q : Nat} {P : ev_O → ev_M → Nat → Nat → Prop} : ev_ok (ev_TT X) 309 1106 [.ref v, a1, a2, a3, a4, a5, a6] st h n q P ↔ ev_ok (ev_TT X) 309 1107 [.ref v, a1, a2, a3, a4, a5, a6] ((.ref v) :: st) h n q P := ev_go (congrFun (e_L_law_1106 (X := X)) _)
set_option maxRecDepth 100000 in
theorem e_L_law_1107 {X : ev_E} : (ev_TT X).1 309 1107 = i_il 4 1109 := (congrFun tt_L_law 1107).trans rfl
theorem t_L_law_1107 {X : ev_E} {st : List Value} {v : Int32} {a0 a1 a2 a3 a5 a6 : Value} {h : ev_M} {n q : Nat} {P : ev_O → ev_M → Nat → Nat → Prop} : ev_ok (ev_TT X) 309 1107 [a0, a1, a2, a3, .int v, a5, a6] st h n q P ↔ ev_ok (ev_TT X) 309 1109 [a0, a1, a2, a3, .int v, a5, a6] ((.int v) :: st) h n q P := ev_go (congrFun (e_L_law_1107 (X := X)) _)
set_option maxRecDepth 100000 in
theorem e_L_law_1109 {X : ev_E} : (ev_TT X).1 309 1109 = i_psh (.int (1)) 1110 := (congrFun tt_L_law 1109).trans rfl
theorem t_L_law_1109 {X : ev_E} {st : List Value} {lo : List Value} {h : ev_M} {n q : Nat} {P : ev_O → ev_M → Nat → Nat → Prop} : ev_ok (ev_TT X) 309 1109 lo st h n q P ↔ ev_ok (ev_TT X) 309 1110 lo ((.int (1)) :: st) h n q P := ev_go (congrFun (e_L_law_1109 (X := X)) _)
set_option maxRecDepth 100000 in
theorem e_L_law_1110 {X : ev_E} : (ev_TT X).1 309 1110 = i_ii (fun a b => a + b) 1111 := (congrFun tt_L_law 1110).trans rfl
theorem t_L_law_1110 {X : ev_E} {x y : Int32} {st : List Value} {lo : List Value} {h : ev_M} {n q : Nat} {P : ev_O → ev_M → Nat → Nat → Prop} : ev_ok (ev_TT X) 309 1110 lo (.int y :: .int x :: st) h n q P ↔ ev_ok (ev_TT X) 309 1111 lo (.int (x + y) :: st) h n q P := ev_go (congrFun (e_L_law_1110 (X := X)) _)
set_option maxRecDepth 100000 in
theorem e_L_law_1111 {X : ev_E} : (ev_TT X).1 309 1111 = i_ald X ev_tI 1112 := (congrFun tt_L_law 1111).trans rfl
theorem t_L_law_1111 {X : ev_E} {i : Int32} {x : Nat} {st : List Value} {lo : List Value} {h : ev_M} {n q : Nat} {P : ev_O → ev_M → Nat → Nat → Prop} : ev_ok (ev_TT X) 309 1111 lo (.int i :: .ref x :: st) h n q P ↔ ev_inA (ev_lk X h x) i ev_tI ∧ ev_ok (ev_TT X) 309 1112 lo (ev_aG (ev_lk X h x) i :: st) h n q P := ev_goG (congrFun (e_L_law_1111 (X := X)) _)
set_option maxRecDepth 100000 in
theorem e_L_law_1112 {X : ev_E} : (ev_TT X).1 309 1112 = i_cV X 211 1 13 3 1115 := (congrFun tt_L_law 1112).trans rfl
theorem t_L_law_1112 {X : ev_E} {x : Nat} {y0 : Int32} {lo : List Value} {h : ev_M} {n q : Nat} {P : ev_O → ev_M → Nat → Nat → Prop} : ev_ok (ev_TT X) 309 1112 lo [.int y0, .ref x] h n q P ↔ ev_isK (ev_lk X h x) 13 ∧ ev_ok (ev_TT X) 211 0 [.ref x, .int y0, ev_J] [] h n q (ev_kr (ev_TT X) 309 1112 1115 lo [] P) := (ev_caG (congrFun (e_L_law_1112 (X := X)) _)).trans (and_congr_left' ⟨fun k => k.1, fun k => ⟨k, rfl, Or.inl (Nat.le_of_ble_eq_true rfl), Nat.le_of_ble_eq_true rfl⟩⟩)
theorem x_L_law_1112 {X : ev_E} {lo st : List Value} {h : ev_M} {n q : Nat} {P : ev_O → ev_M → Nat → Nat → Prop} {E : Nat} : ev_kr (ev_TT X) 309 1112 1115 lo st P (.inr E) h n q ↔ P (.inr E) h n q := ev_kr_x rfl
set_option maxRecDepth 100000 in
theorem e_L_law_1115 {X : ev_E} : (ev_TT X).1 309 1115 = i_is 6 1117 := (congrFun tt_L_law 1115).trans rfl
theorem t_L_law_1115 {X : ev_E} {st : List Value} {v : Int32} {a0 a1 a2 a3 a4 a5 a6 : Value} {h : ev_M} {n q : Nat} {P : ev_O → ev_M → Nat → Nat → Prop} : ev_ok (ev_TT X) 309 1115 [a0, a1, a2, a3, a4, a5, a6] ((.int v) :: st) h n q P ↔ ev_ok (ev_TT X) 309 1117 [a0, a1, a2, a3, a4, ev_k a5, .int v] st h n q P := ev_go (congrFun (e_L_law_1115 (X := X)) _)
set_option maxRecDepth 100000 in
theorem e_L_law_1117 {X : ev_E} : (ev_TT X).1 309 1117 = i_goto 1713 := (congrFun tt_L_law 1117).trans rfl
theorem t_L_law_1117 {X : ev_E} {st : List Value} {lo : List Value} {h : ev_M} {n q : Nat} {P : ev_O → ev_M → Nat → Nat → Prop} : ev_ok (ev_TT X) 309 1117 lo st h n q P ↔ ev_ok (ev_TT X) 309 1713 lo st h n q P := ev_go (congrFun (e_L_law_1117 (X := X)) _)
set_option maxRecDepth 100000 in
theorem e_L_law_1120 {X : ev_E} : (ev_TT X).1 309 1120 = i_al 1 1121 := (congrFun tt_L_law 1120).trans rfl
theorem t_L_law_1120 {X : ev_E} {st : List Value} {v : Nat} {a0 a2 a3 a4 a5 a6 : Value} {h : ev_M} {n q : Nat} {P : ev_O → ev_M → Nat → Nat → Prop} : ev_ok (ev_TT X) 309 1120 [a0, .ref v, a2, a3, a4, a5, a6] st h n q P ↔ ev_ok (ev_TT X) 309 1121 [a0, .ref v, a2, a3, a4, a5, a6] ((.ref v) :: st) h n q P := ev_go (congrFun (e_L_law_1120 (X := X)) _)
set_option maxRecDepth 100000 in
theorem e_L_law_1121 {X : ev_E} : (ev_TT X).1 309 1121 = i_al 0 1122 := (congrFun tt_L_law 1121).trans rfl
theorem t_L_law_1121 {X : ev_E} {st : List Value} {v : Nat} {a1 a2 a3 a4 a5 a6 : Value} {h : ev_M} {n q : Nat} {P : ev_O → ev_M → Nat → Nat → Prop} : ev_ok (ev_TT X) 309 1121 [.ref v, a1, a2, a3, a4, a5, a6] st h n q P ↔ ev_ok (ev_TT X) 309 1122 [.ref v, a1, a2, a3, a4, a5, a6] ((.ref v) :: st) h n q P := ev_go (congrFun (e_L_law_1121 (X := X)) _)
set_option maxRecDepth 100000 in
theorem e_L_law_1122 {X : ev_E} : (ev_TT X).1 309 1122 = i_il 4 1124 := (congrFun tt_L_law 1122).trans rfl
theorem t_L_law_1122 {X : ev_E} {st : List Value} {v : Int32} {a0 a1 a2 a3 a5 a6 : Value} {h : ev_M} {n q : Nat} {P : ev_O → ev_M → Nat → Nat → Prop} : ev_ok (ev_TT X) 309 1122 [a0, a1, a2, a3, .int v, a5, a6] st h n q P ↔ ev_ok (ev_TT X) 309 1124 [a0, a1, a2, a3, .int v, a5, a6] ((.int v) :: st) h n q P := ev_go (congrFun (e_L_law_1122 (X := X)) _)
set_option maxRecDepth 100000 in
theorem e_L_law_1124 {X : ev_E} : (ev_TT X).1 309 1124 = i_psh (.int (1)) 1125 := (congrFun tt_L_law 1124).trans rfl
theorem t_L_law_1124 {X : ev_E} {st : List Value} {lo : List Value} {h : ev_M} {n q : Nat} {P : ev_O → ev_M → Nat → Nat → Prop} : ev_ok (ev_TT X) 309 1124 lo st h n q P ↔ ev_ok (ev_TT X) 309 1125 lo ((.int (1)) :: st) h n q P := ev_go (congrFun (e_L_law_1124 (X := X)) _)
set_option maxRecDepth 100000 in
theorem e_L_law_1125 {X : ev_E} : (ev_TT X).1 309 1125 = i_ii (fun a b => a + b) 1126 := (congrFun tt_L_law 1125).trans rfl
theorem t_L_law_1125 {X : ev_E} {x y : Int32} {st : List Value} {lo : List Value} {h : ev_M} {n q : Nat} {P : ev_O → ev_M → Nat → Nat → Prop} : ev_ok (ev_TT X) 309 1125 lo (.int y :: .int x :: st) h n q P ↔ ev_ok (ev_TT X) 309 1126 lo (.int (x + y) :: st) h n q P := ev_go (congrFun (e_L_law_1125 (X := X)) _)
set_option maxRecDepth 100000 in
theorem e_L_law_1126 {X : ev_E} : (ev_TT X).1 309 1126 = i_ald X ev_tI 1127 := (congrFun tt_L_law 1126).trans rfl
theorem t_L_law_1126 {X : ev_E} {i : Int32} {x : Nat} {st : List Value} {lo : List Value} {h : ev_M} {n q : Nat} {P : ev_O → ev_M → Nat → Nat → Prop} : ev_ok (ev_TT X) 309 1126 lo (.int i :: .ref x :: st) h n q P ↔ ev_inA (ev_lk X h x) i ev_tI ∧ ev_ok (ev_TT X) 309 1127 lo (ev_aG (ev_lk X h x) i :: st) h n q P := ev_goG (congrFun (e_L_law_1126 (X := X)) _)
set_option maxRecDepth 100000 in
theorem e_L_law_1127 {X : ev_E} : (ev_TT X).1 309 1127 = i_al 3 1128 := (congrFun tt_L_law 1127).trans rfl
theorem t_L_law_1127 {X : ev_E} {st : List Value} {v : Nat} {a0 a1 a2 a4 a5 a6 : Value} {h : ev_M} {n q : Nat} {P : ev_O → ev_M → Nat → Nat → Prop} : ev_ok (ev_TT X) 309 1127 [a0, a1, a2, .ref v, a4, a5, a6] st h n q P ↔ ev_ok (ev_TT X) 309 1128 [a0, a1, a2, .ref v, a4, a5, a6] ((.ref v) :: st) h n q P := ev_go (congrFun (e_L_law_1127 (X := X)) _)
set_option maxRecDepth 100000 in
theorem e_L_law_1128 {X : ev_E} : (ev_TT X).1 309 1128 = i_cS 182 3 4 1131 := (congrFun tt_L_law 1128).trans rfl
theorem t_L_law_1128 {X : ev_E} {y2 : Nat} {y1 : Int32} {y0 : Nat} {lo : List Value} {h : ev_M} {n q : Nat} {P : ev_O → ev_M → Nat → Nat → Prop} : ev_ok (ev_TT X) 309 1128 lo [.ref y2, .int y1, .ref y0] h n q P ↔ ev_ok (ev_TT X) 182 0 [.ref y0, .int y1, .ref y2, ev_J] [] h n q (ev_kr (ev_TT X) 309 1128 1131 lo [] P) := (ev_caG (congrFun (e_L_law_1128 (X := X)) _)).trans ⟨fun k => k.2, fun k => ⟨⟨rfl, Nat.le_of_ble_eq_true rfl, Nat.le_of_ble_eq_true rfl⟩, k⟩⟩
set_option maxRecDepth 100000 in
theorem e_L_law_1131 {X : ev_E} : (ev_TT X).1 309 1131 = i_is 5 1133 := (congrFun tt_L_law 1131).trans rfl
theorem t_L_law_1131 {X : ev_E} {st : List Value} {v : Int32} {a0 a1 a2 a3 a4 a5 a6 : Value} {h : ev_M} {n q : Nat} {P : ev_O → ev_M → Nat → Nat → Prop} : ev_ok (ev_TT X) 309 1131 [a0, a1, a2, a3, a4, a5, a6] ((.int v) :: st) h n q P ↔ ev_ok (ev_TT X) 309 1133 [a0, a1, a2, a3, ev_k a4, .int v, a6] st h n q P := ev_go (congrFun (e_L_law_1131 (X := X)) _)
set_option maxRecDepth 100000 in
theorem e_L_law_1133 {X : ev_E} : (ev_TT X).1 309 1133 = i_al 2 1134 := (congrFun tt_L_law 1133).trans rfl
theorem t_L_law_1133 {X : ev_E} {st : List Value} {v : Nat} {a0 a1 a3 a4 a5 a6 : Value} {h : ev_M} {n q : Nat} {P : ev_O → ev_M → Nat → Nat → Prop} : ev_ok (ev_TT X) 309 1133 [a0, a1, .ref v, a3, a4, a5, a6] st h n q P ↔ ev_ok (ev_TT X) 309 1134 [a0, a1, .ref v, a3, a4, a5, a6] ((.ref v) :: st) h n q P := ev_go (congrFun (e_L_law_1133 (X := X)) _)
set_option maxRecDepth 100000 in
theorem e_L_law_1134 {X : ev_E} : (ev_TT X).1 309 1134 = i_al 0 1135 := (congrFun tt_L_law 1134).trans rfl
theorem t_L_law_1134 {X : ev_E} {st : List Value} {v : Nat} {a1 a2 a3 a4 a5 a6 : Value} {h : ev_M} {n q : Nat} {P : ev_O → ev_M → Nat → Nat → Prop} : ev_ok (ev_TT X) 309 1134 [.ref v, a1, a2, a3, a4, a5, a6] st h n q P ↔ ev_ok (ev_TT X) 309 1135 [.ref v, a1, a2, a3, a4, a5, a6] ((.ref v) :: st) h n q P := ev_go (congrFun (e_L_law_1134 (X := X)) _)
set_option maxRecDepth 100000 in
theorem e_L_law_1135 {X : ev_E} : (ev_TT X).1 309 1135 = i_il 4 1137 := (congrFun tt_L_law 1135).trans rfl
theorem t_L_law_1135 {X : ev_E} {st : List Value} {v : Int32} {a0 a1 a2 a3 a5 a6 : Value} {h : ev_M} {n q : Nat} {P : ev_O → ev_M → Nat → Nat → Prop} : ev_ok (ev_TT X) 309 1135 [a0, a1, a2, a3, .int v, a5, a6] st h n q P ↔ ev_ok (ev_TT X) 309 1137 [a0, a1, a2, a3, .int v, a5, a6] ((.int v) :: st) h n q P := ev_go (congrFun (e_L_law_1135 (X := X)) _)
set_option maxRecDepth 100000 in
theorem e_L_law_1137 {X : ev_E} : (ev_TT X).1 309 1137 = i_psh (.int (1)) 1138 := (congrFun tt_L_law 1137).trans rfl
theorem t_L_law_1137 {X : ev_E} {st : List Value} {lo : List Value} {h : ev_M} {n q : Nat} {P : ev_O → ev_M → Nat → Nat → Prop} : ev_ok (ev_TT X) 309 1137 lo st h n q P ↔ ev_ok (ev_TT X) 309 1138 lo ((.int (1)) :: st) h n q P := ev_go (congrFun (e_L_law_1137 (X := X)) _)
set_option maxRecDepth 100000 in
theorem e_L_law_1138 {X : ev_E} : (ev_TT X).1 309 1138 = i_ii (fun a b => a + b) 1139 := (congrFun tt_L_law 1138).trans rfl
theorem t_L_law_1138 {X : ev_E} {x y : Int32} {st : List Value} {lo : List Value} {h : ev_M} {n q : Nat} {P : ev_O → ev_M → Nat → Nat → Prop} : ev_ok (ev_TT X) 309 1138 lo (.int y :: .int x :: st) h n q P ↔ ev_ok (ev_TT X) 309 1139 lo (.int (x + y) :: st) h n q P := ev_go (congrFun (e_L_law_1138 (X := X)) _)
set_option maxRecDepth 100000 in
theorem e_L_law_1139 {X : ev_E} : (ev_TT X).1 309 1139 = i_ald X ev_tI 1140 := (congrFun tt_L_law 1139).trans rfl
theorem t_L_law_1139 {X : ev_E} {i : Int32} {x : Nat} {st : List Value} {lo : List Value} {h : ev_M} {n q : Nat} {P : ev_O → ev_M → Nat → Nat → Prop} : ev_ok (ev_TT X) 309 1139 lo (.int i :: .ref x :: st) h n q P ↔ ev_inA (ev_lk X h x) i ev_tI ∧ ev_ok (ev_TT X) 309 1140 lo (ev_aG (ev_lk X h x) i :: st) h n q P := ev_goG (congrFun (e_L_law_1139 (X := X)) _)
set_option maxRecDepth 100000 in
theorem e_L_law_1140 {X : ev_E} : (ev_TT X).1 309 1140 = i_cV X 164 1 13 2 1143 := (congrFun tt_L_law 1140).trans rfl
theorem t_L_law_1140 {X : ev_E} {x : Nat} {y0 : Int32} {lo : List Value} {h : ev_M} {n q : Nat} {P : ev_O → ev_M → Nat → Nat → Prop} : ev_ok (ev_TT X) 309 1140 lo [.int y0, .ref x] h n q P ↔ ev_isK (ev_lk X h x) 13 ∧ ev_ok (ev_TT X) 164 0 [.ref x, .int y0] [] h n q (ev_kr (ev_TT X) 309 1140 1143 lo [] P) := (ev_caG (congrFun (e_L_law_1140 (X := X)) _)).trans (and_congr_left' ⟨fun k => k.1, fun k => ⟨k, rfl, Or.inl (Nat.le_of_ble_eq_true rfl), Nat.le_of_ble_eq_true rfl⟩⟩)
theorem x_L_law_1140 {X : ev_E} {lo st : List Value} {h : ev_M} {n q : Nat} {P : ev_O → ev_M → Nat → Nat → Prop} {E : Nat} : ev_kr (ev_TT X) 309 1140 1143 lo st P (.inr E) h n q ↔ P (.inr E) h n q := ev_kr_x rfl
set_option maxRecDepth 100000 in
theorem e_L_law_1143 {X : ev_E} : (ev_TT X).1 309 1143 = i_is 6 1145 := (congrFun tt_L_law 1143).trans rfl
theorem t_L_law_1143 {X : ev_E} {st : List Value} {v : Int32} {a0 a1 a2 a3 a4 a5 a6 : Value} {h : ev_M} {n q : Nat} {P : ev_O → ev_M → Nat → Nat → Prop} : ev_ok (ev_TT X) 309 1143 [a0, a1, a2, a3, a4, a5, a6] ((.int v) :: st) h n q P ↔ ev_ok (ev_TT X) 309 1145 [a0, a1, a2, a3, a4, ev_k a5, .int v] st h n q P := ev_go (congrFun (e_L_law_1143 (X := X)) _)
set_option maxRecDepth 100000 in
theorem e_L_law_1145 {X : ev_E} : (ev_TT X).1 309 1145 = i_goto 1713 := (congrFun tt_L_law 1145).trans rfl
theorem t_L_law_1145 {X : ev_E} {st : List Value} {lo : List Value} {h : ev_M} {n q : Nat} {P : ev_O → ev_M → Nat → Nat → Prop} : ev_ok (ev_TT X) 309 1145 lo st h n q P ↔ ev_ok (ev_TT X) 309 1713 lo st h n q P := ev_go (congrFun (e_L_law_1145 (X := X)) _)
set_option maxRecDepth 100000 in
theorem e_L_law_1148 {X : ev_E} : (ev_TT X).1 309 1148 = i_al 1 1149 := (congrFun tt_L_law 1148).trans rfl
theorem t_L_law_1148 {X : ev_E} {st : List Value} {v : Nat} {a0 a2 a3 a4 a5 a6 : Value} {h : ev_M} {n q : Nat} {P : ev_O → ev_M → Nat → Nat → Prop} : ev_ok (ev_TT X) 309 1148 [a0, .ref v, a2, a3, a4, a5, a6] st h n q P ↔ ev_ok (ev_TT X) 309 1149 [a0, .ref v, a2, a3, a4, a5, a6] ((.ref v) :: st) h n q P := ev_go (congrFun (e_L_law_1148 (X := X)) _)
set_option maxRecDepth 100000 in
theorem e_L_law_1149 {X : ev_E} : (ev_TT X).1 309 1149 = i_al 0 1150 := (congrFun tt_L_law 1149).trans rfl
theorem t_L_law_1149 {X : ev_E} {st : List Value} {v : Nat} {a1 a2 a3 a4 a5 a6 : Value} {h : ev_M} {n q : Nat} {P : ev_O → ev_M → Nat → Nat → Prop} : ev_ok (ev_TT X) 309 1149 [.ref v, a1, a2, a3, a4, a5, a6] st h n q P ↔ ev_ok (ev_TT X) 309 1150 [.ref v, a1, a2, a3, a4, a5, a6] ((.ref v) :: st) h n q P := ev_go (congrFun (e_L_law_1149 (X := X)) _)
set_option maxRecDepth 100000 in
theorem e_L_law_1150 {X : ev_E} : (ev_TT X).1 309 1150 = i_il 4 1152 := (congrFun tt_L_law 1150).trans rfl
theorem t_L_law_1150 {X : ev_E} {st : List Value} {v : Int32} {a0 a1 a2 a3 a5 a6 : Value} {h : ev_M} {n q : Nat} {P : ev_O → ev_M → Nat → Nat → Prop} : ev_ok (ev_TT X) 309 1150 [a0, a1, a2, a3, .int v, a5, a6] st h n q P ↔ ev_ok (ev_TT X) 309 1152 [a0, a1, a2, a3, .int v, a5, a6] ((.int v) :: st) h n q P := ev_go (congrFun (e_L_law_1150 (X := X)) _)
set_option maxRecDepth 100000 in
theorem e_L_law_1152 {X : ev_E} : (ev_TT X).1 309 1152 = i_psh (.int (1)) 1153 := (congrFun tt_L_law 1152).trans rfl
theorem t_L_law_1152 {X : ev_E} {st : List Value} {lo : List Value} {h : ev_M} {n q : Nat} {P : ev_O → ev_M → Nat → Nat → Prop} : ev_ok (ev_TT X) 309 1152 lo st h n q P ↔ ev_ok (ev_TT X) 309 1153 lo ((.int (1)) :: st) h n q P := ev_go (congrFun (e_L_law_1152 (X := X)) _)
set_option maxRecDepth 100000 in
theorem e_L_law_1153 {X : ev_E} : (ev_TT X).1 309 1153 = i_ii (fun a b => a + b) 1154 := (congrFun tt_L_law 1153).trans rfl
theorem t_L_law_1153 {X : ev_E} {x y : Int32} {st : List Value} {lo : List Value} {h : ev_M} {n q : Nat} {P : ev_O → ev_M → Nat → Nat → Prop} : ev_ok (ev_TT X) 309 1153 lo (.int y :: .int x :: st) h n q P ↔ ev_ok (ev_TT X) 309 1154 lo (.int (x + y) :: st) h n q P := ev_go (congrFun (e_L_law_1153 (X := X)) _)
set_option maxRecDepth 100000 in
theorem e_L_law_1154 {X : ev_E} : (ev_TT X).1 309 1154 = i_ald X ev_tI 1155 := (congrFun tt_L_law 1154).trans rfl
theorem t_L_law_1154 {X : ev_E} {i : Int32} {x : Nat} {st : List Value} {lo : List Value} {h : ev_M} {n q : Nat} {P : ev_O → ev_M → Nat → Nat → Prop} : ev_ok (ev_TT X) 309 1154 lo (.int i :: .ref x :: st) h n q P ↔ ev_inA (ev_lk X h x) i ev_tI ∧ ev_ok (ev_TT X) 309 1155 lo (ev_aG (ev_lk X h x) i :: st) h n q P := ev_goG (congrFun (e_L_law_1154 (X := X)) _)
set_option maxRecDepth 100000 in
theorem e_L_law_1155 {X : ev_E} : (ev_TT X).1 309 1155 = i_al 3 1156 := (congrFun tt_L_law 1155).trans rfl
theorem t_L_law_1155 {X : ev_E} {st : List Value} {v : Nat} {a0 a1 a2 a4 a5 a6 : Value} {h : ev_M} {n q : Nat} {P : ev_O → ev_M → Nat → Nat → Prop} : ev_ok (ev_TT X) 309 1155 [a0, a1, a2, .ref v, a4, a5, a6] st h n q P ↔ ev_ok (ev_TT X) 309 1156 [a0, a1, a2, .ref v, a4, a5, a6] ((.ref v) :: st) h n q P := ev_go (congrFun (e_L_law_1155 (X := X)) _)
set_option maxRecDepth 100000 in
theorem e_L_law_1156 {X : ev_E} : (ev_TT X).1 309 1156 = i_cS 134 3 4 1159 := (congrFun tt_L_law 1156).trans rfl
theorem t_L_law_1156 {X : ev_E} {y2 : Nat} {y1 : Int32} {y0 : Nat} {lo : List Value} {h : ev_M} {n q : Nat} {P : ev_O → ev_M → Nat → Nat → Prop} : ev_ok (ev_TT X) 309 1156 lo [.ref y2, .int y1, .ref y0] h n q P ↔ ev_ok (ev_TT X) 134 0 [.ref y0, .int y1, .ref y2, ev_J] [] h n q (ev_kr (ev_TT X) 309 1156 1159 lo [] P) := (ev_caG (congrFun (e_L_law_1156 (X := X)) _)).trans ⟨fun k => k.2, fun k => ⟨⟨rfl, Nat.le_of_ble_eq_true rfl, Nat.le_of_ble_eq_true rfl⟩, k⟩⟩
set_option maxRecDepth 100000 in
theorem e_L_law_1159 {X : ev_E} : (ev_TT X).1 309 1159 = i_is 5 1161 := (congrFun tt_L_law 1159).trans rfl
theorem t_L_law_1159 {X : ev_E} {st : List Value} {v : Int32} {a0 a1 a2 a3 a4 a5 a6 : Value} {h : ev_M} {n q : Nat} {P : ev_O → ev_M → Nat → Nat → Prop} : ev_ok (ev_TT X) 309 1159 [a0, a1, a2, a3, a4, a5, a6] ((.int v) :: st) h n q P ↔ ev_ok (ev_TT X) 309 1161 [a0, a1, a2, a3, ev_k a4, .int v, a6] st h n q P := ev_go (congrFun (e_L_law_1159 (X := X)) _)
set_option maxRecDepth 100000 in
theorem e_L_law_1161 {X : ev_E} : (ev_TT X).1 309 1161 = i_al 2 1162 := (congrFun tt_L_law 1161).trans rfl
theorem t_L_law_1161 {X : ev_E} {st : List Value} {v : Nat} {a0 a1 a3 a4 a5 a6 : Value} {h : ev_M} {n q : Nat} {P : ev_O → ev_M → Nat → Nat → Prop} : ev_ok (ev_TT X) 309 1161 [a0, a1, .ref v, a3, a4, a5, a6] st h n q P ↔ ev_ok (ev_TT X) 309 1162 [a0, a1, .ref v, a3, a4, a5, a6] ((.ref v) :: st) h n q P := ev_go (congrFun (e_L_law_1161 (X := X)) _)
set_option maxRecDepth 100000 in
theorem e_L_law_1162 {X : ev_E} : (ev_TT X).1 309 1162 = i_al 0 1163 := (congrFun tt_L_law 1162).trans rfl
theorem t_L_law_1162 {X : ev_E} {st : List Value} {v : Nat} {a1 a2 a3 a4 a5 a6 : Value} {h : ev_M} {n q : Nat} {P : ev_O → ev_M → Nat → Nat → Prop} : ev_ok (ev_TT X) 309 1162 [.ref v, a1, a2, a3, a4, a5, a6] st h n q P ↔ ev_ok (ev_TT X) 309 1163 [.ref v, a1, a2, a3, a4, a5, a6] ((.ref v) :: st) h n q P := ev_go (congrFun (e_L_law_1162 (X := X)) _)
set_option maxRecDepth 100000 in
theorem e_L_law_1163 {X : ev_E} : (ev_TT X).1 309 1163 = i_il 4 1165 := (congrFun tt_L_law 1163).trans rfl
theorem t_L_law_1163 {X : ev_E} {st : List Value} {v : Int32} {a0 a1 a2 a3 a5 a6 : Value} {h : ev_M} {n q : Nat} {P : ev_O → ev_M → Nat → Nat → Prop} : ev_ok (ev_TT X) 309 1163 [a0, a1, a2, a3, .int v, a5, a6] st h n q P ↔ ev_ok (ev_TT X) 309 1165 [a0, a1, a2, a3, .int v, a5, a6] ((.int v) :: st) h n q P := ev_go (congrFun (e_L_law_1163 (X := X)) _)
set_option maxRecDepth 100000 in
theorem e_L_law_1165 {X : ev_E} : (ev_TT X).1 309 1165 = i_psh (.int (1)) 1166 := (congrFun tt_L_law 1165).trans rfl
theorem t_L_law_1165 {X : ev_E} {st : List Value} {lo : List Value} {h : ev_M} {n q : Nat} {P : ev_O → ev_M → Nat → Nat → Prop} : ev_ok (ev_TT X) 309 1165 lo st h n q P ↔ ev_ok (ev_TT X) 309 1166 lo ((.int (1)) :: st) h n q P := ev_go (congrFun (e_L_law_1165 (X := X)) _)
set_option maxRecDepth 100000 in
theorem e_L_law_1166 {X : ev_E} : (ev_TT X).1 309 1166 = i_ii (fun a b => a + b) 1167 := (congrFun tt_L_law 1166).trans rfl
theorem t_L_law_1166 {X : ev_E} {x y : Int32} {st : List Value} {lo : List Value} {h : ev_M} {n q : Nat} {P : ev_O → ev_M → Nat → Nat → Prop} : ev_ok (ev_TT X) 309 1166 lo (.int y :: .int x :: st) h n q P ↔ ev_ok (ev_TT X) 309 1167 lo (.int (x + y) :: st) h n q P := ev_go (congrFun (e_L_law_1166 (X := X)) _)
set_option maxRecDepth 100000 in
theorem e_L_law_1167 {X : ev_E} : (ev_TT X).1 309 1167 = i_ald X ev_tI 1168 := (congrFun tt_L_law 1167).trans rfl
theorem t_L_law_1167 {X : ev_E} {i : Int32} {x : Nat} {st : List Value} {lo : List Value} {h : ev_M} {n q : Nat} {P : ev_O → ev_M → Nat → Nat → Prop} : ev_ok (ev_TT X) 309 1167 lo (.int i :: .ref x :: st) h n q P ↔ ev_inA (ev_lk X h x) i ev_tI ∧ ev_ok (ev_TT X) 309 1168 lo (ev_aG (ev_lk X h x) i :: st) h n q P := ev_goG (congrFun (e_L_law_1167 (X := X)) _)
set_option maxRecDepth 100000 in
theorem e_L_law_1168 {X : ev_E} : (ev_TT X).1 309 1168 = i_cV X 166 1 13 2 1171 := (congrFun tt_L_law 1168).trans rfl
theorem t_L_law_1168 {X : ev_E} {x : Nat} {y0 : Int32} {lo : List Value} {h : ev_M} {n q : Nat} {P : ev_O → ev_M → Nat → Nat → Prop} : ev_ok (ev_TT X) 309 1168 lo [.int y0, .ref x] h n q P ↔ ev_isK (ev_lk X h x) 13 ∧ ev_ok (ev_TT X) 166 0 [.ref x, .int y0] [] h n q (ev_kr (ev_TT X) 309 1168 1171 lo [] P) := (ev_caG (congrFun (e_L_law_1168 (X := X)) _)).trans (and_congr_left' ⟨fun k => k.1, fun k => ⟨k, rfl, Or.inl (Nat.le_of_ble_eq_true rfl), Nat.le_of_ble_eq_true rfl⟩⟩)
theorem x_L_law_1168 {X : ev_E} {lo st : List Value} {h : ev_M} {n q : Nat} {P : ev_O → ev_M → Nat → Nat → Prop} {E : Nat} : ev_kr (ev_TT X) 309 1168 1171 lo st P (.inr E) h n q ↔ P (.inr E) h n q := ev_kr_x rfl
set_option maxRecDepth 100000 in
theorem e_L_law_1171 {X : ev_E} : (ev_TT X).1 309 1171 = i_is 6 1173 := (congrFun tt_L_law 1171).trans rfl
theorem t_L_law_1171 {X : ev_E} {st : List Value} {v : Int32} {a0 a1 a2 a3 a4 a5 a6 : Value} {h : ev_M} {n q : Nat} {P : ev_O → ev_M → Nat → Nat → Prop} : ev_ok (ev_TT X) 309 1171 [a0, a1, a2, a3, a4, a5, a6] ((.int v) :: st) h n q P ↔ ev_ok (ev_TT X) 309 1173 [a0, a1, a2, a3, a4, ev_k a5, .int v] st h n q P := ev_go (congrFun (e_L_law_1171 (X := X)) _)
set_option maxRecDepth 100000 in
theorem e_L_law_1173 {X : ev_E} : (ev_TT X).1 309 1173 = i_goto 1713 := (congrFun tt_L_law 1173).trans rfl
theorem t_L_law_1173 {X : ev_E} {st : List Value} {lo : List Value} {h : ev_M} {n q : Nat} {P : ev_O → ev_M → Nat → Nat → Prop} : ev_ok (ev_TT X) 309 1173 lo st h n q P ↔ ev_ok (ev_TT X) 309 1713 lo st h n q P := ev_go (congrFun (e_L_law_1173 (X := X)) _)
set_option maxRecDepth 100000 in
theorem e_L_law_1176 {X : ev_E} : (ev_TT X).1 309 1176 = i_al 1 1177 := (congrFun tt_L_law 1176).trans rfl
theorem t_L_law_1176 {X : ev_E} {st : List Value} {v : Nat} {a0 a2 a3 a4 a5 a6 : Value} {h : ev_M} {n q : Nat} {P : ev_O → ev_M → Nat → Nat → Prop} : ev_ok (ev_TT X) 309 1176 [a0, .ref v, a2, a3, a4, a5, a6] st h n q P ↔ ev_ok (ev_TT X) 309 1177 [a0, .ref v, a2, a3, a4, a5, a6] ((.ref v) :: st) h n q P := ev_go (congrFun (e_L_law_1176 (X := X)) _)
set_option maxRecDepth 100000 in
theorem e_L_law_1177 {X : ev_E} : (ev_TT X).1 309 1177 = i_al 0 1178 := (congrFun tt_L_law 1177).trans rfl
theorem t_L_law_1177 {X : ev_E} {st : List Value} {v : Nat} {a1 a2 a3 a4 a5 a6 : Value} {h : ev_M} {n q : Nat} {P : ev_O → ev_M → Nat → Nat → Prop} : ev_ok (ev_TT X) 309 1177 [.ref v, a1, a2, a3, a4, a5, a6] st h n q P ↔ ev_ok (ev_TT X) 309 1178 [.ref v, a1, a2, a3, a4, a5, a6] ((.ref v) :: st) h n q P := ev_go (congrFun (e_L_law_1177 (X := X)) _)
set_option maxRecDepth 100000 in
theorem e_L_law_1178 {X : ev_E} : (ev_TT X).1 309 1178 = i_il 4 1180 := (congrFun tt_L_law 1178).trans rfl
theorem t_L_law_1178 {X : ev_E} {st : List Value} {v : Int32} {a0 a1 a2 a3 a5 a6 : Value} {h : ev_M} {n q : Nat} {P : ev_O → ev_M → Nat → Nat → Prop} : ev_ok (ev_TT X) 309 1178 [a0, a1, a2, a3, .int v, a5, a6] st h n q P ↔ ev_ok (ev_TT X) 309 1180 [a0, a1, a2, a3, .int v, a5, a6] ((.int v) :: st) h n q P := ev_go (congrFun (e_L_law_1178 (X := X)) _)
set_option maxRecDepth 100000 in
theorem e_L_law_1180 {X : ev_E} : (ev_TT X).1 309 1180 = i_psh (.int (1)) 1181 := (congrFun tt_L_law 1180).trans rfl
theorem t_L_law_1180 {X : ev_E} {st : List Value} {lo : List Value} {h : ev_M} {n q : Nat} {P : ev_O → ev_M → Nat → Nat → Prop} : ev_ok (ev_TT X) 309 1180 lo st h n q P ↔ ev_ok (ev_TT X) 309 1181 lo ((.int (1)) :: st) h n q P := ev_go (congrFun (e_L_law_1180 (X := X)) _)
set_option maxRecDepth 100000 in
theorem e_L_law_1181 {X : ev_E} : (ev_TT X).1 309 1181 = i_ii (fun a b => a + b) 1182 := (congrFun tt_L_law 1181).trans rfl
theorem t_L_law_1181 {X : ev_E} {x y : Int32} {st : List Value} {lo : List Value} {h : ev_M} {n q : Nat} {P : ev_O → ev_M → Nat → Nat → Prop} : ev_ok (ev_TT X) 309 1181 lo (.int y :: .int x :: st) h n q P ↔ ev_ok (ev_TT X) 309 1182 lo (.int (x + y) :: st) h n q P := ev_go (congrFun (e_L_law_1181 (X := X)) _)
set_option maxRecDepth 100000 in
theorem e_L_law_1182 {X : ev_E} : (ev_TT X).1 309 1182 = i_ald X ev_tI 1183 := (congrFun tt_L_law 1182).trans rfl
theorem t_L_law_1182 {X : ev_E} {i : Int32} {x : Nat} {st : List Value} {lo : List Value} {h : ev_M} {n q : Nat} {P : ev_O → ev_M → Nat → Nat → Prop} : ev_ok (ev_TT X) 309 1182 lo (.int i :: .ref x :: st) h n q P ↔ ev_inA (ev_lk X h x) i ev_tI ∧ ev_ok (ev_TT X) 309 1183 lo (ev_aG (ev_lk X h x) i :: st) h n q P := ev_goG (congrFun (e_L_law_1182 (X := X)) _)
set_option maxRecDepth 100000 in
theorem e_L_law_1183 {X : ev_E} : (ev_TT X).1 309 1183 = i_al 3 1184 := (congrFun tt_L_law 1183).trans rfl
theorem t_L_law_1183 {X : ev_E} {st : List Value} {v : Nat} {a0 a1 a2 a4 a5 a6 : Value} {h : ev_M} {n q : Nat} {P : ev_O → ev_M → Nat → Nat → Prop} : ev_ok (ev_TT X) 309 1183 [a0, a1, a2, .ref v, a4, a5, a6] st h n q P ↔ ev_ok (ev_TT X) 309 1184 [a0, a1, a2, .ref v, a4, a5, a6] ((.ref v) :: st) h n q P := ev_go (congrFun (e_L_law_1183 (X := X)) _)
set_option maxRecDepth 100000 in
theorem e_L_law_1184 {X : ev_E} : (ev_TT X).1 309 1184 = i_cS 252 3 4 1187 := (congrFun tt_L_law 1184).trans rfl
theorem t_L_law_1184 {X : ev_E} {y2 : Nat} {y1 : Int32} {y0 : Nat} {lo : List Value} {h : ev_M} {n q : Nat} {P : ev_O → ev_M → Nat → Nat → Prop} : ev_ok (ev_TT X) 309 1184 lo [.ref y2, .int y1, .ref y0] h n q P ↔ ev_ok (ev_TT X) 252 0 [.ref y0, .int y1, .ref y2, ev_J] [] h n q (ev_kr (ev_TT X) 309 1184 1187 lo [] P) := (ev_caG (congrFun (e_L_law_1184 (X := X)) _)).trans ⟨fun k => k.2, fun k => ⟨⟨rfl, Nat.le_of_ble_eq_true rfl, Nat.le_of_ble_eq_true rfl⟩, k⟩⟩
set_option maxRecDepth 100000 in
theorem e_L_law_1187 {X : ev_E} : (ev_TT X).1 309 1187 = i_is 5 1189 := (congrFun tt_L_law 1187).trans rfl
theorem t_L_law_1187 {X : ev_E} {st : List Value} {v : Int32} {a0 a1 a2 a3 a4 a5 a6 : Value} {h : ev_M} {n q : Nat} {P : ev_O → ev_M → Nat → Nat → Prop} : ev_ok (ev_TT X) 309 1187 [a0, a1, a2, a3, a4, a5, a6] ((.int v) :: st) h n q P ↔ ev_ok (ev_TT X) 309 1189 [a0, a1, a2, a3, ev_k a4, .int v, a6] st h n q P := ev_go (congrFun (e_L_law_1187 (X := X)) _)
set_option maxRecDepth 100000 in
theorem e_L_law_1189 {X : ev_E} : (ev_TT X).1 309 1189 = i_al 2 1190 := (congrFun tt_L_law 1189).trans rfl
theorem t_L_law_1189 {X : ev_E} {st : List Value} {v : Nat} {a0 a1 a3 a4 a5 a6 : Value} {h : ev_M} {n q : Nat} {P : ev_O → ev_M → Nat → Nat → Prop} : ev_ok (ev_TT X) 309 1189 [a0, a1, .ref v, a3, a4, a5, a6] st h n q P ↔ ev_ok (ev_TT X) 309 1190 [a0, a1, .ref v, a3, a4, a5, a6] ((.ref v) :: st) h n q P := ev_go (congrFun (e_L_law_1189 (X := X)) _)
set_option maxRecDepth 100000 in
theorem e_L_law_1190 {X : ev_E} : (ev_TT X).1 309 1190 = i_al 0 1191 := (congrFun tt_L_law 1190).trans rfl
theorem t_L_law_1190 {X : ev_E} {st : List Value} {v : Nat} {a1 a2 a3 a4 a5 a6 : Value} {h : ev_M} {n q : Nat} {P : ev_O → ev_M → Nat → Nat → Prop} : ev_ok (ev_TT X) 309 1190 [.ref v, a1, a2, a3, a4, a5, a6] st h n q P ↔ ev_ok (ev_TT X) 309 1191 [.ref v, a1, a2, a3, a4, a5, a6] ((.ref v) :: st) h n q P := ev_go (congrFun (e_L_law_1190 (X := X)) _)
set_option maxRecDepth 100000 in
theorem e_L_law_1191 {X : ev_E} : (ev_TT X).1 309 1191 = i_il 4 1193 := (congrFun tt_L_law 1191).trans rfl
theorem t_L_law_1191 {X : ev_E} {st : List Value} {v : Int32} {a0 a1 a2 a3 a5 a6 : Value} {h : ev_M} {n q : Nat} {P : ev_O → ev_M → Nat → Nat → Prop} : ev_ok (ev_TT X) 309 1191 [a0, a1, a2, a3, .int v, a5, a6] st h n q P ↔ ev_ok (ev_TT X) 309 1193 [a0, a1, a2, a3, .int v, a5, a6] ((.int v) :: st) h n q P := ev_go (congrFun (e_L_law_1191 (X := X)) _)
set_option maxRecDepth 100000 in
theorem e_L_law_1193 {X : ev_E} : (ev_TT X).1 309 1193 = i_psh (.int (1)) 1194 := (congrFun tt_L_law 1193).trans rfl
theorem t_L_law_1193 {X : ev_E} {st : List Value} {lo : List Value} {h : ev_M} {n q : Nat} {P : ev_O → ev_M → Nat → Nat → Prop} : ev_ok (ev_TT X) 309 1193 lo st h n q P ↔ ev_ok (ev_TT X) 309 1194 lo ((.int (1)) :: st) h n q P := ev_go (congrFun (e_L_law_1193 (X := X)) _)
set_option maxRecDepth 100000 in
theorem e_L_law_1194 {X : ev_E} : (ev_TT X).1 309 1194 = i_ii (fun a b => a + b) 1195 := (congrFun tt_L_law 1194).trans rfl
theorem t_L_law_1194 {X : ev_E} {x y : Int32} {st : List Value} {lo : List Value} {h : ev_M} {n q : Nat} {P : ev_O → ev_M → Nat → Nat → Prop} : ev_ok (ev_TT X) 309 1194 lo (.int y :: .int x :: st) h n q P ↔ ev_ok (ev_TT X) 309 1195 lo (.int (x + y) :: st) h n q P := ev_go (congrFun (e_L_law_1194 (X := X)) _)
set_option maxRecDepth 100000 in
theorem e_L_law_1195 {X : ev_E} : (ev_TT X).1 309 1195 = i_ald X ev_tI 1196 := (congrFun tt_L_law 1195).trans rfl
theorem t_L_law_1195 {X : ev_E} {i : Int32} {x : Nat} {st : List Value} {lo : List Value} {h : ev_M} {n q : Nat} {P : ev_O → ev_M → Nat → Nat → Prop} : ev_ok (ev_TT X) 309 1195 lo (.int i :: .ref x :: st) h n q P ↔ ev_inA (ev_lk X h x) i ev_tI ∧ ev_ok (ev_TT X) 309 1196 lo (ev_aG (ev_lk X h x) i :: st) h n q P := ev_goG (congrFun (e_L_law_1195 (X := X)) _)
set_option maxRecDepth 100000 in
theorem e_L_law_1196 {X : ev_E} : (ev_TT X).1 309 1196 = i_cV X 240 1 13 4 1199 := (congrFun tt_L_law 1196).trans rfl
theorem t_L_law_1196 {X : ev_E} {x : Nat} {y0 : Int32} {lo : List Value} {h : ev_M} {n q : Nat} {P : ev_O → ev_M → Nat → Nat → Prop} : ev_ok (ev_TT X) 309 1196 lo [.int y0, .ref x] h n q P ↔ ev_isK (ev_lk X h x) 13 ∧ ev_ok (ev_TT X) 240 0 [.ref x, .int y0, ev_J, ev_J] [] h n q (ev_kr (ev_TT X) 309 1196 1199 lo [] P) := (ev_caG (congrFun (e_L_law_1196 (X := X)) _)).trans (and_congr_left' ⟨fun k => k.1, fun k => ⟨k, rfl, Or.inl (Nat.le_of_ble_eq_true rfl), Nat.le_of_ble_eq_true rfl⟩⟩)
theorem x_L_law_1196 {X : ev_E} {lo st : List Value} {h : ev_M} {n q : Nat} {P : ev_O → ev_M → Nat → Nat → Prop} {E : Nat} : ev_kr (ev_TT X) 309 1196 1199 lo st P (.inr E) h n q ↔ P (.inr E) h n q := ev_kr_x rfl
set_option maxRecDepth 100000 in
theorem e_L_law_1199 {X : ev_E} : (ev_TT X).1 309 1199 = i_is 6 1201 := (congrFun tt_L_law 1199).trans rfl
theorem t_L_law_1199 {X : ev_E} {st : List Value} {v : Int32} {a0 a1 a2 a3 a4 a5 a6 : Value} {h : ev_M} {n q : Nat} {P : ev_O → ev_M → Nat → Nat → Prop} : ev_ok (ev_TT X) 309 1199 [a0, a1, a2, a3, a4, a5, a6] ((.int v) :: st) h n q P ↔ ev_ok (ev_TT X) 309 1201 [a0, a1, a2, a3, a4, ev_k a5, .int v] st h n q P := ev_go (congrFun (e_L_law_1199 (X := X)) _)
set_option maxRecDepth 100000 in
theorem e_L_law_1201 {X : ev_E} : (ev_TT X).1 309 1201 = i_goto 1713 := (congrFun tt_L_law 1201).trans rfl
theorem t_L_law_1201 {X : ev_E} {st : List Value} {lo : List Value} {h : ev_M} {n q : Nat} {P : ev_O → ev_M → Nat → Nat → Prop} : ev_ok (ev_TT X) 309 1201 lo st h n q P ↔ ev_ok (ev_TT X) 309 1713 lo st h n q P := ev_go (congrFun (e_L_law_1201 (X := X)) _)
set_option maxRecDepth 100000 in
theorem e_L_law_1204 {X : ev_E} : (ev_TT X).1 309 1204 = i_al 1 1205 := (congrFun tt_L_law 1204).trans rfl
theorem t_L_law_1204 {X : ev_E} {st : List Value} {v : Nat} {a0 a2 a3 a4 a5 a6 : Value} {h : ev_M} {n q : Nat} {P : ev_O → ev_M → Nat → Nat → Prop} : ev_ok (ev_TT X) 309 1204 [a0, .ref v, a2, a3, a4, a5, a6] st h n q P ↔ ev_ok (ev_TT X) 309 1205 [a0, .ref v, a2, a3, a4, a5, a6] ((.ref v) :: st) h n q P := ev_go (congrFun (e_L_law_1204 (X := X)) _)
set_option maxRecDepth 100000 in
theorem e_L_law_1205 {X : ev_E} : (ev_TT X).1 309 1205 = i_al 0 1206 := (congrFun tt_L_law 1205).trans rfl
theorem t_L_law_1205 {X : ev_E} {st : List Value} {v : Nat} {a1 a2 a3 a4 a5 a6 : Value} {h : ev_M} {n q : Nat} {P : ev_O → ev_M → Nat → Nat → Prop} : ev_ok (ev_TT X) 309 1205 [.ref v, a1, a2, a3, a4, a5, a6] st h n q P ↔ ev_ok (ev_TT X) 309 1206 [.ref v, a1, a2, a3, a4, a5, a6] ((.ref v) :: st) h n q P := ev_go (congrFun (e_L_law_1205 (X := X)) _)
set_option maxRecDepth 100000 in
theorem e_L_law_1206 {X : ev_E} : (ev_TT X).1 309 1206 = i_il 4 1208 := (congrFun tt_L_law 1206).trans rfl
theorem t_L_law_1206 {X : ev_E} {st : List Value} {v : Int32} {a0 a1 a2 a3 a5 a6 : Value} {h : ev_M} {n q : Nat} {P : ev_O → ev_M → Nat → Nat → Prop} : ev_ok (ev_TT X) 309 1206 [a0, a1, a2, a3, .int v, a5, a6] st h n q P ↔ ev_ok (ev_TT X) 309 1208 [a0, a1, a2, a3, .int v, a5, a6] ((.int v) :: st) h n q P := ev_go (congrFun (e_L_law_1206 (X := X)) _)
set_option maxRecDepth 100000 in
theorem e_L_law_1208 {X : ev_E} : (ev_TT X).1 309 1208 = i_psh (.int (1)) 1209 := (congrFun tt_L_law 1208).trans rfl
theorem t_L_law_1208 {X : ev_E} {st : List Value} {lo : List Value} {h : ev_M} {n q : Nat} {P : ev_O → ev_M → Nat → Nat → Prop} : ev_ok (ev_TT X) 309 1208 lo st h n q P ↔ ev_ok (ev_TT X) 309 1209 lo ((.int (1)) :: st) h n q P := ev_go (congrFun (e_L_law_1208 (X := X)) _)
set_option maxRecDepth 100000 in
theorem e_L_law_1209 {X : ev_E} : (ev_TT X).1 309 1209 = i_ii (fun a b => a + b) 1210 := (congrFun tt_L_law 1209).trans rfl
theorem t_L_law_1209 {X : ev_E} {x y : Int32} {st : List Value} {lo : List Value} {h : ev_M} {n q : Nat} {P : ev_O → ev_M → Nat → Nat → Prop} : ev_ok (ev_TT X) 309 1209 lo (.int y :: .int x :: st) h n q P ↔ ev_ok (ev_TT X) 309 1210 lo (.int (x + y) :: st) h n q P := ev_go (congrFun (e_L_law_1209 (X := X)) _)
set_option maxRecDepth 100000 in
theorem e_L_law_1210 {X : ev_E} : (ev_TT X).1 309 1210 = i_ald X ev_tI 1211 := (congrFun tt_L_law 1210).trans rfl
theorem t_L_law_1210 {X : ev_E} {i : Int32} {x : Nat} {st : List Value} {lo : List Value} {h : ev_M} {n q : Nat} {P : ev_O → ev_M → Nat → Nat → Prop} : ev_ok (ev_TT X) 309 1210 lo (.int i :: .ref x :: st) h n q P ↔ ev_inA (ev_lk X h x) i ev_tI ∧ ev_ok (ev_TT X) 309 1211 lo (ev_aG (ev_lk X h x) i :: st) h n q P := ev_goG (congrFun (e_L_law_1210 (X := X)) _)
set_option maxRecDepth 100000 in
theorem e_L_law_1211 {X : ev_E} : (ev_TT X).1 309 1211 = i_al 3 1212 := (congrFun tt_L_law 1211).trans rfl
theorem t_L_law_1211 {X : ev_E} {st : List Value} {v : Nat} {a0 a1 a2 a4 a5 a6 : Value} {h : ev_M} {n q : Nat} {P : ev_O → ev_M → Nat → Nat → Prop} : ev_ok (ev_TT X) 309 1211 [a0, a1, a2, .ref v, a4, a5, a6] st h n q P ↔ ev_ok (ev_TT X) 309 1212 [a0, a1, a2, .ref v, a4, a5, a6] ((.ref v) :: st) h n q P := ev_go (congrFun (e_L_law_1211 (X := X)) _)
set_option maxRecDepth 100000 in
theorem e_L_law_1212 {X : ev_E} : (ev_TT X).1 309 1212 = i_cS 275 3 4 1215 := (congrFun tt_L_law 1212).trans rfl
theorem t_L_law_1212 {X : ev_E} {y2 : Nat} {y1 : Int32} {y0 : Nat} {lo : List Value} {h : ev_M} {n q : Nat} {P : ev_O → ev_M → Nat → Nat → Prop} : ev_ok (ev_TT X) 309 1212 lo [.ref y2, .int y1, .ref y0] h n q P ↔ ev_ok (ev_TT X) 275 0 [.ref y0, .int y1, .ref y2, ev_J] [] h n q (ev_kr (ev_TT X) 309 1212 1215 lo [] P) := (ev_caG (congrFun (e_L_law_1212 (X := X)) _)).trans ⟨fun k => k.2, fun k => ⟨⟨rfl, Nat.le_of_ble_eq_true rfl, Nat.le_of_ble_eq_true rfl⟩, k⟩⟩
set_option maxRecDepth 100000 in
theorem e_L_law_1215 {X : ev_E} : (ev_TT X).1 309 1215 = i_is 5 1217 := (congrFun tt_L_law 1215).trans rfl
theorem t_L_law_1215 {X : ev_E} {st : List Value} {v : Int32} {a0 a1 a2 a3 a4 a5 a6 : Value} {h : ev_M} {n q : Nat} {P : ev_O → ev_M → Nat → Nat → Prop} : ev_ok (ev_TT X) 309 1215 [a0, a1, a2, a3, a4, a5, a6] ((.int v) :: st) h n q P ↔ ev_ok (ev_TT X) 309 1217 [a0, a1, a2, a3, ev_k a4, .int v, a6] st h n q P := ev_go (congrFun (e_L_law_1215 (X := X)) _)
set_option maxRecDepth 100000 in
theorem e_L_law_1217 {X : ev_E} : (ev_TT X).1 309 1217 = i_al 2 1218 := (congrFun tt_L_law 1217).trans rfl
theorem t_L_law_1217 {X : ev_E} {st : List Value} {v : Nat} {a0 a1 a3 a4 a5 a6 : Value} {h : ev_M} {n q : Nat} {P : ev_O → ev_M → Nat → Nat → Prop} : ev_ok (ev_TT X) 309 1217 [a0, a1, .ref v, a3, a4, a5, a6] st h n q P ↔ ev_ok (ev_TT X) 309 1218 [a0, a1, .ref v, a3, a4, a5, a6] ((.ref v) :: st) h n q P := ev_go (congrFun (e_L_law_1217 (X := X)) _)
set_option maxRecDepth 100000 in
theorem e_L_law_1218 {X : ev_E} : (ev_TT X).1 309 1218 = i_al 0 1219 := (congrFun tt_L_law 1218).trans rfl
theorem t_L_law_1218 {X : ev_E} {st : List Value} {v : Nat} {a1 a2 a3 a4 a5 a6 : Value} {h : ev_M} {n q : Nat} {P : ev_O → ev_M → Nat → Nat → Prop} : ev_ok (ev_TT X) 309 1218 [.ref v, a1, a2, a3, a4, a5, a6] st h n q P ↔ ev_ok (ev_TT X) 309 1219 [.ref v, a1, a2, a3, a4, a5, a6] ((.ref v) :: st) h n q P := ev_go (congrFun (e_L_law_1218 (X := X)) _)
set_option maxRecDepth 100000 in
theorem e_L_law_1219 {X : ev_E} : (ev_TT X).1 309 1219 = i_il 4 1221 := (congrFun tt_L_law 1219).trans rfl
theorem t_L_law_1219 {X : ev_E} {st : List Value} {v : Int32} {a0 a1 a2 a3 a5 a6 : Value} {h : ev_M} {n q : Nat} {P : ev_O → ev_M → Nat → Nat → Prop} : ev_ok (ev_TT X) 309 1219 [a0, a1, a2, a3, .int v, a5, a6] st h n q P ↔ ev_ok (ev_TT X) 309 1221 [a0, a1, a2, a3, .int v, a5, a6] ((.int v) :: st) h n q P := ev_go (congrFun (e_L_law_1219 (X := X)) _)
set_option maxRecDepth 100000 in
theorem e_L_law_1221 {X : ev_E} : (ev_TT X).1 309 1221 = i_psh (.int (1)) 1222 := (congrFun tt_L_law 1221).trans rfl
theorem t_L_law_1221 {X : ev_E} {st : List Value} {lo : List Value} {h : ev_M} {n q : Nat} {P : ev_O → ev_M → Nat → Nat → Prop} : ev_ok (ev_TT X) 309 1221 lo st h n q P ↔ ev_ok (ev_TT X) 309 1222 lo ((.int (1)) :: st) h n q P := ev_go (congrFun (e_L_law_1221 (X := X)) _)
set_option maxRecDepth 100000 in
theorem e_L_law_1222 {X : ev_E} : (ev_TT X).1 309 1222 = i_ii (fun a b => a + b) 1223 := (congrFun tt_L_law 1222).trans rfl
theorem t_L_law_1222 {X : ev_E} {x y : Int32} {st : List Value} {lo : List Value} {h : ev_M} {n q : Nat} {P : ev_O → ev_M → Nat → Nat → Prop} : ev_ok (ev_TT X) 309 1222 lo (.int y :: .int x :: st) h n q P ↔ ev_ok (ev_TT X) 309 1223 lo (.int (x + y) :: st) h n q P := ev_go (congrFun (e_L_law_1222 (X := X)) _)
set_option maxRecDepth 100000 in
theorem e_L_law_1223 {X : ev_E} : (ev_TT X).1 309 1223 = i_ald X ev_tI 1224 := (congrFun tt_L_law 1223).trans rfl
theorem t_L_law_1223 {X : ev_E} {i : Int32} {x : Nat} {st : List Value} {lo : List Value} {h : ev_M} {n q : Nat} {P : ev_O → ev_M → Nat → Nat → Prop} : ev_ok (ev_TT X) 309 1223 lo (.int i :: .ref x :: st) h n q P ↔ ev_inA (ev_lk X h x) i ev_tI ∧ ev_ok (ev_TT X) 309 1224 lo (ev_aG (ev_lk X h x) i :: st) h n q P := ev_goG (congrFun (e_L_law_1223 (X := X)) _)
set_option maxRecDepth 100000 in
theorem e_L_law_1224 {X : ev_E} : (ev_TT X).1 309 1224 = i_cV X 287 1 13 2 1227 := (congrFun tt_L_law 1224).trans rfl
theorem t_L_law_1224 {X : ev_E} {x : Nat} {y0 : Int32} {lo : List Value} {h : ev_M} {n q : Nat} {P : ev_O → ev_M → Nat → Nat → Prop} : ev_ok (ev_TT X) 309 1224 lo [.int y0, .ref x] h n q P ↔ ev_isK (ev_lk X h x) 13 ∧ ev_ok (ev_TT X) 287 0 [.ref x, .int y0] [] h n q (ev_kr (ev_TT X) 309 1224 1227 lo [] P) := (ev_caG (congrFun (e_L_law_1224 (X := X)) _)).trans (and_congr_left' ⟨fun k => k.1, fun k => ⟨k, rfl, Or.inl (Nat.le_of_ble_eq_true rfl), Nat.le_of_ble_eq_true rfl⟩⟩)
theorem x_L_law_1224 {X : ev_E} {lo st : List Value} {h : ev_M} {n q : Nat} {P : ev_O → ev_M → Nat → Nat → Prop} {E : Nat} : ev_kr (ev_TT X) 309 1224 1227 lo st P (.inr E) h n q ↔ P (.inr E) h n q := ev_kr_x rfl
set_option maxRecDepth 100000 in
theorem e_L_law_1227 {X : ev_E} : (ev_TT X).1 309 1227 = i_is 6 1229 := (congrFun tt_L_law 1227).trans rfl
theorem t_L_law_1227 {X : ev_E} {st : List Value} {v : Int32} {a0 a1 a2 a3 a4 a5 a6 : Value} {h : ev_M} {n q : Nat} {P : ev_O → ev_M → Nat → Nat → Prop} : ev_ok (ev_TT X) 309 1227 [a0, a1, a2, a3, a4, a5, a6] ((.int v) :: st) h n q P ↔ ev_ok (ev_TT X) 309 1229 [a0, a1, a2, a3, a4, ev_k a5, .int v] st h n q P := ev_go (congrFun (e_L_law_1227 (X := X)) _)
set_option maxRecDepth 100000 in
theorem e_L_law_1229 {X : ev_E} : (ev_TT X).1 309 1229 = i_goto 1713 := (congrFun tt_L_law 1229).trans rfl
theorem t_L_law_1229 {X : ev_E} {st : List Value} {lo : List Value} {h : ev_M} {n q : Nat} {P : ev_O → ev_M → Nat → Nat → Prop} : ev_ok (ev_TT X) 309 1229 lo st h n q P ↔ ev_ok (ev_TT X) 309 1713 lo st h n q P := ev_go (congrFun (e_L_law_1229 (X := X)) _)
set_option maxRecDepth 100000 in
theorem e_L_law_1232 {X : ev_E} : (ev_TT X).1 309 1232 = i_al 1 1233 := (congrFun tt_L_law 1232).trans rfl
theorem t_L_law_1232 {X : ev_E} {st : List Value} {v : Nat} {a0 a2 a3 a4 a5 a6 : Value} {h : ev_M} {n q : Nat} {P : ev_O → ev_M → Nat → Nat → Prop} : ev_ok (ev_TT X) 309 1232 [a0, .ref v, a2, a3, a4, a5, a6] st h n q P ↔ ev_ok (ev_TT X) 309 1233 [a0, .ref v, a2, a3, a4, a5, a6] ((.ref v) :: st) h n q P := ev_go (congrFun (e_L_law_1232 (X := X)) _)
set_option maxRecDepth 100000 in
theorem e_L_law_1233 {X : ev_E} : (ev_TT X).1 309 1233 = i_al 0 1234 := (congrFun tt_L_law 1233).trans rfl
theorem t_L_law_1233 {X : ev_E} {st : List Value} {v : Nat} {a1 a2 a3 a4 a5 a6 : Value} {h : ev_M} {n q : Nat} {P : ev_O → ev_M → Nat → Nat → Prop} : ev_ok (ev_TT X) 309 1233 [.ref v, a1, a2, a3, a4, a5, a6] st h n q P ↔ ev_ok (ev_TT X) 309 1234 [.ref v, a1, a2, a3, a4, a5, a6] ((.ref v) :: st) h n q P := ev_go (congrFun (e_L_law_1233 (X := X)) _)
set_option maxRecDepth 100000 in
theorem e_L_law_1234 {X : ev_E} : (ev_TT X).1 309 1234 = i_il 4 1236 := (congrFun tt_L_law 1234).trans rfl
theorem t_L_law_1234 {X : ev_E} {st : List Value} {v : Int32} {a0 a1 a2 a3 a5 a6 : Value} {h : ev_M} {n q : Nat} {P : ev_O → ev_M → Nat → Nat → Prop} : ev_ok (ev_TT X) 309 1234 [a0, a1, a2, a3, .int v, a5, a6] st h n q P ↔ ev_ok (ev_TT X) 309 1236 [a0, a1, a2, a3, .int v, a5, a6] ((.int v) :: st) h n q P := ev_go (congrFun (e_L_law_1234 (X := X)) _)
set_option maxRecDepth 100000 in
theorem e_L_law_1236 {X : ev_E} : (ev_TT X).1 309 1236 = i_psh (.int (1)) 1237 := (congrFun tt_L_law 1236).trans rfl
theorem t_L_law_1236 {X : ev_E} {st : List Value} {lo : List Value} {h : ev_M} {n q : Nat} {P : ev_O → ev_M → Nat → Nat → Prop} : ev_ok (ev_TT X) 309 1236 lo st h n q P ↔ ev_ok (ev_TT X) 309 1237 lo ((.int (1)) :: st) h n q P := ev_go (congrFun (e_L_law_1236 (X := X)) _)
set_option maxRecDepth 100000 in
theorem e_L_law_1237 {X : ev_E} : (ev_TT X).1 309 1237 = i_ii (fun a b => a + b) 1238 := (congrFun tt_L_law 1237).trans rfl
theorem t_L_law_1237 {X : ev_E} {x y : Int32} {st : List Value} {lo : List Value} {h : ev_M} {n q : Nat} {P : ev_O → ev_M → Nat → Nat → Prop} : ev_ok (ev_TT X) 309 1237 lo (.int y :: .int x :: st) h n q P ↔ ev_ok (ev_TT X) 309 1238 lo (.int (x + y) :: st) h n q P := ev_go (congrFun (e_L_law_1237 (X := X)) _)
set_option maxRecDepth 100000 in
theorem e_L_law_1238 {X : ev_E} : (ev_TT X).1 309 1238 = i_ald X ev_tI 1239 := (congrFun tt_L_law 1238).trans rfl
theorem t_L_law_1238 {X : ev_E} {i : Int32} {x : Nat} {st : List Value} {lo : List Value} {h : ev_M} {n q : Nat} {P : ev_O → ev_M → Nat → Nat → Prop} : ev_ok (ev_TT X) 309 1238 lo (.int i :: .ref x :: st) h n q P ↔ ev_inA (ev_lk X h x) i ev_tI ∧ ev_ok (ev_TT X) 309 1239 lo (ev_aG (ev_lk X h x) i :: st) h n q P := ev_goG (congrFun (e_L_law_1238 (X := X)) _)
set_option maxRecDepth 100000 in
theorem e_L_law_1239 {X : ev_E} : (ev_TT X).1 309 1239 = i_al 0 1240 := (congrFun tt_L_law 1239).trans rfl
theorem t_L_law_1239 {X : ev_E} {st : List Value} {v : Nat} {a1 a2 a3 a4 a5 a6 : Value} {h : ev_M} {n q : Nat} {P : ev_O → ev_M → Nat → Nat → Prop} : ev_ok (ev_TT X) 309 1239 [.ref v, a1, a2, a3, a4, a5, a6] st h n q P ↔ ev_ok (ev_TT X) 309 1240 [.ref v, a1, a2, a3, a4, a5, a6] ((.ref v) :: st) h n q P := ev_go (congrFun (e_L_law_1239 (X := X)) _)
set_option maxRecDepth 100000 in
theorem e_L_law_1240 {X : ev_E} : (ev_TT X).1 309 1240 = i_il 4 1242 := (congrFun tt_L_law 1240).trans rfl
theorem t_L_law_1240 {X : ev_E} {st : List Value} {v : Int32} {a0 a1 a2 a3 a5 a6 : Value} {h : ev_M} {n q : Nat} {P : ev_O → ev_M → Nat → Nat → Prop} : ev_ok (ev_TT X) 309 1240 [a0, a1, a2, a3, .int v, a5, a6] st h n q P ↔ ev_ok (ev_TT X) 309 1242 [a0, a1, a2, a3, .int v, a5, a6] ((.int v) :: st) h n q P := ev_go (congrFun (e_L_law_1240 (X := X)) _)
set_option maxRecDepth 100000 in
theorem e_L_law_1242 {X : ev_E} : (ev_TT X).1 309 1242 = i_psh (.int (2)) 1243 := (congrFun tt_L_law 1242).trans rfl
theorem t_L_law_1242 {X : ev_E} {st : List Value} {lo : List Value} {h : ev_M} {n q : Nat} {P : ev_O → ev_M → Nat → Nat → Prop} : ev_ok (ev_TT X) 309 1242 lo st h n q P ↔ ev_ok (ev_TT X) 309 1243 lo ((.int (2)) :: st) h n q P := ev_go (congrFun (e_L_law_1242 (X := X)) _)
set_option maxRecDepth 100000 in
theorem e_L_law_1243 {X : ev_E} : (ev_TT X).1 309 1243 = i_ii (fun a b => a + b) 1244 := (congrFun tt_L_law 1243).trans rfl
theorem t_L_law_1243 {X : ev_E} {x y : Int32} {st : List Value} {lo : List Value} {h : ev_M} {n q : Nat} {P : ev_O → ev_M → Nat → Nat → Prop} : ev_ok (ev_TT X) 309 1243 lo (.int y :: .int x :: st) h n q P ↔ ev_ok (ev_TT X) 309 1244 lo (.int (x + y) :: st) h n q P := ev_go (congrFun (e_L_law_1243 (X := X)) _)
set_option maxRecDepth 100000 in
theorem e_L_law_1244 {X : ev_E} : (ev_TT X).1 309 1244 = i_ald X ev_tI 1245 := (congrFun tt_L_law 1244).trans rfl
theorem t_L_law_1244 {X : ev_E} {i : Int32} {x : Nat} {st : List Value} {lo : List Value} {h : ev_M} {n q : Nat} {P : ev_O → ev_M → Nat → Nat → Prop} : ev_ok (ev_TT X) 309 1244 lo (.int i :: .ref x :: st) h n q P ↔ ev_inA (ev_lk X h x) i ev_tI ∧ ev_ok (ev_TT X) 309 1245 lo (ev_aG (ev_lk X h x) i :: st) h n q P := ev_goG (congrFun (e_L_law_1244 (X := X)) _)
set_option maxRecDepth 100000 in
theorem e_L_law_1245 {X : ev_E} : (ev_TT X).1 309 1245 = i_al 0 1246 := (congrFun tt_L_law 1245).trans rfl
theorem t_L_law_1245 {X : ev_E} {st : List Value} {v : Nat} {a1 a2 a3 a4 a5 a6 : Value} {h : ev_M} {n q : Nat} {P : ev_O → ev_M → Nat → Nat → Prop} : ev_ok (ev_TT X) 309 1245 [.ref v, a1, a2, a3, a4, a5, a6] st h n q P ↔ ev_ok (ev_TT X) 309 1246 [.ref v, a1, a2, a3, a4, a5, a6] ((.ref v) :: st) h n q P := ev_go (congrFun (e_L_law_1245 (X := X)) _)
set_option maxRecDepth 100000 in
theorem e_L_law_1246 {X : ev_E} : (ev_TT X).1 309 1246 = i_il 4 1248 := (congrFun tt_L_law 1246).trans rfl
theorem t_L_law_1246 {X : ev_E} {st : List Value} {v : Int32} {a0 a1 a2 a3 a5 a6 : Value} {h : ev_M} {n q : Nat} {P : ev_O → ev_M → Nat → Nat → Prop} : ev_ok (ev_TT X) 309 1246 [a0, a1, a2, a3, .int v, a5, a6] st h n q P ↔ ev_ok (ev_TT X) 309 1248 [a0, a1, a2, a3, .int v, a5, a6] ((.int v) :: st) h n q P := ev_go (congrFun (e_L_law_1246 (X := X)) _)
set_option maxRecDepth 100000 in
theorem e_L_law_1248 {X : ev_E} : (ev_TT X).1 309 1248 = i_psh (.int (3)) 1249 := (congrFun tt_L_law 1248).trans rfl
theorem t_L_law_1248 {X : ev_E} {st : List Value} {lo : List Value} {h : ev_M} {n q : Nat} {P : ev_O → ev_M → Nat → Nat → Prop} : ev_ok (ev_TT X) 309 1248 lo st h n q P ↔ ev_ok (ev_TT X) 309 1249 lo ((.int (3)) :: st) h n q P := ev_go (congrFun (e_L_law_1248 (X := X)) _)
set_option maxRecDepth 100000 in
theorem e_L_law_1249 {X : ev_E} : (ev_TT X).1 309 1249 = i_ii (fun a b => a + b) 1250 := (congrFun tt_L_law 1249).trans rfl
theorem t_L_law_1249 {X : ev_E} {x y : Int32} {st : List Value} {lo : List Value} {h : ev_M} {n q : Nat} {P : ev_O → ev_M → Nat → Nat → Prop} : ev_ok (ev_TT X) 309 1249 lo (.int y :: .int x :: st) h n q P ↔ ev_ok (ev_TT X) 309 1250 lo (.int (x + y) :: st) h n q P := ev_go (congrFun (e_L_law_1249 (X := X)) _)
set_option maxRecDepth 100000 in
theorem e_L_law_1250 {X : ev_E} : (ev_TT X).1 309 1250 = i_ald X ev_tI 1251 := (congrFun tt_L_law 1250).trans rfl
theorem t_L_law_1250 {X : ev_E} {i : Int32} {x : Nat} {st : List Value} {lo : List Value} {h : ev_M} {n q : Nat} {P : ev_O → ev_M → Nat → Nat → Prop} : ev_ok (ev_TT X) 309 1250 lo (.int i :: .ref x :: st) h n q P ↔ ev_inA (ev_lk X h x) i ev_tI ∧ ev_ok (ev_TT X) 309 1251 lo (ev_aG (ev_lk X h x) i :: st) h n q P := ev_goG (congrFun (e_L_law_1250 (X := X)) _)
set_option maxRecDepth 100000 in
theorem e_L_law_1251 {X : ev_E} : (ev_TT X).1 309 1251 = i_al 3 1252 := (congrFun tt_L_law 1251).trans rfl
theorem t_L_law_1251 {X : ev_E} {st : List Value} {v : Nat} {a0 a1 a2 a4 a5 a6 : Value} {h : ev_M} {n q : Nat} {P : ev_O → ev_M → Nat → Nat → Prop} : ev_ok (ev_TT X) 309 1251 [a0, a1, a2, .ref v, a4, a5, a6] st h n q P ↔ ev_ok (ev_TT X) 309 1252 [a0, a1, a2, .ref v, a4, a5, a6] ((.ref v) :: st) h n q P := ev_go (congrFun (e_L_law_1251 (X := X)) _)
set_option maxRecDepth 100000 in
theorem e_L_law_1252 {X : ev_E} : (ev_TT X).1 309 1252 = i_cS 276 5 6 1255 := (congrFun tt_L_law 1252).trans rfl
theorem t_L_law_1252 {X : ev_E} {y4 : Nat} {y3 : Int32} {y2 : Int32} {y1 : Int32} {y0 : Nat} {lo : List Value} {h : ev_M} {n q : Nat} {P : ev_O → ev_M → Nat → Nat → Prop} : ev_ok (ev_TT X) 309 1252 lo [.ref y4, .int y3, .int y2, .int y1, .ref y0] h n q P ↔ ev_ok (ev_TT X) 276 0 [.ref y0, .int y1, .int y2, .int y3, .ref y4, ev_J] [] h n q (ev_kr (ev_TT X) 309 1252 1255 lo [] P) := (ev_caG (congrFun (e_L_law_1252 (X := X)) _)).trans ⟨fun k => k.2, fun k => ⟨⟨rfl, Nat.le_of_ble_eq_true rfl, Nat.le_of_ble_eq_true rfl⟩, k⟩⟩
set_option maxRecDepth 100000 in
theorem e_L_law_1255 {X : ev_E} : (ev_TT X).1 309 1255 = i_is 5 1257 := (congrFun tt_L_law 1255).trans rfl
theorem t_L_law_1255 {X : ev_E} {st : List Value} {v : Int32} {a0 a1 a2 a3 a4 a5 a6 : Value} {h : ev_M} {n q : Nat} {P : ev_O → ev_M → Nat → Nat → Prop} : ev_ok (ev_TT X) 309 1255 [a0, a1, a2, a3, a4, a5, a6] ((.int v) :: st) h n q P ↔ ev_ok (ev_TT X) 309 1257 [a0, a1, a2, a3, ev_k a4, .int v, a6] st h n q P := ev_go (congrFun (e_L_law_1255 (X := X)) _)
set_option maxRecDepth 100000 in
theorem e_L_law_1257 {X : ev_E} : (ev_TT X).1 309 1257 = i_al 2 1258 := (congrFun tt_L_law 1257).trans rfl
theorem t_L_law_1257 {X : ev_E} {st : List Value} {v : Nat} {a0 a1 a3 a4 a5 a6 : Value} {h : ev_M} {n q : Nat} {P : ev_O → ev_M → Nat → Nat → Prop} : ev_ok (ev_TT X) 309 1257 [a0, a1, .ref v, a3, a4, a5, a6] st h n q P ↔ ev_ok (ev_TT X) 309 1258 [a0, a1, .ref v, a3, a4, a5, a6] ((.ref v) :: st) h n q P := ev_go (congrFun (e_L_law_1257 (X := X)) _)
set_option maxRecDepth 100000 in
theorem e_L_law_1258 {X : ev_E} : (ev_TT X).1 309 1258 = i_al 0 1259 := (congrFun tt_L_law 1258).trans rfl
theorem t_L_law_1258 {X : ev_E} {st : List Value} {v : Nat} {a1 a2 a3 a4 a5 a6 : Value} {h : ev_M} {n q : Nat} {P : ev_O → ev_M → Nat → Nat → Prop} : ev_ok (ev_TT X) 309 1258 [.ref v, a1, a2, a3, a4, a5, a6] st h n q P ↔ ev_ok (ev_TT X) 309 1259 [.ref v, a1, a2, a3, a4, a5, a6] ((.ref v) :: st) h n q P := ev_go (congrFun (e_L_law_1258 (X := X)) _)
set_option maxRecDepth 100000 in
theorem e_L_law_1259 {X : ev_E} : (ev_TT X).1 309 1259 = i_il 4 1261 := (congrFun tt_L_law 1259).trans rfl
theorem t_L_law_1259 {X : ev_E} {st : List Value} {v : Int32} {a0 a1 a2 a3 a5 a6 : Value} {h : ev_M} {n q : Nat} {P : ev_O → ev_M → Nat → Nat → Prop} : ev_ok (ev_TT X) 309 1259 [a0, a1, a2, a3, .int v, a5, a6] st h n q P ↔ ev_ok (ev_TT X) 309 1261 [a0, a1, a2, a3, .int v, a5, a6] ((.int v) :: st) h n q P := ev_go (congrFun (e_L_law_1259 (X := X)) _)
set_option maxRecDepth 100000 in
theorem e_L_law_1261 {X : ev_E} : (ev_TT X).1 309 1261 = i_psh (.int (1)) 1262 := (congrFun tt_L_law 1261).trans rfl
theorem t_L_law_1261 {X : ev_E} {st : List Value} {lo : List Value} {h : ev_M} {n q : Nat} {P : ev_O → ev_M → Nat → Nat → Prop} : ev_ok (ev_TT X) 309 1261 lo st h n q P ↔ ev_ok (ev_TT X) 309 1262 lo ((.int (1)) :: st) h n q P := ev_go (congrFun (e_L_law_1261 (X := X)) _)
set_option maxRecDepth 100000 in
theorem e_L_law_1262 {X : ev_E} : (ev_TT X).1 309 1262 = i_ii (fun a b => a + b) 1263 := (congrFun tt_L_law 1262).trans rfl
theorem t_L_law_1262 {X : ev_E} {x y : Int32} {st : List Value} {lo : List Value} {h : ev_M} {n q : Nat} {P : ev_O → ev_M → Nat → Nat → Prop} : ev_ok (ev_TT X) 309 1262 lo (.int y :: .int x :: st) h n q P ↔ ev_ok (ev_TT X) 309 1263 lo (.int (x + y) :: st) h n q P := ev_go (congrFun (e_L_law_1262 (X := X)) _)
set_option maxRecDepth 100000 in
theorem e_L_law_1263 {X : ev_E} : (ev_TT X).1 309 1263 = i_ald X ev_tI 1264 := (congrFun tt_L_law 1263).trans rfl
theorem t_L_law_1263 {X : ev_E} {i : Int32} {x : Nat} {st : List Value} {lo : List Value} {h : ev_M} {n q : Nat} {P : ev_O → ev_M → Nat → Nat → Prop} : ev_ok (ev_TT X) 309 1263 lo (.int i :: .ref x :: st) h n q P ↔ ev_inA (ev_lk X h x) i ev_tI ∧ ev_ok (ev_TT X) 309 1264 lo (ev_aG (ev_lk X h x) i :: st) h n q P := ev_goG (congrFun (e_L_law_1263 (X := X)) _)
set_option maxRecDepth 100000 in
theorem e_L_law_1264 {X : ev_E} : (ev_TT X).1 309 1264 = i_al 0 1265 := (congrFun tt_L_law 1264).trans rfl
theorem t_L_law_1264 {X : ev_E} {st : List Value} {v : Nat} {a1 a2 a3 a4 a5 a6 : Value} {h : ev_M} {n q : Nat} {P : ev_O → ev_M → Nat → Nat → Prop} : ev_ok (ev_TT X) 309 1264 [.ref v, a1, a2, a3, a4, a5, a6] st h n q P ↔ ev_ok (ev_TT X) 309 1265 [.ref v, a1, a2, a3, a4, a5, a6] ((.ref v) :: st) h n q P := ev_go (congrFun (e_L_law_1264 (X := X)) _)
set_option maxRecDepth 100000 in
theorem e_L_law_1265 {X : ev_E} : (ev_TT X).1 309 1265 = i_il 4 1267 := (congrFun tt_L_law 1265).trans rfl
theorem t_L_law_1265 {X : ev_E} {st : List Value} {v : Int32} {a0 a1 a2 a3 a5 a6 : Value} {h : ev_M} {n q : Nat} {P : ev_O → ev_M → Nat → Nat → Prop} : ev_ok (ev_TT X) 309 1265 [a0, a1, a2, a3, .int v, a5, a6] st h n q P ↔ ev_ok (ev_TT X) 309 1267 [a0, a1, a2, a3, .int v, a5, a6] ((.int v) :: st) h n q P := ev_go (congrFun (e_L_law_1265 (X := X)) _)
set_option maxRecDepth 100000 in
theorem e_L_law_1267 {X : ev_E} : (ev_TT X).1 309 1267 = i_psh (.int (2)) 1268 := (congrFun tt_L_law 1267).trans rfl
theorem t_L_law_1267 {X : ev_E} {st : List Value} {lo : List Value} {h : ev_M} {n q : Nat} {P : ev_O → ev_M → Nat → Nat → Prop} : ev_ok (ev_TT X) 309 1267 lo st h n q P ↔ ev_ok (ev_TT X) 309 1268 lo ((.int (2)) :: st) h n q P := ev_go (congrFun (e_L_law_1267 (X := X)) _)
set_option maxRecDepth 100000 in
theorem e_L_law_1268 {X : ev_E} : (ev_TT X).1 309 1268 = i_ii (fun a b => a + b) 1269 := (congrFun tt_L_law 1268).trans rfl
theorem t_L_law_1268 {X : ev_E} {x y : Int32} {st : List Value} {lo : List Value} {h : ev_M} {n q : Nat} {P : ev_O → ev_M → Nat → Nat → Prop} : ev_ok (ev_TT X) 309 1268 lo (.int y :: .int x :: st) h n q P ↔ ev_ok (ev_TT X) 309 1269 lo (.int (x + y) :: st) h n q P := ev_go (congrFun (e_L_law_1268 (X := X)) _)
set_option maxRecDepth 100000 in
theorem e_L_law_1269 {X : ev_E} : (ev_TT X).1 309 1269 = i_ald X ev_tI 1270 := (congrFun tt_L_law 1269).trans rfl
theorem t_L_law_1269 {X : ev_E} {i : Int32} {x : Nat} {st : List Value} {lo : List Value} {h : ev_M} {n q : Nat} {P : ev_O → ev_M → Nat → Nat → Prop} : ev_ok (ev_TT X) 309 1269 lo (.int i :: .ref x :: st) h n q P ↔ ev_inA (ev_lk X h x) i ev_tI ∧ ev_ok (ev_TT X) 309 1270 lo (ev_aG (ev_lk X h x) i :: st) h n q P := ev_goG (congrFun (e_L_law_1269 (X := X)) _)
set_option maxRecDepth 100000 in
theorem e_L_law_1270 {X : ev_E} : (ev_TT X).1 309 1270 = i_al 0 1271 := (congrFun tt_L_law 1270).trans rfl
theorem t_L_law_1270 {X : ev_E} {st : List Value} {v : Nat} {a1 a2 a3 a4 a5 a6 : Value} {h : ev_M} {n q : Nat} {P : ev_O → ev_M → Nat → Nat → Prop} : ev_ok (ev_TT X) 309 1270 [.ref v, a1, a2, a3, a4, a5, a6] st h n q P ↔ ev_ok (ev_TT X) 309 1271 [.ref v, a1, a2, a3, a4, a5, a6] ((.ref v) :: st) h n q P := ev_go (congrFun (e_L_law_1270 (X := X)) _)
set_option maxRecDepth 100000 in
theorem e_L_law_1271 {X : ev_E} : (ev_TT X).1 309 1271 = i_il 4 1273 := (congrFun tt_L_law 1271).trans rfl
theorem t_L_law_1271 {X : ev_E} {st : List Value} {v : Int32} {a0 a1 a2 a3 a5 a6 : Value} {h : ev_M} {n q : Nat} {P : ev_O → ev_M → Nat → Nat → Prop} : ev_ok (ev_TT X) 309 1271 [a0, a1, a2, a3, .int v, a5, a6] st h n q P ↔ ev_ok (ev_TT X) 309 1273 [a0, a1, a2, a3, .int v, a5, a6] ((.int v) :: st) h n q P := ev_go (congrFun (e_L_law_1271 (X := X)) _)
set_option maxRecDepth 100000 in
theorem e_L_law_1273 {X : ev_E} : (ev_TT X).1 309 1273 = i_psh (.int (3)) 1274 := (congrFun tt_L_law 1273).trans rfl
theorem t_L_law_1273 {X : ev_E} {st : List Value} {lo : List Value} {h : ev_M} {n q : Nat} {P : ev_O → ev_M → Nat → Nat → Prop} : ev_ok (ev_TT X) 309 1273 lo st h n q P ↔ ev_ok (ev_TT X) 309 1274 lo ((.int (3)) :: st) h n q P := ev_go (congrFun (e_L_law_1273 (X := X)) _)
set_option maxRecDepth 100000 in
theorem e_L_law_1274 {X : ev_E} : (ev_TT X).1 309 1274 = i_ii (fun a b => a + b) 1275 := (congrFun tt_L_law 1274).trans rfl
theorem t_L_law_1274 {X : ev_E} {x y : Int32} {st : List Value} {lo : List Value} {h : ev_M} {n q : Nat} {P : ev_O → ev_M → Nat → Nat → Prop} : ev_ok (ev_TT X) 309 1274 lo (.int y :: .int x :: st) h n q P ↔ ev_ok (ev_TT X) 309 1275 lo (.int (x + y) :: st) h n q P := ev_go (congrFun (e_L_law_1274 (X := X)) _)
set_option maxRecDepth 100000 in
theorem e_L_law_1275 {X : ev_E} : (ev_TT X).1 309 1275 = i_ald X ev_tI 1276 := (congrFun tt_L_law 1275).trans rfl
theorem t_L_law_1275 {X : ev_E} {i : Int32} {x : Nat} {st : List Value} {lo : List Value} {h : ev_M} {n q : Nat} {P : ev_O → ev_M → Nat → Nat → Prop} : ev_ok (ev_TT X) 309 1275 lo (.int i :: .ref x :: st) h n q P ↔ ev_inA (ev_lk X h x) i ev_tI ∧ ev_ok (ev_TT X) 309 1276 lo (ev_aG (ev_lk X h x) i :: st) h n q P := ev_goG (congrFun (e_L_law_1275 (X := X)) _)
set_option maxRecDepth 100000 in
theorem e_L_law_1276 {X : ev_E} : (ev_TT X).1 309 1276 = i_cV X 288 3 13 6 1279 := (congrFun tt_L_law 1276).trans rfl
theorem t_L_law_1276 {X : ev_E} {x : Nat} {y2 : Int32} {y1 : Int32} {y0 : Int32} {lo : List Value} {h : ev_M} {n q : Nat} {P : ev_O → ev_M → Nat → Nat → Prop} : ev_ok (ev_TT X) 309 1276 lo [.int y2, .int y1, .int y0, .ref x] h n q P ↔ ev_isK (ev_lk X h x) 13 ∧ ev_ok (ev_TT X) 288 0 [.ref x, .int y0, .int y1, .int y2, ev_J, ev_J] [] h n q (ev_kr (ev_TT X) 309 1276 1279 lo [] P) := (ev_caG (congrFun (e_L_law_1276 (X := X)) _)).trans (and_congr_left' ⟨fun k => k.1, fun k => ⟨k, rfl, Or.inl (Nat.le_of_ble_eq_true rfl), Nat.le_of_ble_eq_true rfl⟩⟩)
theorem x_L_law_1276 {X : ev_E} {lo st : List Value} {h : ev_M} {n q : Nat} {P : ev_O → ev_M → Nat → Nat → Prop} {E : Nat} : ev_kr (ev_TT X) 309 1276 1279 lo st P (.inr E) h n q ↔ P (.inr E) h n q := ev_kr_x rfl
set_option maxRecDepth 100000 in
theorem e_L_law_1279 {X : ev_E} : (ev_TT X).1 309 1279 = i_is 6 1281 := (congrFun tt_L_law 1279).trans rfl
theorem t_L_law_1279 {X : ev_E} {st : List Value} {v : Int32} {a0 a1 a2 a3 a4 a5 a6 : Value} {h : ev_M} {n q : Nat} {P : ev_O → ev_M → Nat → Nat → Prop} : ev_ok (ev_TT X) 309 1279 [a0, a1, a2, a3, a4, a5, a6] ((.int v) :: st) h n q P ↔ ev_ok (ev_TT X) 309 1281 [a0, a1, a2, a3, a4, ev_k a5, .int v] st h n q P := ev_go (congrFun (e_L_law_1279 (X := X)) _)
set_option maxRecDepth 100000 in
theorem e_L_law_1281 {X : ev_E} : (ev_TT X).1 309 1281 = i_goto 1713 := (congrFun tt_L_law 1281).trans rfl
theorem t_L_law_1281 {X : ev_E} {st : List Value} {lo : List Value} {h : ev_M} {n q : Nat} {P : ev_O → ev_M → Nat → Nat → Prop} : ev_ok (ev_TT X) 309 1281 lo st h n q P ↔ ev_ok (ev_TT X) 309 1713 lo st h n q P := ev_go (congrFun (e_L_law_1281 (X := X)) _)
set_option maxRecDepth 100000 in
theorem e_L_law_1284 {X : ev_E} : (ev_TT X).1 309 1284 = i_al 1 1285 := (congrFun tt_L_law 1284).trans rfl
theorem t_L_law_1284 {X : ev_E} {st : List Value} {v : Nat} {a0 a2 a3 a4 a5 a6 : Value} {h : ev_M} {n q : Nat} {P : ev_O → ev_M → Nat → Nat → Prop} : ev_ok (ev_TT X) 309 1284 [a0, .ref v, a2, a3, a4, a5, a6] st h n q P ↔ ev_ok (ev_TT X) 309 1285 [a0, .ref v, a2, a3, a4, a5, a6] ((.ref v) :: st) h n q P := ev_go (congrFun (e_L_law_1284 (X := X)) _)
set_option maxRecDepth 100000 in
theorem e_L_law_1285 {X : ev_E} : (ev_TT X).1 309 1285 = i_cV X 200 0 10 6 1288 := (congrFun tt_L_law 1285).trans rfl
theorem t_L_law_1285 {X : ev_E} {x : Nat} {lo : List Value} {h : ev_M} {n q : Nat} {P : ev_O → ev_M → Nat → Nat → Prop} : ev_ok (ev_TT X) 309 1285 lo [.ref x] h n q P ↔ ev_isK (ev_lk X h x) 10 ∧ ev_ok (ev_TT X) 200 0 [.ref x, ev_J, ev_J, ev_J, ev_J, ev_J] [] h n q (ev_kr (ev_TT X) 309 1285 1288 lo [] P) := (ev_caG (congrFun (e_L_law_1285 (X := X)) _)).trans (and_congr_left' ⟨fun k => k.1, fun k => ⟨k, rfl, Or.inl (Nat.le_of_ble_eq_true rfl), Nat.le_of_ble_eq_true rfl⟩⟩)
theorem x_L_law_1285 {X : ev_E} {lo st : List Value} {h : ev_M} {n q : Nat} {P : ev_O → ev_M → Nat → Nat → Prop} {E : Nat} : ev_kr (ev_TT X) 309 1285 1288 lo st P (.inr E) h n q ↔ P (.inr E) h n q := ev_kr_x rfl
set_option maxRecDepth 100000 in
theorem e_L_law_1288 {X : ev_E} : (ev_TT X).1 309 1288 = i_pop 1289 := (congrFun tt_L_law 1288).trans rfl
theorem t_L_law_1288 {X : ev_E} {x : Nat} {st : List Value} {lo : List Value} {h : ev_M} {n q : Nat} {P : ev_O → ev_M → Nat → Nat → Prop} : ev_ok (ev_TT X) 309 1288 lo (.ref x :: st) h n q P ↔ ev_ok (ev_TT X) 309 1289 lo st h n q P := ev_go (congrFun (e_L_law_1288 (X := X)) _)
theorem t_L_law_1288_i {X : ev_E} {x : Int32} {st : List Value} {lo : List Value} {h : ev_M} {n q : Nat} {P : ev_O → ev_M → Nat → Nat → Prop} : ev_ok (ev_TT X) 309 1288 lo (.int x :: st) h n q P ↔ ev_ok (ev_TT X) 309 1289 lo st h n q P := ev_go (congrFun (e_L_law_1288 (X := X)) _)
set_option maxRecDepth 100000 in
theorem e_L_law_1289 {X : ev_E} : (ev_TT X).1 309 1289 = i_al 2 1290 := (congrFun tt_L_law 1289).trans rfl
theorem t_L_law_1289 {X : ev_E} {st : List Value} {v : Nat} {a0 a1 a3 a4 a5 a6 : Value} {h : ev_M} {n q : Nat} {P : ev_O → ev_M → Nat → Nat → Prop} : ev_ok (ev_TT X) 309 1289 [a0, a1, .ref v, a3, a4, a5, a6] st h n q P ↔ ev_ok (ev_TT X) 309 1290 [a0, a1, .ref v, a3, a4, a5, a6] ((.ref v) :: st) h n q P := ev_go (congrFun (e_L_law_1289 (X := X)) _)
set_option maxRecDepth 100000 in
theorem e_L_law_1290 {X : ev_E} : (ev_TT X).1 309 1290 = i_cV X 116 0 13 2 1293 := (congrFun tt_L_law 1290).trans rfl
theorem t_L_law_1290 {X : ev_E} {x : Nat} {lo : List Value} {h : ev_M} {n q : Nat} {P : ev_O → ev_M → Nat → Nat → Prop} : ev_ok (ev_TT X) 309 1290 lo [.ref x] h n q P ↔ ev_isK (ev_lk X h x) 13 ∧ ev_ok (ev_TT X) 116 0 [.ref x, ev_J] [] h n q (ev_kr (ev_TT X) 309 1290 1293 lo [] P) := (ev_caG (congrFun (e_L_law_1290 (X := X)) _)).trans (and_congr_left' ⟨fun k => k.1, fun k => ⟨k, rfl, Or.inl (Nat.le_of_ble_eq_true rfl), Nat.le_of_ble_eq_true rfl⟩⟩)
theorem x_L_law_1290 {X : ev_E} {lo st : List Value} {h : ev_M} {n q : Nat} {P : ev_O → ev_M → Nat → Nat → Prop} {E : Nat} : ev_kr (ev_TT X) 309 1290 1293 lo st P (.inr E) h n q ↔ P (.inr E) h n q := ev_kr_x rfl
set_option maxRecDepth 100000 in
theorem e_L_law_1293 {X : ev_E} : (ev_TT X).1 309 1293 = i_pop 1294 := (congrFun tt_L_law 1293).trans rfl
theorem t_L_law_1293 {X : ev_E} {x : Nat} {st : List Value} {lo : List Value} {h : ev_M} {n q : Nat} {P : ev_O → ev_M → Nat → Nat → Prop} : ev_ok (ev_TT X) 309 1293 lo (.ref x :: st) h n q P ↔ ev_ok (ev_TT X) 309 1294 lo st h n q P := ev_go (congrFun (e_L_law_1293 (X := X)) _)
theorem t_L_law_1293_i {X : ev_E} {x : Int32} {st : List Value} {lo : List Value} {h : ev_M} {n q : Nat} {P : ev_O → ev_M → Nat → Nat → Prop} : ev_ok (ev_TT X) 309 1293 lo (.int x :: st) h n q P ↔ ev_ok (ev_TT X) 309 1294 lo st h n q P := ev_go (congrFun (e_L_law_1293 (X := X)) _)
set_option maxRecDepth 100000 in
theorem e_L_law_1294 {X : ev_E} : (ev_TT X).1 309 1294 = i_goto 1713 := (congrFun tt_L_law 1294).trans rfl
theorem t_L_law_1294 {X : ev_E} {st : List Value} {lo : List Value} {h : ev_M} {n q : Nat} {P : ev_O → ev_M → Nat → Nat → Prop} : ev_ok (ev_TT X) 309 1294 lo st h n q P ↔ ev_ok (ev_TT X) 309 1713 lo st h n q P := ev_go (congrFun (e_L_law_1294 (X := X)) _)
set_option maxRecDepth 100000 in
theorem e_L_law_1297 {X : ev_E} : (ev_TT X).1 309 1297 = i_al 1 1298 := (congrFun tt_L_law 1297).trans rfl
theorem t_L_law_1297 {X : ev_E} {st : List Value} {v : Nat} {a0 a2 a3 a4 a5 a6 : Value} {h : ev_M} {n q : Nat} {P : ev_O → ev_M → Nat → Nat → Prop} : ev_ok (ev_TT X) 309 1297 [a0, .ref v, a2, a3, a4, a5, a6] st h n q P ↔ ev_ok (ev_TT X) 309 1298 [a0, .ref v, a2, a3, a4, a5, a6] ((.ref v) :: st) h n q P := ev_go (congrFun (e_L_law_1297 (X := X)) _)
set_option maxRecDepth 100000 in
theorem e_L_law_1298 {X : ev_E} : (ev_TT X).1 309 1298 = i_cV X 47 0 10 1 1301 := (congrFun tt_L_law 1298).trans rfl
theorem t_L_law_1298 {X : ev_E} {x : Nat} {lo : List Value} {h : ev_M} {n q : Nat} {P : ev_O → ev_M → Nat → Nat → Prop} : ev_ok (ev_TT X) 309 1298 lo [.ref x] h n q P ↔ ev_isK (ev_lk X h x) 10 ∧ ev_ok (ev_TT X) 47 0 [.ref x] [] h n q (ev_kr (ev_TT X) 309 1298 1301 lo [] P) := (ev_caG (congrFun (e_L_law_1298 (X := X)) _)).trans (and_congr_left' ⟨fun k => k.1, fun k => ⟨k, rfl, Or.inl (Nat.le_of_ble_eq_true rfl), Nat.le_of_ble_eq_true rfl⟩⟩)
theorem x_L_law_1298 {X : ev_E} {lo st : List Value} {h : ev_M} {n q : Nat} {P : ev_O → ev_M → Nat → Nat → Prop} {E : Nat} : ev_kr (ev_TT X) 309 1298 1301 lo st P (.inr E) h n q ↔ P (.inr E) h n q := ev_kr_x rfl
set_option maxRecDepth 100000 in
theorem e_L_law_1301 {X : ev_E} : (ev_TT X).1 309 1301 = i_pop 1302 := (congrFun tt_L_law 1301).trans rfl
theorem t_L_law_1301 {X : ev_E} {x : Nat} {st : List Value} {lo : List Value} {h : ev_M} {n q : Nat} {P : ev_O → ev_M → Nat → Nat → Prop} : ev_ok (ev_TT X) 309 1301 lo (.ref x :: st) h n q P ↔ ev_ok (ev_TT X) 309 1302 lo st h n q P := ev_go (congrFun (e_L_law_1301 (X := X)) _)
theorem t_L_law_1301_i {X : ev_E} {x : Int32} {st : List Value} {lo : List Value} {h : ev_M} {n q : Nat} {P : ev_O → ev_M → Nat → Nat → Prop} : ev_ok (ev_TT X) 309 1301 lo (.int x :: st) h n q P ↔ ev_ok (ev_TT X) 309 1302 lo st h n q P := ev_go (congrFun (e_L_law_1301 (X := X)) _)
set_option maxRecDepth 100000 in
theorem e_L_law_1302 {X : ev_E} : (ev_TT X).1 309 1302 = i_al 2 1303 := (congrFun tt_L_law 1302).trans rfl
theorem t_L_law_1302 {X : ev_E} {st : List Value} {v : Nat} {a0 a1 a3 a4 a5 a6 : Value} {h : ev_M} {n q : Nat} {P : ev_O → ev_M → Nat → Nat → Prop} : ev_ok (ev_TT X) 309 1302 [a0, a1, .ref v, a3, a4, a5, a6] st h n q P ↔ ev_ok (ev_TT X) 309 1303 [a0, a1, .ref v, a3, a4, a5, a6] ((.ref v) :: st) h n q P := ev_go (congrFun (e_L_law_1302 (X := X)) _)
set_option maxRecDepth 100000 in
theorem e_L_law_1303 {X : ev_E} : (ev_TT X).1 309 1303 = i_cV X 115 0 13 1 1306 := (congrFun tt_L_law 1303).trans rfl
theorem t_L_law_1303 {X : ev_E} {x : Nat} {lo : List Value} {h : ev_M} {n q : Nat} {P : ev_O → ev_M → Nat → Nat → Prop} : ev_ok (ev_TT X) 309 1303 lo [.ref x] h n q P ↔ ev_isK (ev_lk X h x) 13 ∧ ev_ok (ev_TT X) 115 0 [.ref x] [] h n q (ev_kr (ev_TT X) 309 1303 1306 lo [] P) := (ev_caG (congrFun (e_L_law_1303 (X := X)) _)).trans (and_congr_left' ⟨fun k => k.1, fun k => ⟨k, rfl, Or.inl (Nat.le_of_ble_eq_true rfl), Nat.le_of_ble_eq_true rfl⟩⟩)
theorem x_L_law_1303 {X : ev_E} {lo st : List Value} {h : ev_M} {n q : Nat} {P : ev_O → ev_M → Nat → Nat → Prop} {E : Nat} : ev_kr (ev_TT X) 309 1303 1306 lo st P (.inr E) h n q ↔ P (.inr E) h n q := ev_kr_x rfl
set_option maxRecDepth 100000 in
theorem e_L_law_1306 {X : ev_E} : (ev_TT X).1 309 1306 = i_pop 1307 := (congrFun tt_L_law 1306).trans rfl
theorem t_L_law_1306 {X : ev_E} {x : Nat} {st : List Value} {lo : List Value} {h : ev_M} {n q : Nat} {P : ev_O → ev_M → Nat → Nat → Prop} : ev_ok (ev_TT X) 309 1306 lo (.ref x :: st) h n q P ↔ ev_ok (ev_TT X) 309 1307 lo st h n q P := ev_go (congrFun (e_L_law_1306 (X := X)) _)
theorem t_L_law_1306_i {X : ev_E} {x : Int32} {st : List Value} {lo : List Value} {h : ev_M} {n q : Nat} {P : ev_O → ev_M → Nat → Nat → Prop} : ev_ok (ev_TT X) 309 1306 lo (.int x :: st) h n q P ↔ ev_ok (ev_TT X) 309 1307 lo st h n q P := ev_go (congrFun (e_L_law_1306 (X := X)) _)
set_option maxRecDepth 100000 in
theorem e_L_law_1307 {X : ev_E} : (ev_TT X).1 309 1307 = i_goto 1713 := (congrFun tt_L_law 1307).trans rfl
theorem t_L_law_1307 {X : ev_E} {st : List Value} {lo : List Value} {h : ev_M} {n q : Nat} {P : ev_O → ev_M → Nat → Nat → Prop} : ev_ok (ev_TT X) 309 1307 lo st h n q P ↔ ev_ok (ev_TT X) 309 1713 lo st h n q P := ev_go (congrFun (e_L_law_1307 (X := X)) _)
set_option maxRecDepth 100000 in
theorem e_L_law_1310 {X : ev_E} : (ev_TT X).1 309 1310 = i_al 1 1311 := (congrFun tt_L_law 1310).trans rfl
theorem t_L_law_1310 {X : ev_E} {st : List Value} {v : Nat} {a0 a2 a3 a4 a5 a6 : Value} {h : ev_M} {n q : Nat} {P : ev_O → ev_M → Nat → Nat → Prop} : ev_ok (ev_TT X) 309 1310 [a0, .ref v, a2, a3, a4, a5, a6] st h n q P ↔ ev_ok (ev_TT X) 309 1311 [a0, .ref v, a2, a3, a4, a5, a6] ((.ref v) :: st) h n q P := ev_go (congrFun (e_L_law_1310 (X := X)) _)
set_option maxRecDepth 100000 in
theorem e_L_law_1311 {X : ev_E} : (ev_TT X).1 309 1311 = i_al 0 1312 := (congrFun tt_L_law 1311).trans rfl
theorem t_L_law_1311 {X : ev_E} {st : List Value} {v : Nat} {a1 a2 a3 a4 a5 a6 : Value} {h : ev_M} {n q : Nat} {P : ev_O → ev_M → Nat → Nat → Prop} : ev_ok (ev_TT X) 309 1311 [.ref v, a1, a2, a3, a4, a5, a6] st h n q P ↔ ev_ok (ev_TT X) 309 1312 [.ref v, a1, a2, a3, a4, a5, a6] ((.ref v) :: st) h n q P := ev_go (congrFun (e_L_law_1311 (X := X)) _)
set_option maxRecDepth 100000 in
theorem e_L_law_1312 {X : ev_E} : (ev_TT X).1 309 1312 = i_il 4 1314 := (congrFun tt_L_law 1312).trans rfl
theorem t_L_law_1312 {X : ev_E} {st : List Value} {v : Int32} {a0 a1 a2 a3 a5 a6 : Value} {h : ev_M} {n q : Nat} {P : ev_O → ev_M → Nat → Nat → Prop} : ev_ok (ev_TT X) 309 1312 [a0, a1, a2, a3, .int v, a5, a6] st h n q P ↔ ev_ok (ev_TT X) 309 1314 [a0, a1, a2, a3, .int v, a5, a6] ((.int v) :: st) h n q P := ev_go (congrFun (e_L_law_1312 (X := X)) _)
set_option maxRecDepth 100000 in
theorem e_L_law_1314 {X : ev_E} : (ev_TT X).1 309 1314 = i_psh (.int (1)) 1315 := (congrFun tt_L_law 1314).trans rfl
theorem t_L_law_1314 {X : ev_E} {st : List Value} {lo : List Value} {h : ev_M} {n q : Nat} {P : ev_O → ev_M → Nat → Nat → Prop} : ev_ok (ev_TT X) 309 1314 lo st h n q P ↔ ev_ok (ev_TT X) 309 1315 lo ((.int (1)) :: st) h n q P := ev_go (congrFun (e_L_law_1314 (X := X)) _)
set_option maxRecDepth 100000 in
theorem e_L_law_1315 {X : ev_E} : (ev_TT X).1 309 1315 = i_ii (fun a b => a + b) 1316 := (congrFun tt_L_law 1315).trans rfl
theorem t_L_law_1315 {X : ev_E} {x y : Int32} {st : List Value} {lo : List Value} {h : ev_M} {n q : Nat} {P : ev_O → ev_M → Nat → Nat → Prop} : ev_ok (ev_TT X) 309 1315 lo (.int y :: .int x :: st) h n q P ↔ ev_ok (ev_TT X) 309 1316 lo (.int (x + y) :: st) h n q P := ev_go (congrFun (e_L_law_1315 (X := X)) _)
set_option maxRecDepth 100000 in
theorem e_L_law_1316 {X : ev_E} : (ev_TT X).1 309 1316 = i_ald X ev_tI 1317 := (congrFun tt_L_law 1316).trans rfl
theorem t_L_law_1316 {X : ev_E} {i : Int32} {x : Nat} {st : List Value} {lo : List Value} {h : ev_M} {n q : Nat} {P : ev_O → ev_M → Nat → Nat → Prop} : ev_ok (ev_TT X) 309 1316 lo (.int i :: .ref x :: st) h n q P ↔ ev_inA (ev_lk X h x) i ev_tI ∧ ev_ok (ev_TT X) 309 1317 lo (ev_aG (ev_lk X h x) i :: st) h n q P := ev_goG (congrFun (e_L_law_1316 (X := X)) _)
set_option maxRecDepth 100000 in
theorem e_L_law_1317 {X : ev_E} : (ev_TT X).1 309 1317 = i_cV X 100 1 10 2 1320 := (congrFun tt_L_law 1317).trans rfl
theorem t_L_law_1317 {X : ev_E} {x : Nat} {y0 : Int32} {lo : List Value} {h : ev_M} {n q : Nat} {P : ev_O → ev_M → Nat → Nat → Prop} : ev_ok (ev_TT X) 309 1317 lo [.int y0, .ref x] h n q P ↔ ev_isK (ev_lk X h x) 10 ∧ ev_ok (ev_TT X) 100 0 [.ref x, .int y0] [] h n q (ev_kr (ev_TT X) 309 1317 1320 lo [] P) := (ev_caG (congrFun (e_L_law_1317 (X := X)) _)).trans (and_congr_left' ⟨fun k => k.1, fun k => ⟨k, rfl, Or.inl (Nat.le_of_ble_eq_true rfl), Nat.le_of_ble_eq_true rfl⟩⟩)
theorem x_L_law_1317 {X : ev_E} {lo st : List Value} {h : ev_M} {n q : Nat} {P : ev_O → ev_M → Nat → Nat → Prop} {E : Nat} : ev_kr (ev_TT X) 309 1317 1320 lo st P (.inr E) h n q ↔ P (.inr E) h n q := ev_kr_x rfl
set_option maxRecDepth 100000 in
theorem e_L_law_1320 {X : ev_E} : (ev_TT X).1 309 1320 = i_pop 1321 := (congrFun tt_L_law 1320).trans rfl
theorem t_L_law_1320 {X : ev_E} {x : Nat} {st : List Value} {lo : List Value} {h : ev_M} {n q : Nat} {P : ev_O → ev_M → Nat → Nat → Prop} : ev_ok (ev_TT X) 309 1320 lo (.ref x :: st) h n q P ↔ ev_ok (ev_TT X) 309 1321 lo st h n q P := ev_go (congrFun (e_L_law_1320 (X := X)) _)
theorem t_L_law_1320_i {X : ev_E} {x : Int32} {st : List Value} {lo : List Value} {h : ev_M} {n q : Nat} {P : ev_O → ev_M → Nat → Nat → Prop} : ev_ok (ev_TT X) 309 1320 lo (.int x :: st) h n q P ↔ ev_ok (ev_TT X) 309 1321 lo st h n q P := ev_go (congrFun (e_L_law_1320 (X := X)) _)
set_option maxRecDepth 100000 in
theorem e_L_law_1321 {X : ev_E} : (ev_TT X).1 309 1321 = i_al 2 1322 := (congrFun tt_L_law 1321).trans rfl
theorem t_L_law_1321 {X : ev_E} {st : List Value} {v : Nat} {a0 a1 a3 a4 a5 a6 : Value} {h : ev_M} {n q : Nat} {P : ev_O → ev_M → Nat → Nat → Prop} : ev_ok (ev_TT X) 309 1321 [a0, a1, .ref v, a3, a4, a5, a6] st h n q P ↔ ev_ok (ev_TT X) 309 1322 [a0, a1, .ref v, a3, a4, a5, a6] ((.ref v) :: st) h n q P := ev_go (congrFun (e_L_law_1321 (X := X)) _)
set_option maxRecDepth 100000 in
theorem e_L_law_1322 {X : ev_E} : (ev_TT X).1 309 1322 = i_al 0 1323 := (congrFun tt_L_law 1322).trans rfl
theorem t_L_law_1322 {X : ev_E} {st : List Value} {v : Nat} {a1 a2 a3 a4 a5 a6 : Value} {h : ev_M} {n q : Nat} {P : ev_O → ev_M → Nat → Nat → Prop} : ev_ok (ev_TT X) 309 1322 [.ref v, a1, a2, a3, a4, a5, a6] st h n q P ↔ ev_ok (ev_TT X) 309 1323 [.ref v, a1, a2, a3, a4, a5, a6] ((.ref v) :: st) h n q P := ev_go (congrFun (e_L_law_1322 (X := X)) _)
set_option maxRecDepth 100000 in
theorem e_L_law_1323 {X : ev_E} : (ev_TT X).1 309 1323 = i_il 4 1325 := (congrFun tt_L_law 1323).trans rfl
theorem t_L_law_1323 {X : ev_E} {st : List Value} {v : Int32} {a0 a1 a2 a3 a5 a6 : Value} {h : ev_M} {n q : Nat} {P : ev_O → ev_M → Nat → Nat → Prop} : ev_ok (ev_TT X) 309 1323 [a0, a1, a2, a3, .int v, a5, a6] st h n q P ↔ ev_ok (ev_TT X) 309 1325 [a0, a1, a2, a3, .int v, a5, a6] ((.int v) :: st) h n q P := ev_go (congrFun (e_L_law_1323 (X := X)) _)
set_option maxRecDepth 100000 in
theorem e_L_law_1325 {X : ev_E} : (ev_TT X).1 309 1325 = i_psh (.int (1)) 1326 := (congrFun tt_L_law 1325).trans rfl
theorem t_L_law_1325 {X : ev_E} {st : List Value} {lo : List Value} {h : ev_M} {n q : Nat} {P : ev_O → ev_M → Nat → Nat → Prop} : ev_ok (ev_TT X) 309 1325 lo st h n q P ↔ ev_ok (ev_TT X) 309 1326 lo ((.int (1)) :: st) h n q P := ev_go (congrFun (e_L_law_1325 (X := X)) _)
set_option maxRecDepth 100000 in
theorem e_L_law_1326 {X : ev_E} : (ev_TT X).1 309 1326 = i_ii (fun a b => a + b) 1327 := (congrFun tt_L_law 1326).trans rfl
theorem t_L_law_1326 {X : ev_E} {x y : Int32} {st : List Value} {lo : List Value} {h : ev_M} {n q : Nat} {P : ev_O → ev_M → Nat → Nat → Prop} : ev_ok (ev_TT X) 309 1326 lo (.int y :: .int x :: st) h n q P ↔ ev_ok (ev_TT X) 309 1327 lo (.int (x + y) :: st) h n q P := ev_go (congrFun (e_L_law_1326 (X := X)) _)
set_option maxRecDepth 100000 in
theorem e_L_law_1327 {X : ev_E} : (ev_TT X).1 309 1327 = i_ald X ev_tI 1328 := (congrFun tt_L_law 1327).trans rfl
theorem t_L_law_1327 {X : ev_E} {i : Int32} {x : Nat} {st : List Value} {lo : List Value} {h : ev_M} {n q : Nat} {P : ev_O → ev_M → Nat → Nat → Prop} : ev_ok (ev_TT X) 309 1327 lo (.int i :: .ref x :: st) h n q P ↔ ev_inA (ev_lk X h x) i ev_tI ∧ ev_ok (ev_TT X) 309 1328 lo (ev_aG (ev_lk X h x) i :: st) h n q P := ev_goG (congrFun (e_L_law_1327 (X := X)) _)
set_option maxRecDepth 100000 in
theorem e_L_law_1328 {X : ev_E} : (ev_TT X).1 309 1328 = i_cV X 209 1 13 2 1331 := (congrFun tt_L_law 1328).trans rfl
theorem t_L_law_1328 {X : ev_E} {x : Nat} {y0 : Int32} {lo : List Value} {h : ev_M} {n q : Nat} {P : ev_O → ev_M → Nat → Nat → Prop} : ev_ok (ev_TT X) 309 1328 lo [.int y0, .ref x] h n q P ↔ ev_isK (ev_lk X h x) 13 ∧ ev_ok (ev_TT X) 209 0 [.ref x, .int y0] [] h n q (ev_kr (ev_TT X) 309 1328 1331 lo [] P) := (ev_caG (congrFun (e_L_law_1328 (X := X)) _)).trans (and_congr_left' ⟨fun k => k.1, fun k => ⟨k, rfl, Or.inl (Nat.le_of_ble_eq_true rfl), Nat.le_of_ble_eq_true rfl⟩⟩)
theorem x_L_law_1328 {X : ev_E} {lo st : List Value} {h : ev_M} {n q : Nat} {P : ev_O → ev_M → Nat → Nat → Prop} {E : Nat} : ev_kr (ev_TT X) 309 1328 1331 lo st P (.inr E) h n q ↔ P (.inr E) h n q := ev_kr_x rfl
set_option maxRecDepth 100000 in
theorem e_L_law_1331 {X : ev_E} : (ev_TT X).1 309 1331 = i_pop 1332 := (congrFun tt_L_law 1331).trans rfl
theorem t_L_law_1331 {X : ev_E} {x : Nat} {st : List Value} {lo : List Value} {h : ev_M} {n q : Nat} {P : ev_O → ev_M → Nat → Nat → Prop} : ev_ok (ev_TT X) 309 1331 lo (.ref x :: st) h n q P ↔ ev_ok (ev_TT X) 309 1332 lo st h n q P := ev_go (congrFun (e_L_law_1331 (X := X)) _)
theorem t_L_law_1331_i {X : ev_E} {x : Int32} {st : List Value} {lo : List Value} {h : ev_M} {n q : Nat} {P : ev_O → ev_M → Nat → Nat → Prop} : ev_ok (ev_TT X) 309 1331 lo (.int x :: st) h n q P ↔ ev_ok (ev_TT X) 309 1332 lo st h n q P := ev_go (congrFun (e_L_law_1331 (X := X)) _)
set_option maxRecDepth 100000 in
theorem e_L_law_1332 {X : ev_E} : (ev_TT X).1 309 1332 = i_goto 1713 := (congrFun tt_L_law 1332).trans rfl
theorem t_L_law_1332 {X : ev_E} {st : List Value} {lo : List Value} {h : ev_M} {n q : Nat} {P : ev_O → ev_M → Nat → Nat → Prop} : ev_ok (ev_TT X) 309 1332 lo st h n q P ↔ ev_ok (ev_TT X) 309 1713 lo st h n q P := ev_go (congrFun (e_L_law_1332 (X := X)) _)
set_option maxRecDepth 100000 in
theorem e_L_law_1335 {X : ev_E} : (ev_TT X).1 309 1335 = i_al 1 1336 := (congrFun tt_L_law 1335).trans rfl
theorem t_L_law_1335 {X : ev_E} {st : List Value} {v : Nat} {a0 a2 a3 a4 a5 a6 : Value} {h : ev_M} {n q : Nat} {P : ev_O → ev_M → Nat → Nat → Prop} : ev_ok (ev_TT X) 309 1335 [a0, .ref v, a2, a3, a4, a5, a6] st h n q P ↔ ev_ok (ev_TT X) 309 1336 [a0, .ref v, a2, a3, a4, a5, a6] ((.ref v) :: st) h n q P := ev_go (congrFun (e_L_law_1335 (X := X)) _)
set_option maxRecDepth 100000 in
theorem e_L_law_1336 {X : ev_E} : (ev_TT X).1 309 1336 = i_al 0 1337 := (congrFun tt_L_law 1336).trans rfl
theorem t_L_law_1336 {X : ev_E} {st : List Value} {v : Nat} {a1 a2 a3 a4 a5 a6 : Value} {h : ev_M} {n q : Nat} {P : ev_O → ev_M → Nat → Nat → Prop} : ev_ok (ev_TT X) 309 1336 [.ref v, a1, a2, a3, a4, a5, a6] st h n q P ↔ ev_ok (ev_TT X) 309 1337 [.ref v, a1, a2, a3, a4, a5, a6] ((.ref v) :: st) h n q P := ev_go (congrFun (e_L_law_1336 (X := X)) _)
set_option maxRecDepth 100000 in
theorem e_L_law_1337 {X : ev_E} : (ev_TT X).1 309 1337 = i_il 4 1339 := (congrFun tt_L_law 1337).trans rfl
theorem t_L_law_1337 {X : ev_E} {st : List Value} {v : Int32} {a0 a1 a2 a3 a5 a6 : Value} {h : ev_M} {n q : Nat} {P : ev_O → ev_M → Nat → Nat → Prop} : ev_ok (ev_TT X) 309 1337 [a0, a1, a2, a3, .int v, a5, a6] st h n q P ↔ ev_ok (ev_TT X) 309 1339 [a0, a1, a2, a3, .int v, a5, a6] ((.int v) :: st) h n q P := ev_go (congrFun (e_L_law_1337 (X := X)) _)
set_option maxRecDepth 100000 in
theorem e_L_law_1339 {X : ev_E} : (ev_TT X).1 309 1339 = i_psh (.int (1)) 1340 := (congrFun tt_L_law 1339).trans rfl
theorem t_L_law_1339 {X : ev_E} {st : List Value} {lo : List Value} {h : ev_M} {n q : Nat} {P : ev_O → ev_M → Nat → Nat → Prop} : ev_ok (ev_TT X) 309 1339 lo st h n q P ↔ ev_ok (ev_TT X) 309 1340 lo ((.int (1)) :: st) h n q P := ev_go (congrFun (e_L_law_1339 (X := X)) _)
set_option maxRecDepth 100000 in
theorem e_L_law_1340 {X : ev_E} : (ev_TT X).1 309 1340 = i_ii (fun a b => a + b) 1341 := (congrFun tt_L_law 1340).trans rfl
theorem t_L_law_1340 {X : ev_E} {x y : Int32} {st : List Value} {lo : List Value} {h : ev_M} {n q : Nat} {P : ev_O → ev_M → Nat → Nat → Prop} : ev_ok (ev_TT X) 309 1340 lo (.int y :: .int x :: st) h n q P ↔ ev_ok (ev_TT X) 309 1341 lo (.int (x + y) :: st) h n q P := ev_go (congrFun (e_L_law_1340 (X := X)) _)
set_option maxRecDepth 100000 in
theorem e_L_law_1341 {X : ev_E} : (ev_TT X).1 309 1341 = i_ald X ev_tI 1342 := (congrFun tt_L_law 1341).trans rfl
theorem t_L_law_1341 {X : ev_E} {i : Int32} {x : Nat} {st : List Value} {lo : List Value} {h : ev_M} {n q : Nat} {P : ev_O → ev_M → Nat → Nat → Prop} : ev_ok (ev_TT X) 309 1341 lo (.int i :: .ref x :: st) h n q P ↔ ev_inA (ev_lk X h x) i ev_tI ∧ ev_ok (ev_TT X) 309 1342 lo (ev_aG (ev_lk X h x) i :: st) h n q P := ev_goG (congrFun (e_L_law_1341 (X := X)) _)
set_option maxRecDepth 100000 in
theorem e_L_law_1342 {X : ev_E} : (ev_TT X).1 309 1342 = i_cV X 102 1 10 2 1345 := (congrFun tt_L_law 1342).trans rfl
theorem t_L_law_1342 {X : ev_E} {x : Nat} {y0 : Int32} {lo : List Value} {h : ev_M} {n q : Nat} {P : ev_O → ev_M → Nat → Nat → Prop} : ev_ok (ev_TT X) 309 1342 lo [.int y0, .ref x] h n q P ↔ ev_isK (ev_lk X h x) 10 ∧ ev_ok (ev_TT X) 102 0 [.ref x, .int y0] [] h n q (ev_kr (ev_TT X) 309 1342 1345 lo [] P) := (ev_caG (congrFun (e_L_law_1342 (X := X)) _)).trans (and_congr_left' ⟨fun k => k.1, fun k => ⟨k, rfl, Or.inl (Nat.le_of_ble_eq_true rfl), Nat.le_of_ble_eq_true rfl⟩⟩)
theorem x_L_law_1342 {X : ev_E} {lo st : List Value} {h : ev_M} {n q : Nat} {P : ev_O → ev_M → Nat → Nat → Prop} {E : Nat} : ev_kr (ev_TT X) 309 1342 1345 lo st P (.inr E) h n q ↔ P (.inr E) h n q := ev_kr_x rfl
set_option maxRecDepth 100000 in
theorem e_L_law_1345 {X : ev_E} : (ev_TT X).1 309 1345 = i_pop 1346 := (congrFun tt_L_law 1345).trans rfl
theorem t_L_law_1345 {X : ev_E} {x : Nat} {st : List Value} {lo : List Value} {h : ev_M} {n q : Nat} {P : ev_O → ev_M → Nat → Nat → Prop} : ev_ok (ev_TT X) 309 1345 lo (.ref x :: st) h n q P ↔ ev_ok (ev_TT X) 309 1346 lo st h n q P := ev_go (congrFun (e_L_law_1345 (X := X)) _)
theorem t_L_law_1345_i {X : ev_E} {x : Int32} {st : List Value} {lo : List Value} {h : ev_M} {n q : Nat} {P : ev_O → ev_M → Nat → Nat → Prop} : ev_ok (ev_TT X) 309 1345 lo (.int x :: st) h n q P ↔ ev_ok (ev_TT X) 309 1346 lo st h n q P := ev_go (congrFun (e_L_law_1345 (X := X)) _)
set_option maxRecDepth 100000 in
theorem e_L_law_1346 {X : ev_E} : (ev_TT X).1 309 1346 = i_al 2 1347 := (congrFun tt_L_law 1346).trans rfl
theorem t_L_law_1346 {X : ev_E} {st : List Value} {v : Nat} {a0 a1 a3 a4 a5 a6 : Value} {h : ev_M} {n q : Nat} {P : ev_O → ev_M → Nat → Nat → Prop} : ev_ok (ev_TT X) 309 1346 [a0, a1, .ref v, a3, a4, a5, a6] st h n q P ↔ ev_ok (ev_TT X) 309 1347 [a0, a1, .ref v, a3, a4, a5, a6] ((.ref v) :: st) h n q P := ev_go (congrFun (e_L_law_1346 (X := X)) _)
set_option maxRecDepth 100000 in
theorem e_L_law_1347 {X : ev_E} : (ev_TT X).1 309 1347 = i_al 0 1348 := (congrFun tt_L_law 1347).trans rfl
theorem t_L_law_1347 {X : ev_E} {st : List Value} {v : Nat} {a1 a2 a3 a4 a5 a6 : Value} {h : ev_M} {n q : Nat} {P : ev_O → ev_M → Nat → Nat → Prop} : ev_ok (ev_TT X) 309 1347 [.ref v, a1, a2, a3, a4, a5, a6] st h n q P ↔ ev_ok (ev_TT X) 309 1348 [.ref v, a1, a2, a3, a4, a5, a6] ((.ref v) :: st) h n q P := ev_go (congrFun (e_L_law_1347 (X := X)) _)
set_option maxRecDepth 100000 in
theorem e_L_law_1348 {X : ev_E} : (ev_TT X).1 309 1348 = i_il 4 1350 := (congrFun tt_L_law 1348).trans rfl
theorem t_L_law_1348 {X : ev_E} {st : List Value} {v : Int32} {a0 a1 a2 a3 a5 a6 : Value} {h : ev_M} {n q : Nat} {P : ev_O → ev_M → Nat → Nat → Prop} : ev_ok (ev_TT X) 309 1348 [a0, a1, a2, a3, .int v, a5, a6] st h n q P ↔ ev_ok (ev_TT X) 309 1350 [a0, a1, a2, a3, .int v, a5, a6] ((.int v) :: st) h n q P := ev_go (congrFun (e_L_law_1348 (X := X)) _)
set_option maxRecDepth 100000 in
theorem e_L_law_1350 {X : ev_E} : (ev_TT X).1 309 1350 = i_psh (.int (1)) 1351 := (congrFun tt_L_law 1350).trans rfl
theorem t_L_law_1350 {X : ev_E} {st : List Value} {lo : List Value} {h : ev_M} {n q : Nat} {P : ev_O → ev_M → Nat → Nat → Prop} : ev_ok (ev_TT X) 309 1350 lo st h n q P ↔ ev_ok (ev_TT X) 309 1351 lo ((.int (1)) :: st) h n q P := ev_go (congrFun (e_L_law_1350 (X := X)) _)
set_option maxRecDepth 100000 in
theorem e_L_law_1351 {X : ev_E} : (ev_TT X).1 309 1351 = i_ii (fun a b => a + b) 1352 := (congrFun tt_L_law 1351).trans rfl
theorem t_L_law_1351 {X : ev_E} {x y : Int32} {st : List Value} {lo : List Value} {h : ev_M} {n q : Nat} {P : ev_O → ev_M → Nat → Nat → Prop} : ev_ok (ev_TT X) 309 1351 lo (.int y :: .int x :: st) h n q P ↔ ev_ok (ev_TT X) 309 1352 lo (.int (x + y) :: st) h n q P := ev_go (congrFun (e_L_law_1351 (X := X)) _)
set_option maxRecDepth 100000 in
theorem e_L_law_1352 {X : ev_E} : (ev_TT X).1 309 1352 = i_ald X ev_tI 1353 := (congrFun tt_L_law 1352).trans rfl
theorem t_L_law_1352 {X : ev_E} {i : Int32} {x : Nat} {st : List Value} {lo : List Value} {h : ev_M} {n q : Nat} {P : ev_O → ev_M → Nat → Nat → Prop} : ev_ok (ev_TT X) 309 1352 lo (.int i :: .ref x :: st) h n q P ↔ ev_inA (ev_lk X h x) i ev_tI ∧ ev_ok (ev_TT X) 309 1353 lo (ev_aG (ev_lk X h x) i :: st) h n q P := ev_goG (congrFun (e_L_law_1352 (X := X)) _)
set_option maxRecDepth 100000 in
theorem e_L_law_1353 {X : ev_E} : (ev_TT X).1 309 1353 = i_cV X 266 1 13 2 1356 := (congrFun tt_L_law 1353).trans rfl
theorem t_L_law_1353 {X : ev_E} {x : Nat} {y0 : Int32} {lo : List Value} {h : ev_M} {n q : Nat} {P : ev_O → ev_M → Nat → Nat → Prop} : ev_ok (ev_TT X) 309 1353 lo [.int y0, .ref x] h n q P ↔ ev_isK (ev_lk X h x) 13 ∧ ev_ok (ev_TT X) 266 0 [.ref x, .int y0] [] h n q (ev_kr (ev_TT X) 309 1353 1356 lo [] P) := (ev_caG (congrFun (e_L_law_1353 (X := X)) _)).trans (and_congr_left' ⟨fun k => k.1, fun k => ⟨k, rfl, Or.inl (Nat.le_of_ble_eq_true rfl), Nat.le_of_ble_eq_true rfl⟩⟩)
theorem x_L_law_1353 {X : ev_E} {lo st : List Value} {h : ev_M} {n q : Nat} {P : ev_O → ev_M → Nat → Nat → Prop} {E : Nat} : ev_kr (ev_TT X) 309 1353 1356 lo st P (.inr E) h n q ↔ P (.inr E) h n q := ev_kr_x rfl
set_option maxRecDepth 100000 in
theorem e_L_law_1356 {X : ev_E} : (ev_TT X).1 309 1356 = i_pop 1357 := (congrFun tt_L_law 1356).trans rfl
theorem t_L_law_1356 {X : ev_E} {x : Nat} {st : List Value} {lo : List Value} {h : ev_M} {n q : Nat} {P : ev_O → ev_M → Nat → Nat → Prop} : ev_ok (ev_TT X) 309 1356 lo (.ref x :: st) h n q P ↔ ev_ok (ev_TT X) 309 1357 lo st h n q P := ev_go (congrFun (e_L_law_1356 (X := X)) _)
theorem t_L_law_1356_i {X : ev_E} {x : Int32} {st : List Value} {lo : List Value} {h : ev_M} {n q : Nat} {P : ev_O → ev_M → Nat → Nat → Prop} : ev_ok (ev_TT X) 309 1356 lo (.int x :: st) h n q P ↔ ev_ok (ev_TT X) 309 1357 lo st h n q P := ev_go (congrFun (e_L_law_1356 (X := X)) _)
set_option maxRecDepth 100000 in
theorem e_L_law_1357 {X : ev_E} : (ev_TT X).1 309 1357 = i_goto 1713 := (congrFun tt_L_law 1357).trans rfl
theorem t_L_law_1357 {X : ev_E} {st : List Value} {lo : List Value} {h : ev_M} {n q : Nat} {P : ev_O → ev_M → Nat → Nat → Prop} : ev_ok (ev_TT X) 309 1357 lo st h n q P ↔ ev_ok (ev_TT X) 309 1713 lo st h n q P := ev_go (congrFun (e_L_law_1357 (X := X)) _)
set_option maxRecDepth 100000 in
theorem e_L_law_1360 {X : ev_E} : (ev_TT X).1 309 1360 = i_al 1 1361 := (congrFun tt_L_law 1360).trans rfl
theorem t_L_law_1360 {X : ev_E} {st : List Value} {v : Nat} {a0 a2 a3 a4 a5 a6 : Value} {h : ev_M} {n q : Nat} {P : ev_O → ev_M → Nat → Nat → Prop} : ev_ok (ev_TT X) 309 1360 [a0, .ref v, a2, a3, a4, a5, a6] st h n q P ↔ ev_ok (ev_TT X) 309 1361 [a0, .ref v, a2, a3, a4, a5, a6] ((.ref v) :: st) h n q P := ev_go (congrFun (e_L_law_1360 (X := X)) _)
set_option maxRecDepth 100000 in
theorem e_L_law_1361 {X : ev_E} : (ev_TT X).1 309 1361 = i_al 0 1362 := (congrFun tt_L_law 1361).trans rfl
theorem t_L_law_1361 {X : ev_E} {st : List Value} {v : Nat} {a1 a2 a3 a4 a5 a6 : Value} {h : ev_M} {n q : Nat} {P : ev_O → ev_M → Nat → Nat → Prop} : ev_ok (ev_TT X) 309 1361 [.ref v, a1, a2, a3, a4, a5, a6] st h n q P ↔ ev_ok (ev_TT X) 309 1362 [.ref v, a1, a2, a3, a4, a5, a6] ((.ref v) :: st) h n q P := ev_go (congrFun (e_L_law_1361 (X := X)) _)
set_option maxRecDepth 100000 in
theorem e_L_law_1362 {X : ev_E} : (ev_TT X).1 309 1362 = i_il 4 1364 := (congrFun tt_L_law 1362).trans rfl
theorem t_L_law_1362 {X : ev_E} {st : List Value} {v : Int32} {a0 a1 a2 a3 a5 a6 : Value} {h : ev_M} {n q : Nat} {P : ev_O → ev_M → Nat → Nat → Prop} : ev_ok (ev_TT X) 309 1362 [a0, a1, a2, a3, .int v, a5, a6] st h n q P ↔ ev_ok (ev_TT X) 309 1364 [a0, a1, a2, a3, .int v, a5, a6] ((.int v) :: st) h n q P := ev_go (congrFun (e_L_law_1362 (X := X)) _)
set_option maxRecDepth 100000 in
theorem e_L_law_1364 {X : ev_E} : (ev_TT X).1 309 1364 = i_psh (.int (1)) 1365 := (congrFun tt_L_law 1364).trans rfl
theorem t_L_law_1364 {X : ev_E} {st : List Value} {lo : List Value} {h : ev_M} {n q : Nat} {P : ev_O → ev_M → Nat → Nat → Prop} : ev_ok (ev_TT X) 309 1364 lo st h n q P ↔ ev_ok (ev_TT X) 309 1365 lo ((.int (1)) :: st) h n q P := ev_go (congrFun (e_L_law_1364 (X := X)) _)
set_option maxRecDepth 100000 in
theorem e_L_law_1365 {X : ev_E} : (ev_TT X).1 309 1365 = i_ii (fun a b => a + b) 1366 := (congrFun tt_L_law 1365).trans rfl
theorem t_L_law_1365 {X : ev_E} {x y : Int32} {st : List Value} {lo : List Value} {h : ev_M} {n q : Nat} {P : ev_O → ev_M → Nat → Nat → Prop} : ev_ok (ev_TT X) 309 1365 lo (.int y :: .int x :: st) h n q P ↔ ev_ok (ev_TT X) 309 1366 lo (.int (x + y) :: st) h n q P := ev_go (congrFun (e_L_law_1365 (X := X)) _)
set_option maxRecDepth 100000 in
theorem e_L_law_1366 {X : ev_E} : (ev_TT X).1 309 1366 = i_ald X ev_tI 1367 := (congrFun tt_L_law 1366).trans rfl
theorem t_L_law_1366 {X : ev_E} {i : Int32} {x : Nat} {st : List Value} {lo : List Value} {h : ev_M} {n q : Nat} {P : ev_O → ev_M → Nat → Nat → Prop} : ev_ok (ev_TT X) 309 1366 lo (.int i :: .ref x :: st) h n q P ↔ ev_inA (ev_lk X h x) i ev_tI ∧ ev_ok (ev_TT X) 309 1367 lo (ev_aG (ev_lk X h x) i :: st) h n q P := ev_goG (congrFun (e_L_law_1366 (X := X)) _)
set_option maxRecDepth 100000 in
theorem e_L_law_1367 {X : ev_E} : (ev_TT X).1 309 1367 = i_al 3 1368 := (congrFun tt_L_law 1367).trans rfl
theorem t_L_law_1367 {X : ev_E} {st : List Value} {v : Nat} {a0 a1 a2 a4 a5 a6 : Value} {h : ev_M} {n q : Nat} {P : ev_O → ev_M → Nat → Nat → Prop} : ev_ok (ev_TT X) 309 1367 [a0, a1, a2, .ref v, a4, a5, a6] st h n q P ↔ ev_ok (ev_TT X) 309 1368 [a0, a1, a2, .ref v, a4, a5, a6] ((.ref v) :: st) h n q P := ev_go (congrFun (e_L_law_1367 (X := X)) _)
set_option maxRecDepth 100000 in
theorem e_L_law_1368 {X : ev_E} : (ev_TT X).1 309 1368 = i_cS 180 3 4 1371 := (congrFun tt_L_law 1368).trans rfl
theorem t_L_law_1368 {X : ev_E} {y2 : Nat} {y1 : Int32} {y0 : Nat} {lo : List Value} {h : ev_M} {n q : Nat} {P : ev_O → ev_M → Nat → Nat → Prop} : ev_ok (ev_TT X) 309 1368 lo [.ref y2, .int y1, .ref y0] h n q P ↔ ev_ok (ev_TT X) 180 0 [.ref y0, .int y1, .ref y2, ev_J] [] h n q (ev_kr (ev_TT X) 309 1368 1371 lo [] P) := (ev_caG (congrFun (e_L_law_1368 (X := X)) _)).trans ⟨fun k => k.2, fun k => ⟨⟨rfl, Nat.le_of_ble_eq_true rfl, Nat.le_of_ble_eq_true rfl⟩, k⟩⟩
set_option maxRecDepth 100000 in
theorem e_L_law_1371 {X : ev_E} : (ev_TT X).1 309 1371 = i_is 5 1373 := (congrFun tt_L_law 1371).trans rfl
theorem t_L_law_1371 {X : ev_E} {st : List Value} {v : Int32} {a0 a1 a2 a3 a4 a5 a6 : Value} {h : ev_M} {n q : Nat} {P : ev_O → ev_M → Nat → Nat → Prop} : ev_ok (ev_TT X) 309 1371 [a0, a1, a2, a3, a4, a5, a6] ((.int v) :: st) h n q P ↔ ev_ok (ev_TT X) 309 1373 [a0, a1, a2, a3, ev_k a4, .int v, a6] st h n q P := ev_go (congrFun (e_L_law_1371 (X := X)) _)
set_option maxRecDepth 100000 in
theorem e_L_law_1373 {X : ev_E} : (ev_TT X).1 309 1373 = i_al 2 1374 := (congrFun tt_L_law 1373).trans rfl
theorem t_L_law_1373 {X : ev_E} {st : List Value} {v : Nat} {a0 a1 a3 a4 a5 a6 : Value} {h : ev_M} {n q : Nat} {P : ev_O → ev_M → Nat → Nat → Prop} : ev_ok (ev_TT X) 309 1373 [a0, a1, .ref v, a3, a4, a5, a6] st h n q P ↔ ev_ok (ev_TT X) 309 1374 [a0, a1, .ref v, a3, a4, a5, a6] ((.ref v) :: st) h n q P := ev_go (congrFun (e_L_law_1373 (X := X)) _)
set_option maxRecDepth 100000 in
theorem e_L_law_1374 {X : ev_E} : (ev_TT X).1 309 1374 = i_al 0 1375 := (congrFun tt_L_law 1374).trans rfl
theorem t_L_law_1374 {X : ev_E} {st : List Value} {v : Nat} {a1 a2 a3 a4 a5 a6 : Value} {h : ev_M} {n q : Nat} {P : ev_O → ev_M → Nat → Nat → Prop} : ev_ok (ev_TT X) 309 1374 [.ref v, a1, a2, a3, a4, a5, a6] st h n q P ↔ ev_ok (ev_TT X) 309 1375 [.ref v, a1, a2, a3, a4, a5, a6] ((.ref v) :: st) h n q P := ev_go (congrFun (e_L_law_1374 (X := X)) _)
set_option maxRecDepth 100000 in
theorem e_L_law_1375 {X : ev_E} : (ev_TT X).1 309 1375 = i_il 4 1377 := (congrFun tt_L_law 1375).trans rfl
theorem t_L_law_1375 {X : ev_E} {st : List Value} {v : Int32} {a0 a1 a2 a3 a5 a6 : Value} {h : ev_M} {n q : Nat} {P : ev_O → ev_M → Nat → Nat → Prop} : ev_ok (ev_TT X) 309 1375 [a0, a1, a2, a3, .int v, a5, a6] st h n q P ↔ ev_ok (ev_TT X) 309 1377 [a0, a1, a2, a3, .int v, a5, a6] ((.int v) :: st) h n q P := ev_go (congrFun (e_L_law_1375 (X := X)) _)
set_option maxRecDepth 100000 in
theorem e_L_law_1377 {X : ev_E} : (ev_TT X).1 309 1377 = i_psh (.int (1)) 1378 := (congrFun tt_L_law 1377).trans rfl
theorem t_L_law_1377 {X : ev_E} {st : List Value} {lo : List Value} {h : ev_M} {n q : Nat} {P : ev_O → ev_M → Nat → Nat → Prop} : ev_ok (ev_TT X) 309 1377 lo st h n q P ↔ ev_ok (ev_TT X) 309 1378 lo ((.int (1)) :: st) h n q P := ev_go (congrFun (e_L_law_1377 (X := X)) _)
set_option maxRecDepth 100000 in
theorem e_L_law_1378 {X : ev_E} : (ev_TT X).1 309 1378 = i_ii (fun a b => a + b) 1379 := (congrFun tt_L_law 1378).trans rfl
theorem t_L_law_1378 {X : ev_E} {x y : Int32} {st : List Value} {lo : List Value} {h : ev_M} {n q : Nat} {P : ev_O → ev_M → Nat → Nat → Prop} : ev_ok (ev_TT X) 309 1378 lo (.int y :: .int x :: st) h n q P ↔ ev_ok (ev_TT X) 309 1379 lo (.int (x + y) :: st) h n q P := ev_go (congrFun (e_L_law_1378 (X := X)) _)
set_option maxRecDepth 100000 in
theorem e_L_law_1379 {X : ev_E} : (ev_TT X).1 309 1379 = i_ald X ev_tI 1380 := (congrFun tt_L_law 1379).trans rfl
theorem t_L_law_1379 {X : ev_E} {i : Int32} {x : Nat} {st : List Value} {lo : List Value} {h : ev_M} {n q : Nat} {P : ev_O → ev_M → Nat → Nat → Prop} : ev_ok (ev_TT X) 309 1379 lo (.int i :: .ref x :: st) h n q P ↔ ev_inA (ev_lk X h x) i ev_tI ∧ ev_ok (ev_TT X) 309 1380 lo (ev_aG (ev_lk X h x) i :: st) h n q P := ev_goG (congrFun (e_L_law_1379 (X := X)) _)
set_option maxRecDepth 100000 in
theorem e_L_law_1380 {X : ev_E} : (ev_TT X).1 309 1380 = i_cV X 265 1 13 2 1383 := (congrFun tt_L_law 1380).trans rfl
theorem t_L_law_1380 {X : ev_E} {x : Nat} {y0 : Int32} {lo : List Value} {h : ev_M} {n q : Nat} {P : ev_O → ev_M → Nat → Nat → Prop} : ev_ok (ev_TT X) 309 1380 lo [.int y0, .ref x] h n q P ↔ ev_isK (ev_lk X h x) 13 ∧ ev_ok (ev_TT X) 265 0 [.ref x, .int y0] [] h n q (ev_kr (ev_TT X) 309 1380 1383 lo [] P) := (ev_caG (congrFun (e_L_law_1380 (X := X)) _)).trans (and_congr_left' ⟨fun k => k.1, fun k => ⟨k, rfl, Or.inl (Nat.le_of_ble_eq_true rfl), Nat.le_of_ble_eq_true rfl⟩⟩)
theorem x_L_law_1380 {X : ev_E} {lo st : List Value} {h : ev_M} {n q : Nat} {P : ev_O → ev_M → Nat → Nat → Prop} {E : Nat} : ev_kr (ev_TT X) 309 1380 1383 lo st P (.inr E) h n q ↔ P (.inr E) h n q := ev_kr_x rfl
set_option maxRecDepth 100000 in
theorem e_L_law_1383 {X : ev_E} : (ev_TT X).1 309 1383 = i_is 6 1385 := (congrFun tt_L_law 1383).trans rfl
theorem t_L_law_1383 {X : ev_E} {st : List Value} {v : Int32} {a0 a1 a2 a3 a4 a5 a6 : Value} {h : ev_M} {n q : Nat} {P : ev_O → ev_M → Nat → Nat → Prop} : ev_ok (ev_TT X) 309 1383 [a0, a1, a2, a3, a4, a5, a6] ((.int v) :: st) h n q P ↔ ev_ok (ev_TT X) 309 1385 [a0, a1, a2, a3, a4, ev_k a5, .int v] st h n q P := ev_go (congrFun (e_L_law_1383 (X := X)) _)
set_option maxRecDepth 100000 in
theorem e_L_law_1385 {X : ev_E} : (ev_TT X).1 309 1385 = i_goto 1713 := (congrFun tt_L_law 1385).trans rfl
theorem t_L_law_1385 {X : ev_E} {st : List Value} {lo : List Value} {h : ev_M} {n q : Nat} {P : ev_O → ev_M → Nat → Nat → Prop} : ev_ok (ev_TT X) 309 1385 lo st h n q P ↔ ev_ok (ev_TT X) 309 1713 lo st h n q P := ev_go (congrFun (e_L_law_1385 (X := X)) _)
set_option maxRecDepth 100000 in
theorem e_L_law_1388 {X : ev_E} : (ev_TT X).1 309 1388 = i_al 1 1389 := (congrFun tt_L_law 1388).trans rfl
theorem t_L_law_1388 {X : ev_E} {st : List Value} {v : Nat} {a0 a2 a3 a4 a5 a6 : Value} {h : ev_M} {n q : Nat} {P : ev_O → ev_M → Nat → Nat → Prop} : ev_ok (ev_TT X) 309 1388 [a0, .ref v, a2, a3, a4, a5, a6] st h n q P ↔ ev_ok (ev_TT X) 309 1389 [a0, .ref v, a2, a3, a4, a5, a6] ((.ref v) :: st) h n q P := ev_go (congrFun (e_L_law_1388 (X := X)) _)
set_option maxRecDepth 100000 in
theorem e_L_law_1389 {X : ev_E} : (ev_TT X).1 309 1389 = i_cV X 299 0 10 1 1392 := (congrFun tt_L_law 1389).trans rfl
theorem t_L_law_1389 {X : ev_E} {x : Nat} {lo : List Value} {h : ev_M} {n q : Nat} {P : ev_O → ev_M → Nat → Nat → Prop} : ev_ok (ev_TT X) 309 1389 lo [.ref x] h n q P ↔ ev_isK (ev_lk X h x) 10 ∧ ev_ok (ev_TT X) 299 0 [.ref x] [] h n q (ev_kr (ev_TT X) 309 1389 1392 lo [] P) := (ev_caG (congrFun (e_L_law_1389 (X := X)) _)).trans (and_congr_left' ⟨fun k => k.1, fun k => ⟨k, rfl, Or.inl (Nat.le_of_ble_eq_true rfl), Nat.le_of_ble_eq_true rfl⟩⟩)
theorem x_L_law_1389 {X : ev_E} {lo st : List Value} {h : ev_M} {n q : Nat} {P : ev_O → ev_M → Nat → Nat → Prop} {E : Nat} : ev_kr (ev_TT X) 309 1389 1392 lo st P (.inr E) h n q ↔ P (.inr E) h n q := ev_kr_x rfl
set_option maxRecDepth 100000 in
theorem e_L_law_1392 {X : ev_E} : (ev_TT X).1 309 1392 = i_pop 1393 := (congrFun tt_L_law 1392).trans rfl
theorem t_L_law_1392 {X : ev_E} {x : Nat} {st : List Value} {lo : List Value} {h : ev_M} {n q : Nat} {P : ev_O → ev_M → Nat → Nat → Prop} : ev_ok (ev_TT X) 309 1392 lo (.ref x :: st) h n q P ↔ ev_ok (ev_TT X) 309 1393 lo st h n q P := ev_go (congrFun (e_L_law_1392 (X := X)) _)
theorem t_L_law_1392_i {X : ev_E} {x : Int32} {st : List Value} {lo : List Value} {h : ev_M} {n q : Nat} {P : ev_O → ev_M → Nat → Nat → Prop} : ev_ok (ev_TT X) 309 1392 lo (.int x :: st) h n q P ↔ ev_ok (ev_TT X) 309 1393 lo st h n q P := ev_go (congrFun (e_L_law_1392 (X := X)) _)
set_option maxRecDepth 100000 in
theorem e_L_law_1393 {X : ev_E} : (ev_TT X).1 309 1393 = i_al 2 1394 := (congrFun tt_L_law 1393).trans rfl
theorem t_L_law_1393 {X : ev_E} {st : List Value} {v : Nat} {a0 a1 a3 a4 a5 a6 : Value} {h : ev_M} {n q : Nat} {P : ev_O → ev_M → Nat → Nat → Prop} : ev_ok (ev_TT X) 309 1393 [a0, a1, .ref v, a3, a4, a5, a6] st h n q P ↔ ev_ok (ev_TT X) 309 1394 [a0, a1, .ref v, a3, a4, a5, a6] ((.ref v) :: st) h n q P := ev_go (congrFun (e_L_law_1393 (X := X)) _)
set_option maxRecDepth 100000 in
theorem e_L_law_1394 {X : ev_E} : (ev_TT X).1 309 1394 = i_cV X 308 0 13 1 1397 := (congrFun tt_L_law 1394).trans rfl
theorem t_L_law_1394 {X : ev_E} {x : Nat} {lo : List Value} {h : ev_M} {n q : Nat} {P : ev_O → ev_M → Nat → Nat → Prop} : ev_ok (ev_TT X) 309 1394 lo [.ref x] h n q P ↔ ev_isK (ev_lk X h x) 13 ∧ ev_ok (ev_TT X) 308 0 [.ref x] [] h n q (ev_kr (ev_TT X) 309 1394 1397 lo [] P) := (ev_caG (congrFun (e_L_law_1394 (X := X)) _)).trans (and_congr_left' ⟨fun k => k.1, fun k => ⟨k, rfl, Or.inl (Nat.le_of_ble_eq_true rfl), Nat.le_of_ble_eq_true rfl⟩⟩)
theorem x_L_law_1394 {X : ev_E} {lo st : List Value} {h : ev_M} {n q : Nat} {P : ev_O → ev_M → Nat → Nat → Prop} {E : Nat} : ev_kr (ev_TT X) 309 1394 1397 lo st P (.inr E) h n q ↔ P (.inr E) h n q := ev_kr_x rfl
set_option maxRecDepth 100000 in
theorem e_L_law_1397 {X : ev_E} : (ev_TT X).1 309 1397 = i_pop 1398 := (congrFun tt_L_law 1397).trans rfl
theorem t_L_law_1397 {X : ev_E} {x : Nat} {st : List Value} {lo : List Value} {h : ev_M} {n q : Nat} {P : ev_O → ev_M → Nat → Nat → Prop} : ev_ok (ev_TT X) 309 1397 lo (.ref x :: st) h n q P ↔ ev_ok (ev_TT X) 309 1398 lo st h n q P := ev_go (congrFun (e_L_law_1397 (X := X)) _)
theorem t_L_law_1397_i {X : ev_E} {x : Int32} {st : List Value} {lo : List Value} {h : ev_M} {n q : Nat} {P : ev_O → ev_M → Nat → Nat → Prop} : ev_ok (ev_TT X) 309 1397 lo (.int x :: st) h n q P ↔ ev_ok (ev_TT X) 309 1398 lo st h n q P := ev_go (congrFun (e_L_law_1397 (X := X)) _)
set_option maxRecDepth 100000 in
theorem e_L_law_1398 {X : ev_E} : (ev_TT X).1 309 1398 = i_goto 1713 := (congrFun tt_L_law 1398).trans rfl
theorem t_L_law_1398 {X : ev_E} {st : List Value} {lo : List Value} {h : ev_M} {n q : Nat} {P : ev_O → ev_M → Nat → Nat → Prop} : ev_ok (ev_TT X) 309 1398 lo st h n q P ↔ ev_ok (ev_TT X) 309 1713 lo st h n q P := ev_go (congrFun (e_L_law_1398 (X := X)) _)
set_option maxRecDepth 100000 in
theorem e_L_law_1401 {X : ev_E} : (ev_TT X).1 309 1401 = i_al 1 1402 := (congrFun tt_L_law 1401).trans rfl
theorem t_L_law_1401 {X : ev_E} {st : List Value} {v : Nat} {a0 a2 a3 a4 a5 a6 : Value} {h : ev_M} {n q : Nat} {P : ev_O → ev_M → Nat → Nat → Prop} : ev_ok (ev_TT X) 309 1401 [a0, .ref v, a2, a3, a4, a5, a6] st h n q P ↔ ev_ok (ev_TT X) 309 1402 [a0, .ref v, a2, a3, a4, a5, a6] ((.ref v) :: st) h n q P := ev_go (congrFun (e_L_law_1401 (X := X)) _)
set_option maxRecDepth 100000 in
theorem e_L_law_1402 {X : ev_E} : (ev_TT X).1 309 1402 = i_al 0 1403 := (congrFun tt_L_law 1402).trans rfl
theorem t_L_law_1402 {X : ev_E} {st : List Value} {v : Nat} {a1 a2 a3 a4 a5 a6 : Value} {h : ev_M} {n q : Nat} {P : ev_O → ev_M → Nat → Nat → Prop} : ev_ok (ev_TT X) 309 1402 [.ref v, a1, a2, a3, a4, a5, a6] st h n q P ↔ ev_ok (ev_TT X) 309 1403 [.ref v, a1, a2, a3, a4, a5, a6] ((.ref v) :: st) h n q P := ev_go (congrFun (e_L_law_1402 (X := X)) _)
set_option maxRecDepth 100000 in
theorem e_L_law_1403 {X : ev_E} : (ev_TT X).1 309 1403 = i_il 4 1405 := (congrFun tt_L_law 1403).trans rfl
theorem t_L_law_1403 {X : ev_E} {st : List Value} {v : Int32} {a0 a1 a2 a3 a5 a6 : Value} {h : ev_M} {n q : Nat} {P : ev_O → ev_M → Nat → Nat → Prop} : ev_ok (ev_TT X) 309 1403 [a0, a1, a2, a3, .int v, a5, a6] st h n q P ↔ ev_ok (ev_TT X) 309 1405 [a0, a1, a2, a3, .int v, a5, a6] ((.int v) :: st) h n q P := ev_go (congrFun (e_L_law_1403 (X := X)) _)
set_option maxRecDepth 100000 in
theorem e_L_law_1405 {X : ev_E} : (ev_TT X).1 309 1405 = i_psh (.int (1)) 1406 := (congrFun tt_L_law 1405).trans rfl
theorem t_L_law_1405 {X : ev_E} {st : List Value} {lo : List Value} {h : ev_M} {n q : Nat} {P : ev_O → ev_M → Nat → Nat → Prop} : ev_ok (ev_TT X) 309 1405 lo st h n q P ↔ ev_ok (ev_TT X) 309 1406 lo ((.int (1)) :: st) h n q P := ev_go (congrFun (e_L_law_1405 (X := X)) _)
set_option maxRecDepth 100000 in
theorem e_L_law_1406 {X : ev_E} : (ev_TT X).1 309 1406 = i_ii (fun a b => a + b) 1407 := (congrFun tt_L_law 1406).trans rfl
theorem t_L_law_1406 {X : ev_E} {x y : Int32} {st : List Value} {lo : List Value} {h : ev_M} {n q : Nat} {P : ev_O → ev_M → Nat → Nat → Prop} : ev_ok (ev_TT X) 309 1406 lo (.int y :: .int x :: st) h n q P ↔ ev_ok (ev_TT X) 309 1407 lo (.int (x + y) :: st) h n q P := ev_go (congrFun (e_L_law_1406 (X := X)) _)
set_option maxRecDepth 100000 in
theorem e_L_law_1407 {X : ev_E} : (ev_TT X).1 309 1407 = i_ald X ev_tI 1408 := (congrFun tt_L_law 1407).trans rfl
theorem t_L_law_1407 {X : ev_E} {i : Int32} {x : Nat} {st : List Value} {lo : List Value} {h : ev_M} {n q : Nat} {P : ev_O → ev_M → Nat → Nat → Prop} : ev_ok (ev_TT X) 309 1407 lo (.int i :: .ref x :: st) h n q P ↔ ev_inA (ev_lk X h x) i ev_tI ∧ ev_ok (ev_TT X) 309 1408 lo (ev_aG (ev_lk X h x) i :: st) h n q P := ev_goG (congrFun (e_L_law_1407 (X := X)) _)
set_option maxRecDepth 100000 in
theorem e_L_law_1408 {X : ev_E} : (ev_TT X).1 309 1408 = i_al 3 1409 := (congrFun tt_L_law 1408).trans rfl
theorem t_L_law_1408 {X : ev_E} {st : List Value} {v : Nat} {a0 a1 a2 a4 a5 a6 : Value} {h : ev_M} {n q : Nat} {P : ev_O → ev_M → Nat → Nat → Prop} : ev_ok (ev_TT X) 309 1408 [a0, a1, a2, .ref v, a4, a5, a6] st h n q P ↔ ev_ok (ev_TT X) 309 1409 [a0, a1, a2, .ref v, a4, a5, a6] ((.ref v) :: st) h n q P := ev_go (congrFun (e_L_law_1408 (X := X)) _)
set_option maxRecDepth 100000 in
theorem e_L_law_1409 {X : ev_E} : (ev_TT X).1 309 1409 = i_cS 304 3 4 1412 := (congrFun tt_L_law 1409).trans rfl
theorem t_L_law_1409 {X : ev_E} {y2 : Nat} {y1 : Int32} {y0 : Nat} {lo : List Value} {h : ev_M} {n q : Nat} {P : ev_O → ev_M → Nat → Nat → Prop} : ev_ok (ev_TT X) 309 1409 lo [.ref y2, .int y1, .ref y0] h n q P ↔ ev_ok (ev_TT X) 304 0 [.ref y0, .int y1, .ref y2, ev_J] [] h n q (ev_kr (ev_TT X) 309 1409 1412 lo [] P) := (ev_caG (congrFun (e_L_law_1409 (X := X)) _)).trans ⟨fun k => k.2, fun k => ⟨⟨rfl, Nat.le_of_ble_eq_true rfl, Nat.le_of_ble_eq_true rfl⟩, k⟩⟩
set_option maxRecDepth 100000 in
theorem e_L_law_1412 {X : ev_E} : (ev_TT X).1 309 1412 = i_is 5 1414 := (congrFun tt_L_law 1412).trans rfl
theorem t_L_law_1412 {X : ev_E} {st : List Value} {v : Int32} {a0 a1 a2 a3 a4 a5 a6 : Value} {h : ev_M} {n q : Nat} {P : ev_O → ev_M → Nat → Nat → Prop} : ev_ok (ev_TT X) 309 1412 [a0, a1, a2, a3, a4, a5, a6] ((.int v) :: st) h n q P ↔ ev_ok (ev_TT X) 309 1414 [a0, a1, a2, a3, ev_k a4, .int v, a6] st h n q P := ev_go (congrFun (e_L_law_1412 (X := X)) _)
set_option maxRecDepth 100000 in
theorem e_L_law_1414 {X : ev_E} : (ev_TT X).1 309 1414 = i_al 2 1415 := (congrFun tt_L_law 1414).trans rfl
theorem t_L_law_1414 {X : ev_E} {st : List Value} {v : Nat} {a0 a1 a3 a4 a5 a6 : Value} {h : ev_M} {n q : Nat} {P : ev_O → ev_M → Nat → Nat → Prop} : ev_ok (ev_TT X) 309 1414 [a0, a1, .ref v, a3, a4, a5, a6] st h n q P ↔ ev_ok (ev_TT X) 309 1415 [a0, a1, .ref v, a3, a4, a5, a6] ((.ref v) :: st) h n q P := ev_go (congrFun (e_L_law_1414 (X := X)) _)
set_option maxRecDepth 100000 in
theorem e_L_law_1415 {X : ev_E} : (ev_TT X).1 309 1415 = i_al 0 1416 := (congrFun tt_L_law 1415).trans rfl
theorem t_L_law_1415 {X : ev_E} {st : List Value} {v : Nat} {a1 a2 a3 a4 a5 a6 : Value} {h : ev_M} {n q : Nat} {P : ev_O → ev_M → Nat → Nat → Prop} : ev_ok (ev_TT X) 309 1415 [.ref v, a1, a2, a3, a4, a5, a6] st h n q P ↔ ev_ok (ev_TT X) 309 1416 [.ref v, a1, a2, a3, a4, a5, a6] ((.ref v) :: st) h n q P := ev_go (congrFun (e_L_law_1415 (X := X)) _)
set_option maxRecDepth 100000 in
theorem e_L_law_1416 {X : ev_E} : (ev_TT X).1 309 1416 = i_il 4 1418 := (congrFun tt_L_law 1416).trans rfl
theorem t_L_law_1416 {X : ev_E} {st : List Value} {v : Int32} {a0 a1 a2 a3 a5 a6 : Value} {h : ev_M} {n q : Nat} {P : ev_O → ev_M → Nat → Nat → Prop} : ev_ok (ev_TT X) 309 1416 [a0, a1, a2, a3, .int v, a5, a6] st h n q P ↔ ev_ok (ev_TT X) 309 1418 [a0, a1, a2, a3, .int v, a5, a6] ((.int v) :: st) h n q P := ev_go (congrFun (e_L_law_1416 (X := X)) _)
set_option maxRecDepth 100000 in
theorem e_L_law_1418 {X : ev_E} : (ev_TT X).1 309 1418 = i_psh (.int (1)) 1419 := (congrFun tt_L_law 1418).trans rfl
theorem t_L_law_1418 {X : ev_E} {st : List Value} {lo : List Value} {h : ev_M} {n q : Nat} {P : ev_O → ev_M → Nat → Nat → Prop} : ev_ok (ev_TT X) 309 1418 lo st h n q P ↔ ev_ok (ev_TT X) 309 1419 lo ((.int (1)) :: st) h n q P := ev_go (congrFun (e_L_law_1418 (X := X)) _)
set_option maxRecDepth 100000 in
theorem e_L_law_1419 {X : ev_E} : (ev_TT X).1 309 1419 = i_ii (fun a b => a + b) 1420 := (congrFun tt_L_law 1419).trans rfl
theorem t_L_law_1419 {X : ev_E} {x y : Int32} {st : List Value} {lo : List Value} {h : ev_M} {n q : Nat} {P : ev_O → ev_M → Nat → Nat → Prop} : ev_ok (ev_TT X) 309 1419 lo (.int y :: .int x :: st) h n q P ↔ ev_ok (ev_TT X) 309 1420 lo (.int (x + y) :: st) h n q P := ev_go (congrFun (e_L_law_1419 (X := X)) _)
set_option maxRecDepth 100000 in
theorem e_L_law_1420 {X : ev_E} : (ev_TT X).1 309 1420 = i_ald X ev_tI 1421 := (congrFun tt_L_law 1420).trans rfl
theorem t_L_law_1420 {X : ev_E} {i : Int32} {x : Nat} {st : List Value} {lo : List Value} {h : ev_M} {n q : Nat} {P : ev_O → ev_M → Nat → Nat → Prop} : ev_ok (ev_TT X) 309 1420 lo (.int i :: .ref x :: st) h n q P ↔ ev_inA (ev_lk X h x) i ev_tI ∧ ev_ok (ev_TT X) 309 1421 lo (ev_aG (ev_lk X h x) i :: st) h n q P := ev_goG (congrFun (e_L_law_1420 (X := X)) _)
set_option maxRecDepth 100000 in
theorem e_L_law_1421 {X : ev_E} : (ev_TT X).1 309 1421 = i_cV X 307 1 13 2 1424 := (congrFun tt_L_law 1421).trans rfl
theorem t_L_law_1421 {X : ev_E} {x : Nat} {y0 : Int32} {lo : List Value} {h : ev_M} {n q : Nat} {P : ev_O → ev_M → Nat → Nat → Prop} : ev_ok (ev_TT X) 309 1421 lo [.int y0, .ref x] h n q P ↔ ev_isK (ev_lk X h x) 13 ∧ ev_ok (ev_TT X) 307 0 [.ref x, .int y0] [] h n q (ev_kr (ev_TT X) 309 1421 1424 lo [] P) := (ev_caG (congrFun (e_L_law_1421 (X := X)) _)).trans (and_congr_left' ⟨fun k => k.1, fun k => ⟨k, rfl, Or.inl (Nat.le_of_ble_eq_true rfl), Nat.le_of_ble_eq_true rfl⟩⟩)
theorem x_L_law_1421 {X : ev_E} {lo st : List Value} {h : ev_M} {n q : Nat} {P : ev_O → ev_M → Nat → Nat → Prop} {E : Nat} : ev_kr (ev_TT X) 309 1421 1424 lo st P (.inr E) h n q ↔ P (.inr E) h n q := ev_kr_x rfl
set_option maxRecDepth 100000 in
theorem e_L_law_1424 {X : ev_E} : (ev_TT X).1 309 1424 = i_as 6 1426 := (congrFun tt_L_law 1424).trans rfl
theorem t_L_law_1424 {X : ev_E} {st : List Value} {v : Nat} {a0 a1 a2 a3 a4 a5 a6 : Value} {h : ev_M} {n q : Nat} {P : ev_O → ev_M → Nat → Nat → Prop} : ev_ok (ev_TT X) 309 1424 [a0, a1, a2, a3, a4, a5, a6] ((.ref v) :: st) h n q P ↔ ev_ok (ev_TT X) 309 1426 [a0, a1, a2, a3, a4, ev_k a5, .ref v] st h n q P := ev_go (congrFun (e_L_law_1424 (X := X)) _)
set_option maxRecDepth 100000 in
theorem e_L_law_1426 {X : ev_E} : (ev_TT X).1 309 1426 = i_goto 1713 := (congrFun tt_L_law 1426).trans rfl
theorem t_L_law_1426 {X : ev_E} {st : List Value} {lo : List Value} {h : ev_M} {n q : Nat} {P : ev_O → ev_M → Nat → Nat → Prop} : ev_ok (ev_TT X) 309 1426 lo st h n q P ↔ ev_ok (ev_TT X) 309 1713 lo st h n q P := ev_go (congrFun (e_L_law_1426 (X := X)) _)
set_option maxRecDepth 100000 in
theorem e_L_law_1429 {X : ev_E} : (ev_TT X).1 309 1429 = i_al 1 1430 := (congrFun tt_L_law 1429).trans rfl
theorem t_L_law_1429 {X : ev_E} {st : List Value} {v : Nat} {a0 a2 a3 a4 a5 a6 : Value} {h : ev_M} {n q : Nat} {P : ev_O → ev_M → Nat → Nat → Prop} : ev_ok (ev_TT X) 309 1429 [a0, .ref v, a2, a3, a4, a5, a6] st h n q P ↔ ev_ok (ev_TT X) 309 1430 [a0, .ref v, a2, a3, a4, a5, a6] ((.ref v) :: st) h n q P := ev_go (congrFun (e_L_law_1429 (X := X)) _)
set_option maxRecDepth 100000 in
theorem e_L_law_1430 {X : ev_E} : (ev_TT X).1 309 1430 = i_al 0 1431 := (congrFun tt_L_law 1430).trans rfl
theorem t_L_law_1430 {X : ev_E} {st : List Value} {v : Nat} {a1 a2 a3 a4 a5 a6 : Value} {h : ev_M} {n q : Nat} {P : ev_O → ev_M → Nat → Nat → Prop} : ev_ok (ev_TT X) 309 1430 [.ref v, a1, a2, a3, a4, a5, a6] st h n q P ↔ ev_ok (ev_TT X) 309 1431 [.ref v, a1, a2, a3, a4, a5, a6] ((.ref v) :: st) h n q P := ev_go (congrFun (e_L_law_1430 (X := X)) _)
set_option maxRecDepth 100000 in
theorem e_L_law_1431 {X : ev_E} : (ev_TT X).1 309 1431 = i_il 4 1433 := (congrFun tt_L_law 1431).trans rfl
theorem t_L_law_1431 {X : ev_E} {st : List Value} {v : Int32} {a0 a1 a2 a3 a5 a6 : Value} {h : ev_M} {n q : Nat} {P : ev_O → ev_M → Nat → Nat → Prop} : ev_ok (ev_TT X) 309 1431 [a0, a1, a2, a3, .int v, a5, a6] st h n q P ↔ ev_ok (ev_TT X) 309 1433 [a0, a1, a2, a3, .int v, a5, a6] ((.int v) :: st) h n q P := ev_go (congrFun (e_L_law_1431 (X := X)) _)
set_option maxRecDepth 100000 in
theorem e_L_law_1433 {X : ev_E} : (ev_TT X).1 309 1433 = i_psh (.int (1)) 1434 := (congrFun tt_L_law 1433).trans rfl
theorem t_L_law_1433 {X : ev_E} {st : List Value} {lo : List Value} {h : ev_M} {n q : Nat} {P : ev_O → ev_M → Nat → Nat → Prop} : ev_ok (ev_TT X) 309 1433 lo st h n q P ↔ ev_ok (ev_TT X) 309 1434 lo ((.int (1)) :: st) h n q P := ev_go (congrFun (e_L_law_1433 (X := X)) _)
set_option maxRecDepth 100000 in
theorem e_L_law_1434 {X : ev_E} : (ev_TT X).1 309 1434 = i_ii (fun a b => a + b) 1435 := (congrFun tt_L_law 1434).trans rfl
theorem t_L_law_1434 {X : ev_E} {x y : Int32} {st : List Value} {lo : List Value} {h : ev_M} {n q : Nat} {P : ev_O → ev_M → Nat → Nat → Prop} : ev_ok (ev_TT X) 309 1434 lo (.int y :: .int x :: st) h n q P ↔ ev_ok (ev_TT X) 309 1435 lo (.int (x + y) :: st) h n q P := ev_go (congrFun (e_L_law_1434 (X := X)) _)
set_option maxRecDepth 100000 in
theorem e_L_law_1435 {X : ev_E} : (ev_TT X).1 309 1435 = i_ald X ev_tI 1436 := (congrFun tt_L_law 1435).trans rfl
theorem t_L_law_1435 {X : ev_E} {i : Int32} {x : Nat} {st : List Value} {lo : List Value} {h : ev_M} {n q : Nat} {P : ev_O → ev_M → Nat → Nat → Prop} : ev_ok (ev_TT X) 309 1435 lo (.int i :: .ref x :: st) h n q P ↔ ev_inA (ev_lk X h x) i ev_tI ∧ ev_ok (ev_TT X) 309 1436 lo (ev_aG (ev_lk X h x) i :: st) h n q P := ev_goG (congrFun (e_L_law_1435 (X := X)) _)
set_option maxRecDepth 100000 in
theorem e_L_law_1436 {X : ev_E} : (ev_TT X).1 309 1436 = i_al 0 1437 := (congrFun tt_L_law 1436).trans rfl
theorem t_L_law_1436 {X : ev_E} {st : List Value} {v : Nat} {a1 a2 a3 a4 a5 a6 : Value} {h : ev_M} {n q : Nat} {P : ev_O → ev_M → Nat → Nat → Prop} : ev_ok (ev_TT X) 309 1436 [.ref v, a1, a2, a3, a4, a5, a6] st h n q P ↔ ev_ok (ev_TT X) 309 1437 [.ref v, a1, a2, a3, a4, a5, a6] ((.ref v) :: st) h n q P := ev_go (congrFun (e_L_law_1436 (X := X)) _)
set_option maxRecDepth 100000 in
theorem e_L_law_1437 {X : ev_E} : (ev_TT X).1 309 1437 = i_il 4 1439 := (congrFun tt_L_law 1437).trans rfl
theorem t_L_law_1437 {X : ev_E} {st : List Value} {v : Int32} {a0 a1 a2 a3 a5 a6 : Value} {h : ev_M} {n q : Nat} {P : ev_O → ev_M → Nat → Nat → Prop} : ev_ok (ev_TT X) 309 1437 [a0, a1, a2, a3, .int v, a5, a6] st h n q P ↔ ev_ok (ev_TT X) 309 1439 [a0, a1, a2, a3, .int v, a5, a6] ((.int v) :: st) h n q P := ev_go (congrFun (e_L_law_1437 (X := X)) _)
set_option maxRecDepth 100000 in
theorem e_L_law_1439 {X : ev_E} : (ev_TT X).1 309 1439 = i_psh (.int (2)) 1440 := (congrFun tt_L_law 1439).trans rfl
theorem t_L_law_1439 {X : ev_E} {st : List Value} {lo : List Value} {h : ev_M} {n q : Nat} {P : ev_O → ev_M → Nat → Nat → Prop} : ev_ok (ev_TT X) 309 1439 lo st h n q P ↔ ev_ok (ev_TT X) 309 1440 lo ((.int (2)) :: st) h n q P := ev_go (congrFun (e_L_law_1439 (X := X)) _)
set_option maxRecDepth 100000 in
theorem e_L_law_1440 {X : ev_E} : (ev_TT X).1 309 1440 = i_ii (fun a b => a + b) 1441 := (congrFun tt_L_law 1440).trans rfl
theorem t_L_law_1440 {X : ev_E} {x y : Int32} {st : List Value} {lo : List Value} {h : ev_M} {n q : Nat} {P : ev_O → ev_M → Nat → Nat → Prop} : ev_ok (ev_TT X) 309 1440 lo (.int y :: .int x :: st) h n q P ↔ ev_ok (ev_TT X) 309 1441 lo (.int (x + y) :: st) h n q P := ev_go (congrFun (e_L_law_1440 (X := X)) _)
set_option maxRecDepth 100000 in
theorem e_L_law_1441 {X : ev_E} : (ev_TT X).1 309 1441 = i_ald X ev_tI 1442 := (congrFun tt_L_law 1441).trans rfl
theorem t_L_law_1441 {X : ev_E} {i : Int32} {x : Nat} {st : List Value} {lo : List Value} {h : ev_M} {n q : Nat} {P : ev_O → ev_M → Nat → Nat → Prop} : ev_ok (ev_TT X) 309 1441 lo (.int i :: .ref x :: st) h n q P ↔ ev_inA (ev_lk X h x) i ev_tI ∧ ev_ok (ev_TT X) 309 1442 lo (ev_aG (ev_lk X h x) i :: st) h n q P := ev_goG (congrFun (e_L_law_1441 (X := X)) _)
set_option maxRecDepth 100000 in
theorem e_L_law_1442 {X : ev_E} : (ev_TT X).1 309 1442 = i_al 3 1443 := (congrFun tt_L_law 1442).trans rfl
theorem t_L_law_1442 {X : ev_E} {st : List Value} {v : Nat} {a0 a1 a2 a4 a5 a6 : Value} {h : ev_M} {n q : Nat} {P : ev_O → ev_M → Nat → Nat → Prop} : ev_ok (ev_TT X) 309 1442 [a0, a1, a2, .ref v, a4, a5, a6] st h n q P ↔ ev_ok (ev_TT X) 309 1443 [a0, a1, a2, .ref v, a4, a5, a6] ((.ref v) :: st) h n q P := ev_go (congrFun (e_L_law_1442 (X := X)) _)
set_option maxRecDepth 100000 in
theorem e_L_law_1443 {X : ev_E} : (ev_TT X).1 309 1443 = i_cS 184 4 5 1446 := (congrFun tt_L_law 1443).trans rfl
theorem t_L_law_1443 {X : ev_E} {y3 : Nat} {y2 : Int32} {y1 : Int32} {y0 : Nat} {lo : List Value} {h : ev_M} {n q : Nat} {P : ev_O → ev_M → Nat → Nat → Prop} : ev_ok (ev_TT X) 309 1443 lo [.ref y3, .int y2, .int y1, .ref y0] h n q P ↔ ev_ok (ev_TT X) 184 0 [.ref y0, .int y1, .int y2, .ref y3, ev_J] [] h n q (ev_kr (ev_TT X) 309 1443 1446 lo [] P) := (ev_caG (congrFun (e_L_law_1443 (X := X)) _)).trans ⟨fun k => k.2, fun k => ⟨⟨rfl, Nat.le_of_ble_eq_true rfl, Nat.le_of_ble_eq_true rfl⟩, k⟩⟩
set_option maxRecDepth 100000 in
theorem e_L_law_1446 {X : ev_E} : (ev_TT X).1 309 1446 = i_is 5 1448 := (congrFun tt_L_law 1446).trans rfl
theorem t_L_law_1446 {X : ev_E} {st : List Value} {v : Int32} {a0 a1 a2 a3 a4 a5 a6 : Value} {h : ev_M} {n q : Nat} {P : ev_O → ev_M → Nat → Nat → Prop} : ev_ok (ev_TT X) 309 1446 [a0, a1, a2, a3, a4, a5, a6] ((.int v) :: st) h n q P ↔ ev_ok (ev_TT X) 309 1448 [a0, a1, a2, a3, ev_k a4, .int v, a6] st h n q P := ev_go (congrFun (e_L_law_1446 (X := X)) _)
set_option maxRecDepth 100000 in
theorem e_L_law_1448 {X : ev_E} : (ev_TT X).1 309 1448 = i_al 2 1449 := (congrFun tt_L_law 1448).trans rfl
theorem t_L_law_1448 {X : ev_E} {st : List Value} {v : Nat} {a0 a1 a3 a4 a5 a6 : Value} {h : ev_M} {n q : Nat} {P : ev_O → ev_M → Nat → Nat → Prop} : ev_ok (ev_TT X) 309 1448 [a0, a1, .ref v, a3, a4, a5, a6] st h n q P ↔ ev_ok (ev_TT X) 309 1449 [a0, a1, .ref v, a3, a4, a5, a6] ((.ref v) :: st) h n q P := ev_go (congrFun (e_L_law_1448 (X := X)) _)
set_option maxRecDepth 100000 in
theorem e_L_law_1449 {X : ev_E} : (ev_TT X).1 309 1449 = i_al 0 1450 := (congrFun tt_L_law 1449).trans rfl
theorem t_L_law_1449 {X : ev_E} {st : List Value} {v : Nat} {a1 a2 a3 a4 a5 a6 : Value} {h : ev_M} {n q : Nat} {P : ev_O → ev_M → Nat → Nat → Prop} : ev_ok (ev_TT X) 309 1449 [.ref v, a1, a2, a3, a4, a5, a6] st h n q P ↔ ev_ok (ev_TT X) 309 1450 [.ref v, a1, a2, a3, a4, a5, a6] ((.ref v) :: st) h n q P := ev_go (congrFun (e_L_law_1449 (X := X)) _)
set_option maxRecDepth 100000 in
theorem e_L_law_1450 {X : ev_E} : (ev_TT X).1 309 1450 = i_il 4 1452 := (congrFun tt_L_law 1450).trans rfl
theorem t_L_law_1450 {X : ev_E} {st : List Value} {v : Int32} {a0 a1 a2 a3 a5 a6 : Value} {h : ev_M} {n q : Nat} {P : ev_O → ev_M → Nat → Nat → Prop} : ev_ok (ev_TT X) 309 1450 [a0, a1, a2, a3, .int v, a5, a6] st h n q P ↔ ev_ok (ev_TT X) 309 1452 [a0, a1, a2, a3, .int v, a5, a6] ((.int v) :: st) h n q P := ev_go (congrFun (e_L_law_1450 (X := X)) _)
set_option maxRecDepth 100000 in
theorem e_L_law_1452 {X : ev_E} : (ev_TT X).1 309 1452 = i_psh (.int (1)) 1453 := (congrFun tt_L_law 1452).trans rfl
theorem t_L_law_1452 {X : ev_E} {st : List Value} {lo : List Value} {h : ev_M} {n q : Nat} {P : ev_O → ev_M → Nat → Nat → Prop} : ev_ok (ev_TT X) 309 1452 lo st h n q P ↔ ev_ok (ev_TT X) 309 1453 lo ((.int (1)) :: st) h n q P := ev_go (congrFun (e_L_law_1452 (X := X)) _)
set_option maxRecDepth 100000 in
theorem e_L_law_1453 {X : ev_E} : (ev_TT X).1 309 1453 = i_ii (fun a b => a + b) 1454 := (congrFun tt_L_law 1453).trans rfl
theorem t_L_law_1453 {X : ev_E} {x y : Int32} {st : List Value} {lo : List Value} {h : ev_M} {n q : Nat} {P : ev_O → ev_M → Nat → Nat → Prop} : ev_ok (ev_TT X) 309 1453 lo (.int y :: .int x :: st) h n q P ↔ ev_ok (ev_TT X) 309 1454 lo (.int (x + y) :: st) h n q P := ev_go (congrFun (e_L_law_1453 (X := X)) _)
set_option maxRecDepth 100000 in
theorem e_L_law_1454 {X : ev_E} : (ev_TT X).1 309 1454 = i_ald X ev_tI 1455 := (congrFun tt_L_law 1454).trans rfl
theorem t_L_law_1454 {X : ev_E} {i : Int32} {x : Nat} {st : List Value} {lo : List Value} {h : ev_M} {n q : Nat} {P : ev_O → ev_M → Nat → Nat → Prop} : ev_ok (ev_TT X) 309 1454 lo (.int i :: .ref x :: st) h n q P ↔ ev_inA (ev_lk X h x) i ev_tI ∧ ev_ok (ev_TT X) 309 1455 lo (ev_aG (ev_lk X h x) i :: st) h n q P := ev_goG (congrFun (e_L_law_1454 (X := X)) _)
set_option maxRecDepth 100000 in
theorem e_L_law_1455 {X : ev_E} : (ev_TT X).1 309 1455 = i_al 0 1456 := (congrFun tt_L_law 1455).trans rfl
theorem t_L_law_1455 {X : ev_E} {st : List Value} {v : Nat} {a1 a2 a3 a4 a5 a6 : Value} {h : ev_M} {n q : Nat} {P : ev_O → ev_M → Nat → Nat → Prop} : ev_ok (ev_TT X) 309 1455 [.ref v, a1, a2, a3, a4, a5, a6] st h n q P ↔ ev_ok (ev_TT X) 309 1456 [.ref v, a1, a2, a3, a4, a5, a6] ((.ref v) :: st) h n q P := ev_go (congrFun (e_L_law_1455 (X := X)) _)
set_option maxRecDepth 100000 in
theorem e_L_law_1456 {X : ev_E} : (ev_TT X).1 309 1456 = i_il 4 1458 := (congrFun tt_L_law 1456).trans rfl
theorem t_L_law_1456 {X : ev_E} {st : List Value} {v : Int32} {a0 a1 a2 a3 a5 a6 : Value} {h : ev_M} {n q : Nat} {P : ev_O → ev_M → Nat → Nat → Prop} : ev_ok (ev_TT X) 309 1456 [a0, a1, a2, a3, .int v, a5, a6] st h n q P ↔ ev_ok (ev_TT X) 309 1458 [a0, a1, a2, a3, .int v, a5, a6] ((.int v) :: st) h n q P := ev_go (congrFun (e_L_law_1456 (X := X)) _)
set_option maxRecDepth 100000 in
theorem e_L_law_1458 {X : ev_E} : (ev_TT X).1 309 1458 = i_psh (.int (2)) 1459 := (congrFun tt_L_law 1458).trans rfl
theorem t_L_law_1458 {X : ev_E} {st : List Value} {lo : List Value} {h : ev_M} {n q : Nat} {P : ev_O → ev_M → Nat → Nat → Prop} : ev_ok (ev_TT X) 309 1458 lo st h n q P ↔ ev_ok (ev_TT X) 309 1459 lo ((.int (2)) :: st) h n q P := ev_go (congrFun (e_L_law_1458 (X := X)) _)
set_option maxRecDepth 100000 in
theorem e_L_law_1459 {X : ev_E} : (ev_TT X).1 309 1459 = i_ii (fun a b => a + b) 1460 := (congrFun tt_L_law 1459).trans rfl
theorem t_L_law_1459 {X : ev_E} {x y : Int32} {st : List Value} {lo : List Value} {h : ev_M} {n q : Nat} {P : ev_O → ev_M → Nat → Nat → Prop} : ev_ok (ev_TT X) 309 1459 lo (.int y :: .int x :: st) h n q P ↔ ev_ok (ev_TT X) 309 1460 lo (.int (x + y) :: st) h n q P := ev_go (congrFun (e_L_law_1459 (X := X)) _)
set_option maxRecDepth 100000 in
theorem e_L_law_1460 {X : ev_E} : (ev_TT X).1 309 1460 = i_ald X ev_tI 1461 := (congrFun tt_L_law 1460).trans rfl
theorem t_L_law_1460 {X : ev_E} {i : Int32} {x : Nat} {st : List Value} {lo : List Value} {h : ev_M} {n q : Nat} {P : ev_O → ev_M → Nat → Nat → Prop} : ev_ok (ev_TT X) 309 1460 lo (.int i :: .ref x :: st) h n q P ↔ ev_inA (ev_lk X h x) i ev_tI ∧ ev_ok (ev_TT X) 309 1461 lo (ev_aG (ev_lk X h x) i :: st) h n q P := ev_goG (congrFun (e_L_law_1460 (X := X)) _)
set_option maxRecDepth 100000 in
theorem e_L_law_1461 {X : ev_E} : (ev_TT X).1 309 1461 = i_cV X 280 2 13 3 1464 := (congrFun tt_L_law 1461).trans rfl
theorem t_L_law_1461 {X : ev_E} {x : Nat} {y1 : Int32} {y0 : Int32} {lo : List Value} {h : ev_M} {n q : Nat} {P : ev_O → ev_M → Nat → Nat → Prop} : ev_ok (ev_TT X) 309 1461 lo [.int y1, .int y0, .ref x] h n q P ↔ ev_isK (ev_lk X h x) 13 ∧ ev_ok (ev_TT X) 280 0 [.ref x, .int y0, .int y1] [] h n q (ev_kr (ev_TT X) 309 1461 1464 lo [] P) := (ev_caG (congrFun (e_L_law_1461 (X := X)) _)).trans (and_congr_left' ⟨fun k => k.1, fun k => ⟨k, rfl, Or.inl (Nat.le_of_ble_eq_true rfl), Nat.le_of_ble_eq_true rfl⟩⟩)
theorem x_L_law_1461 {X : ev_E} {lo st : List Value} {h : ev_M} {n q : Nat} {P : ev_O → ev_M → Nat → Nat → Prop} {E : Nat} : ev_kr (ev_TT X) 309 1461 1464 lo st P (.inr E) h n q ↔ P (.inr E) h n q := ev_kr_x rfl
set_option maxRecDepth 100000 in
theorem e_L_law_1464 {X : ev_E} : (ev_TT X).1 309 1464 = i_is 6 1466 := (congrFun tt_L_law 1464).trans rfl
theorem t_L_law_1464 {X : ev_E} {st : List Value} {v : Int32} {a0 a1 a2 a3 a4 a5 a6 : Value} {h : ev_M} {n q : Nat} {P : ev_O → ev_M → Nat → Nat → Prop} : ev_ok (ev_TT X) 309 1464 [a0, a1, a2, a3, a4, a5, a6] ((.int v) :: st) h n q P ↔ ev_ok (ev_TT X) 309 1466 [a0, a1, a2, a3, a4, ev_k a5, .int v] st h n q P := ev_go (congrFun (e_L_law_1464 (X := X)) _)
set_option maxRecDepth 100000 in
theorem e_L_law_1466 {X : ev_E} : (ev_TT X).1 309 1466 = i_goto 1713 := (congrFun tt_L_law 1466).trans rfl
theorem t_L_law_1466 {X : ev_E} {st : List Value} {lo : List Value} {h : ev_M} {n q : Nat} {P : ev_O → ev_M → Nat → Nat → Prop} : ev_ok (ev_TT X) 309 1466 lo st h n q P ↔ ev_ok (ev_TT X) 309 1713 lo st h n q P := ev_go (congrFun (e_L_law_1466 (X := X)) _)
set_option maxRecDepth 100000 in
theorem e_L_law_1469 {X : ev_E} : (ev_TT X).1 309 1469 = i_al 1 1470 := (congrFun tt_L_law 1469).trans rfl
theorem t_L_law_1469 {X : ev_E} {st : List Value} {v : Nat} {a0 a2 a3 a4 a5 a6 : Value} {h : ev_M} {n q : Nat} {P : ev_O → ev_M → Nat → Nat → Prop} : ev_ok (ev_TT X) 309 1469 [a0, .ref v, a2, a3, a4, a5, a6] st h n q P ↔ ev_ok (ev_TT X) 309 1470 [a0, .ref v, a2, a3, a4, a5, a6] ((.ref v) :: st) h n q P := ev_go (congrFun (e_L_law_1469 (X := X)) _)
set_option maxRecDepth 100000 in
theorem e_L_law_1470 {X : ev_E} : (ev_TT X).1 309 1470 = i_al 0 1471 := (congrFun tt_L_law 1470).trans rfl
theorem t_L_law_1470 {X : ev_E} {st : List Value} {v : Nat} {a1 a2 a3 a4 a5 a6 : Value} {h : ev_M} {n q : Nat} {P : ev_O → ev_M → Nat → Nat → Prop} : ev_ok (ev_TT X) 309 1470 [.ref v, a1, a2, a3, a4, a5, a6] st h n q P ↔ ev_ok (ev_TT X) 309 1471 [.ref v, a1, a2, a3, a4, a5, a6] ((.ref v) :: st) h n q P := ev_go (congrFun (e_L_law_1470 (X := X)) _)
set_option maxRecDepth 100000 in
theorem e_L_law_1471 {X : ev_E} : (ev_TT X).1 309 1471 = i_il 4 1473 := (congrFun tt_L_law 1471).trans rfl
theorem t_L_law_1471 {X : ev_E} {st : List Value} {v : Int32} {a0 a1 a2 a3 a5 a6 : Value} {h : ev_M} {n q : Nat} {P : ev_O → ev_M → Nat → Nat → Prop} : ev_ok (ev_TT X) 309 1471 [a0, a1, a2, a3, .int v, a5, a6] st h n q P ↔ ev_ok (ev_TT X) 309 1473 [a0, a1, a2, a3, .int v, a5, a6] ((.int v) :: st) h n q P := ev_go (congrFun (e_L_law_1471 (X := X)) _)
set_option maxRecDepth 100000 in
theorem e_L_law_1473 {X : ev_E} : (ev_TT X).1 309 1473 = i_psh (.int (1)) 1474 := (congrFun tt_L_law 1473).trans rfl
theorem t_L_law_1473 {X : ev_E} {st : List Value} {lo : List Value} {h : ev_M} {n q : Nat} {P : ev_O → ev_M → Nat → Nat → Prop} : ev_ok (ev_TT X) 309 1473 lo st h n q P ↔ ev_ok (ev_TT X) 309 1474 lo ((.int (1)) :: st) h n q P := ev_go (congrFun (e_L_law_1473 (X := X)) _)
set_option maxRecDepth 100000 in
theorem e_L_law_1474 {X : ev_E} : (ev_TT X).1 309 1474 = i_ii (fun a b => a + b) 1475 := (congrFun tt_L_law 1474).trans rfl
theorem t_L_law_1474 {X : ev_E} {x y : Int32} {st : List Value} {lo : List Value} {h : ev_M} {n q : Nat} {P : ev_O → ev_M → Nat → Nat → Prop} : ev_ok (ev_TT X) 309 1474 lo (.int y :: .int x :: st) h n q P ↔ ev_ok (ev_TT X) 309 1475 lo (.int (x + y) :: st) h n q P := ev_go (congrFun (e_L_law_1474 (X := X)) _)
set_option maxRecDepth 100000 in
theorem e_L_law_1475 {X : ev_E} : (ev_TT X).1 309 1475 = i_ald X ev_tI 1476 := (congrFun tt_L_law 1475).trans rfl
theorem t_L_law_1475 {X : ev_E} {i : Int32} {x : Nat} {st : List Value} {lo : List Value} {h : ev_M} {n q : Nat} {P : ev_O → ev_M → Nat → Nat → Prop} : ev_ok (ev_TT X) 309 1475 lo (.int i :: .ref x :: st) h n q P ↔ ev_inA (ev_lk X h x) i ev_tI ∧ ev_ok (ev_TT X) 309 1476 lo (ev_aG (ev_lk X h x) i :: st) h n q P := ev_goG (congrFun (e_L_law_1475 (X := X)) _)
set_option maxRecDepth 100000 in
theorem e_L_law_1476 {X : ev_E} : (ev_TT X).1 309 1476 = i_al 0 1477 := (congrFun tt_L_law 1476).trans rfl
theorem t_L_law_1476 {X : ev_E} {st : List Value} {v : Nat} {a1 a2 a3 a4 a5 a6 : Value} {h : ev_M} {n q : Nat} {P : ev_O → ev_M → Nat → Nat → Prop} : ev_ok (ev_TT X) 309 1476 [.ref v, a1, a2, a3, a4, a5, a6] st h n q P ↔ ev_ok (ev_TT X) 309 1477 [.ref v, a1, a2, a3, a4, a5, a6] ((.ref v) :: st) h n q P := ev_go (congrFun (e_L_law_1476 (X := X)) _)
set_option maxRecDepth 100000 in
theorem e_L_law_1477 {X : ev_E} : (ev_TT X).1 309 1477 = i_il 4 1479 := (congrFun tt_L_law 1477).trans rfl
theorem t_L_law_1477 {X : ev_E} {st : List Value} {v : Int32} {a0 a1 a2 a3 a5 a6 : Value} {h : ev_M} {n q : Nat} {P : ev_O → ev_M → Nat → Nat → Prop} : ev_ok (ev_TT X) 309 1477 [a0, a1, a2, a3, .int v, a5, a6] st h n q P ↔ ev_ok (ev_TT X) 309 1479 [a0, a1, a2, a3, .int v, a5, a6] ((.int v) :: st) h n q P := ev_go (congrFun (e_L_law_1477 (X := X)) _)
set_option maxRecDepth 100000 in
theorem e_L_law_1479 {X : ev_E} : (ev_TT X).1 309 1479 = i_psh (.int (2)) 1480 := (congrFun tt_L_law 1479).trans rfl
theorem t_L_law_1479 {X : ev_E} {st : List Value} {lo : List Value} {h : ev_M} {n q : Nat} {P : ev_O → ev_M → Nat → Nat → Prop} : ev_ok (ev_TT X) 309 1479 lo st h n q P ↔ ev_ok (ev_TT X) 309 1480 lo ((.int (2)) :: st) h n q P := ev_go (congrFun (e_L_law_1479 (X := X)) _)
set_option maxRecDepth 100000 in
theorem e_L_law_1480 {X : ev_E} : (ev_TT X).1 309 1480 = i_ii (fun a b => a + b) 1481 := (congrFun tt_L_law 1480).trans rfl
theorem t_L_law_1480 {X : ev_E} {x y : Int32} {st : List Value} {lo : List Value} {h : ev_M} {n q : Nat} {P : ev_O → ev_M → Nat → Nat → Prop} : ev_ok (ev_TT X) 309 1480 lo (.int y :: .int x :: st) h n q P ↔ ev_ok (ev_TT X) 309 1481 lo (.int (x + y) :: st) h n q P := ev_go (congrFun (e_L_law_1480 (X := X)) _)
set_option maxRecDepth 100000 in
theorem e_L_law_1481 {X : ev_E} : (ev_TT X).1 309 1481 = i_ald X ev_tI 1482 := (congrFun tt_L_law 1481).trans rfl
theorem t_L_law_1481 {X : ev_E} {i : Int32} {x : Nat} {st : List Value} {lo : List Value} {h : ev_M} {n q : Nat} {P : ev_O → ev_M → Nat → Nat → Prop} : ev_ok (ev_TT X) 309 1481 lo (.int i :: .ref x :: st) h n q P ↔ ev_inA (ev_lk X h x) i ev_tI ∧ ev_ok (ev_TT X) 309 1482 lo (ev_aG (ev_lk X h x) i :: st) h n q P := ev_goG (congrFun (e_L_law_1481 (X := X)) _)
set_option maxRecDepth 100000 in
theorem e_L_law_1482 {X : ev_E} : (ev_TT X).1 309 1482 = i_al 3 1483 := (congrFun tt_L_law 1482).trans rfl
theorem t_L_law_1482 {X : ev_E} {st : List Value} {v : Nat} {a0 a1 a2 a4 a5 a6 : Value} {h : ev_M} {n q : Nat} {P : ev_O → ev_M → Nat → Nat → Prop} : ev_ok (ev_TT X) 309 1482 [a0, a1, a2, .ref v, a4, a5, a6] st h n q P ↔ ev_ok (ev_TT X) 309 1483 [a0, a1, a2, .ref v, a4, a5, a6] ((.ref v) :: st) h n q P := ev_go (congrFun (e_L_law_1482 (X := X)) _)
set_option maxRecDepth 100000 in
theorem e_L_law_1483 {X : ev_E} : (ev_TT X).1 309 1483 = i_cS 192 4 5 1486 := (congrFun tt_L_law 1483).trans rfl
theorem t_L_law_1483 {X : ev_E} {y3 : Nat} {y2 : Int32} {y1 : Int32} {y0 : Nat} {lo : List Value} {h : ev_M} {n q : Nat} {P : ev_O → ev_M → Nat → Nat → Prop} : ev_ok (ev_TT X) 309 1483 lo [.ref y3, .int y2, .int y1, .ref y0] h n q P ↔ ev_ok (ev_TT X) 192 0 [.ref y0, .int y1, .int y2, .ref y3, ev_J] [] h n q (ev_kr (ev_TT X) 309 1483 1486 lo [] P) := (ev_caG (congrFun (e_L_law_1483 (X := X)) _)).trans ⟨fun k => k.2, fun k => ⟨⟨rfl, Nat.le_of_ble_eq_true rfl, Nat.le_of_ble_eq_true rfl⟩, k⟩⟩
set_option maxRecDepth 100000 in
theorem e_L_law_1486 {X : ev_E} : (ev_TT X).1 309 1486 = i_is 5 1488 := (congrFun tt_L_law 1486).trans rfl
theorem t_L_law_1486 {X : ev_E} {st : List Value} {v : Int32} {a0 a1 a2 a3 a4 a5 a6 : Value} {h : ev_M} {n q : Nat} {P : ev_O → ev_M → Nat → Nat → Prop} : ev_ok (ev_TT X) 309 1486 [a0, a1, a2, a3, a4, a5, a6] ((.int v) :: st) h n q P ↔ ev_ok (ev_TT X) 309 1488 [a0, a1, a2, a3, ev_k a4, .int v, a6] st h n q P := ev_go (congrFun (e_L_law_1486 (X := X)) _)
set_option maxRecDepth 100000 in
theorem e_L_law_1488 {X : ev_E} : (ev_TT X).1 309 1488 = i_al 2 1489 := (congrFun tt_L_law 1488).trans rfl
theorem t_L_law_1488 {X : ev_E} {st : List Value} {v : Nat} {a0 a1 a3 a4 a5 a6 : Value} {h : ev_M} {n q : Nat} {P : ev_O → ev_M → Nat → Nat → Prop} : ev_ok (ev_TT X) 309 1488 [a0, a1, .ref v, a3, a4, a5, a6] st h n q P ↔ ev_ok (ev_TT X) 309 1489 [a0, a1, .ref v, a3, a4, a5, a6] ((.ref v) :: st) h n q P := ev_go (congrFun (e_L_law_1488 (X := X)) _)
set_option maxRecDepth 100000 in
theorem e_L_law_1489 {X : ev_E} : (ev_TT X).1 309 1489 = i_al 0 1490 := (congrFun tt_L_law 1489).trans rfl
theorem t_L_law_1489 {X : ev_E} {st : List Value} {v : Nat} {a1 a2 a3 a4 a5 a6 : Value} {h : ev_M} {n q : Nat} {P : ev_O → ev_M → Nat → Nat → Prop} : ev_ok (ev_TT X) 309 1489 [.ref v, a1, a2, a3, a4, a5, a6] st h n q P ↔ ev_ok (ev_TT X) 309 1490 [.ref v, a1, a2, a3, a4, a5, a6] ((.ref v) :: st) h n q P := ev_go (congrFun (e_L_law_1489 (X := X)) _)
set_option maxRecDepth 100000 in
theorem e_L_law_1490 {X : ev_E} : (ev_TT X).1 309 1490 = i_il 4 1492 := (congrFun tt_L_law 1490).trans rfl
theorem t_L_law_1490 {X : ev_E} {st : List Value} {v : Int32} {a0 a1 a2 a3 a5 a6 : Value} {h : ev_M} {n q : Nat} {P : ev_O → ev_M → Nat → Nat → Prop} : ev_ok (ev_TT X) 309 1490 [a0, a1, a2, a3, .int v, a5, a6] st h n q P ↔ ev_ok (ev_TT X) 309 1492 [a0, a1, a2, a3, .int v, a5, a6] ((.int v) :: st) h n q P := ev_go (congrFun (e_L_law_1490 (X := X)) _)
set_option maxRecDepth 100000 in
theorem e_L_law_1492 {X : ev_E} : (ev_TT X).1 309 1492 = i_psh (.int (1)) 1493 := (congrFun tt_L_law 1492).trans rfl
theorem t_L_law_1492 {X : ev_E} {st : List Value} {lo : List Value} {h : ev_M} {n q : Nat} {P : ev_O → ev_M → Nat → Nat → Prop} : ev_ok (ev_TT X) 309 1492 lo st h n q P ↔ ev_ok (ev_TT X) 309 1493 lo ((.int (1)) :: st) h n q P := ev_go (congrFun (e_L_law_1492 (X := X)) _)
set_option maxRecDepth 100000 in
theorem e_L_law_1493 {X : ev_E} : (ev_TT X).1 309 1493 = i_ii (fun a b => a + b) 1494 := (congrFun tt_L_law 1493).trans rfl
theorem t_L_law_1493 {X : ev_E} {x y : Int32} {st : List Value} {lo : List Value} {h : ev_M} {n q : Nat} {P : ev_O → ev_M → Nat → Nat → Prop} : ev_ok (ev_TT X) 309 1493 lo (.int y :: .int x :: st) h n q P ↔ ev_ok (ev_TT X) 309 1494 lo (.int (x + y) :: st) h n q P := ev_go (congrFun (e_L_law_1493 (X := X)) _)
set_option maxRecDepth 100000 in
theorem e_L_law_1494 {X : ev_E} : (ev_TT X).1 309 1494 = i_ald X ev_tI 1495 := (congrFun tt_L_law 1494).trans rfl
theorem t_L_law_1494 {X : ev_E} {i : Int32} {x : Nat} {st : List Value} {lo : List Value} {h : ev_M} {n q : Nat} {P : ev_O → ev_M → Nat → Nat → Prop} : ev_ok (ev_TT X) 309 1494 lo (.int i :: .ref x :: st) h n q P ↔ ev_inA (ev_lk X h x) i ev_tI ∧ ev_ok (ev_TT X) 309 1495 lo (ev_aG (ev_lk X h x) i :: st) h n q P := ev_goG (congrFun (e_L_law_1494 (X := X)) _)
set_option maxRecDepth 100000 in
theorem e_L_law_1495 {X : ev_E} : (ev_TT X).1 309 1495 = i_al 0 1496 := (congrFun tt_L_law 1495).trans rfl
theorem t_L_law_1495 {X : ev_E} {st : List Value} {v : Nat} {a1 a2 a3 a4 a5 a6 : Value} {h : ev_M} {n q : Nat} {P : ev_O → ev_M → Nat → Nat → Prop} : ev_ok (ev_TT X) 309 1495 [.ref v, a1, a2, a3, a4, a5, a6] st h n q P ↔ ev_ok (ev_TT X) 309 1496 [.ref v, a1, a2, a3, a4, a5, a6] ((.ref v) :: st) h n q P := ev_go (congrFun (e_L_law_1495 (X := X)) _)
set_option maxRecDepth 100000 in
theorem e_L_law_1496 {X : ev_E} : (ev_TT X).1 309 1496 = i_il 4 1498 := (congrFun tt_L_law 1496).trans rfl
theorem t_L_law_1496 {X : ev_E} {st : List Value} {v : Int32} {a0 a1 a2 a3 a5 a6 : Value} {h : ev_M} {n q : Nat} {P : ev_O → ev_M → Nat → Nat → Prop} : ev_ok (ev_TT X) 309 1496 [a0, a1, a2, a3, .int v, a5, a6] st h n q P ↔ ev_ok (ev_TT X) 309 1498 [a0, a1, a2, a3, .int v, a5, a6] ((.int v) :: st) h n q P := ev_go (congrFun (e_L_law_1496 (X := X)) _)
set_option maxRecDepth 100000 in
theorem e_L_law_1498 {X : ev_E} : (ev_TT X).1 309 1498 = i_psh (.int (2)) 1499 := (congrFun tt_L_law 1498).trans rfl
theorem t_L_law_1498 {X : ev_E} {st : List Value} {lo : List Value} {h : ev_M} {n q : Nat} {P : ev_O → ev_M → Nat → Nat → Prop} : ev_ok (ev_TT X) 309 1498 lo st h n q P ↔ ev_ok (ev_TT X) 309 1499 lo ((.int (2)) :: st) h n q P := ev_go (congrFun (e_L_law_1498 (X := X)) _)
set_option maxRecDepth 100000 in
theorem e_L_law_1499 {X : ev_E} : (ev_TT X).1 309 1499 = i_ii (fun a b => a + b) 1500 := (congrFun tt_L_law 1499).trans rfl
theorem t_L_law_1499 {X : ev_E} {x y : Int32} {st : List Value} {lo : List Value} {h : ev_M} {n q : Nat} {P : ev_O → ev_M → Nat → Nat → Prop} : ev_ok (ev_TT X) 309 1499 lo (.int y :: .int x :: st) h n q P ↔ ev_ok (ev_TT X) 309 1500 lo (.int (x + y) :: st) h n q P := ev_go (congrFun (e_L_law_1499 (X := X)) _)
set_option maxRecDepth 100000 in
theorem e_L_law_1500 {X : ev_E} : (ev_TT X).1 309 1500 = i_ald X ev_tI 1501 := (congrFun tt_L_law 1500).trans rfl
theorem t_L_law_1500 {X : ev_E} {i : Int32} {x : Nat} {st : List Value} {lo : List Value} {h : ev_M} {n q : Nat} {P : ev_O → ev_M → Nat → Nat → Prop} : ev_ok (ev_TT X) 309 1500 lo (.int i :: .ref x :: st) h n q P ↔ ev_inA (ev_lk X h x) i ev_tI ∧ ev_ok (ev_TT X) 309 1501 lo (ev_aG (ev_lk X h x) i :: st) h n q P := ev_goG (congrFun (e_L_law_1500 (X := X)) _)
set_option maxRecDepth 100000 in
theorem e_L_law_1501 {X : ev_E} : (ev_TT X).1 309 1501 = i_cV X 295 2 13 3 1504 := (congrFun tt_L_law 1501).trans rfl
theorem t_L_law_1501 {X : ev_E} {x : Nat} {y1 : Int32} {y0 : Int32} {lo : List Value} {h : ev_M} {n q : Nat} {P : ev_O → ev_M → Nat → Nat → Prop} : ev_ok (ev_TT X) 309 1501 lo [.int y1, .int y0, .ref x] h n q P ↔ ev_isK (ev_lk X h x) 13 ∧ ev_ok (ev_TT X) 295 0 [.ref x, .int y0, .int y1] [] h n q (ev_kr (ev_TT X) 309 1501 1504 lo [] P) := (ev_caG (congrFun (e_L_law_1501 (X := X)) _)).trans (and_congr_left' ⟨fun k => k.1, fun k => ⟨k, rfl, Or.inl (Nat.le_of_ble_eq_true rfl), Nat.le_of_ble_eq_true rfl⟩⟩)
theorem x_L_law_1501 {X : ev_E} {lo st : List Value} {h : ev_M} {n q : Nat} {P : ev_O → ev_M → Nat → Nat → Prop} {E : Nat} : ev_kr (ev_TT X) 309 1501 1504 lo st P (.inr E) h n q ↔ P (.inr E) h n q := ev_kr_x rfl
set_option maxRecDepth 100000 in
theorem e_L_law_1504 {X : ev_E} : (ev_TT X).1 309 1504 = i_is 6 1506 := (congrFun tt_L_law 1504).trans rfl
theorem t_L_law_1504 {X : ev_E} {st : List Value} {v : Int32} {a0 a1 a2 a3 a4 a5 a6 : Value} {h : ev_M} {n q : Nat} {P : ev_O → ev_M → Nat → Nat → Prop} : ev_ok (ev_TT X) 309 1504 [a0, a1, a2, a3, a4, a5, a6] ((.int v) :: st) h n q P ↔ ev_ok (ev_TT X) 309 1506 [a0, a1, a2, a3, a4, ev_k a5, .int v] st h n q P := ev_go (congrFun (e_L_law_1504 (X := X)) _)
set_option maxRecDepth 100000 in
theorem e_L_law_1506 {X : ev_E} : (ev_TT X).1 309 1506 = i_goto 1713 := (congrFun tt_L_law 1506).trans rfl
theorem t_L_law_1506 {X : ev_E} {st : List Value} {lo : List Value} {h : ev_M} {n q : Nat} {P : ev_O → ev_M → Nat → Nat → Prop} : ev_ok (ev_TT X) 309 1506 lo st h n q P ↔ ev_ok (ev_TT X) 309 1713 lo st h n q P := ev_go (congrFun (e_L_law_1506 (X := X)) _)
set_option maxRecDepth 100000 in
theorem e_L_law_1509 {X : ev_E} : (ev_TT X).1 309 1509 = i_al 1 1510 := (congrFun tt_L_law 1509).trans rfl
theorem t_L_law_1509 {X : ev_E} {st : List Value} {v : Nat} {a0 a2 a3 a4 a5 a6 : Value} {h : ev_M} {n q : Nat} {P : ev_O → ev_M → Nat → Nat → Prop} : ev_ok (ev_TT X) 309 1509 [a0, .ref v, a2, a3, a4, a5, a6] st h n q P ↔ ev_ok (ev_TT X) 309 1510 [a0, .ref v, a2, a3, a4, a5, a6] ((.ref v) :: st) h n q P := ev_go (congrFun (e_L_law_1509 (X := X)) _)
set_option maxRecDepth 100000 in
theorem e_L_law_1510 {X : ev_E} : (ev_TT X).1 309 1510 = i_al 0 1511 := (congrFun tt_L_law 1510).trans rfl
theorem t_L_law_1510 {X : ev_E} {st : List Value} {v : Nat} {a1 a2 a3 a4 a5 a6 : Value} {h : ev_M} {n q : Nat} {P : ev_O → ev_M → Nat → Nat → Prop} : ev_ok (ev_TT X) 309 1510 [.ref v, a1, a2, a3, a4, a5, a6] st h n q P ↔ ev_ok (ev_TT X) 309 1511 [.ref v, a1, a2, a3, a4, a5, a6] ((.ref v) :: st) h n q P := ev_go (congrFun (e_L_law_1510 (X := X)) _)
set_option maxRecDepth 100000 in
theorem e_L_law_1511 {X : ev_E} : (ev_TT X).1 309 1511 = i_il 4 1513 := (congrFun tt_L_law 1511).trans rfl
theorem t_L_law_1511 {X : ev_E} {st : List Value} {v : Int32} {a0 a1 a2 a3 a5 a6 : Value} {h : ev_M} {n q : Nat} {P : ev_O → ev_M → Nat → Nat → Prop} : ev_ok (ev_TT X) 309 1511 [a0, a1, a2, a3, .int v, a5, a6] st h n q P ↔ ev_ok (ev_TT X) 309 1513 [a0, a1, a2, a3, .int v, a5, a6] ((.int v) :: st) h n q P := ev_go (congrFun (e_L_law_1511 (X := X)) _)
set_option maxRecDepth 100000 in
theorem e_L_law_1513 {X : ev_E} : (ev_TT X).1 309 1513 = i_psh (.int (1)) 1514 := (congrFun tt_L_law 1513).trans rfl
theorem t_L_law_1513 {X : ev_E} {st : List Value} {lo : List Value} {h : ev_M} {n q : Nat} {P : ev_O → ev_M → Nat → Nat → Prop} : ev_ok (ev_TT X) 309 1513 lo st h n q P ↔ ev_ok (ev_TT X) 309 1514 lo ((.int (1)) :: st) h n q P := ev_go (congrFun (e_L_law_1513 (X := X)) _)
set_option maxRecDepth 100000 in
theorem e_L_law_1514 {X : ev_E} : (ev_TT X).1 309 1514 = i_ii (fun a b => a + b) 1515 := (congrFun tt_L_law 1514).trans rfl
theorem t_L_law_1514 {X : ev_E} {x y : Int32} {st : List Value} {lo : List Value} {h : ev_M} {n q : Nat} {P : ev_O → ev_M → Nat → Nat → Prop} : ev_ok (ev_TT X) 309 1514 lo (.int y :: .int x :: st) h n q P ↔ ev_ok (ev_TT X) 309 1515 lo (.int (x + y) :: st) h n q P := ev_go (congrFun (e_L_law_1514 (X := X)) _)
set_option maxRecDepth 100000 in
theorem e_L_law_1515 {X : ev_E} : (ev_TT X).1 309 1515 = i_ald X ev_tI 1516 := (congrFun tt_L_law 1515).trans rfl
theorem t_L_law_1515 {X : ev_E} {i : Int32} {x : Nat} {st : List Value} {lo : List Value} {h : ev_M} {n q : Nat} {P : ev_O → ev_M → Nat → Nat → Prop} : ev_ok (ev_TT X) 309 1515 lo (.int i :: .ref x :: st) h n q P ↔ ev_inA (ev_lk X h x) i ev_tI ∧ ev_ok (ev_TT X) 309 1516 lo (ev_aG (ev_lk X h x) i :: st) h n q P := ev_goG (congrFun (e_L_law_1515 (X := X)) _)
set_option maxRecDepth 100000 in
theorem e_L_law_1516 {X : ev_E} : (ev_TT X).1 309 1516 = i_al 3 1517 := (congrFun tt_L_law 1516).trans rfl
theorem t_L_law_1516 {X : ev_E} {st : List Value} {v : Nat} {a0 a1 a2 a4 a5 a6 : Value} {h : ev_M} {n q : Nat} {P : ev_O → ev_M → Nat → Nat → Prop} : ev_ok (ev_TT X) 309 1516 [a0, a1, a2, .ref v, a4, a5, a6] st h n q P ↔ ev_ok (ev_TT X) 309 1517 [a0, a1, a2, .ref v, a4, a5, a6] ((.ref v) :: st) h n q P := ev_go (congrFun (e_L_law_1516 (X := X)) _)
set_option maxRecDepth 100000 in
theorem e_L_law_1517 {X : ev_E} : (ev_TT X).1 309 1517 = i_cS 189 3 4 1520 := (congrFun tt_L_law 1517).trans rfl
theorem t_L_law_1517 {X : ev_E} {y2 : Nat} {y1 : Int32} {y0 : Nat} {lo : List Value} {h : ev_M} {n q : Nat} {P : ev_O → ev_M → Nat → Nat → Prop} : ev_ok (ev_TT X) 309 1517 lo [.ref y2, .int y1, .ref y0] h n q P ↔ ev_ok (ev_TT X) 189 0 [.ref y0, .int y1, .ref y2, ev_J] [] h n q (ev_kr (ev_TT X) 309 1517 1520 lo [] P) := (ev_caG (congrFun (e_L_law_1517 (X := X)) _)).trans ⟨fun k => k.2, fun k => ⟨⟨rfl, Nat.le_of_ble_eq_true rfl, Nat.le_of_ble_eq_true rfl⟩, k⟩⟩
set_option maxRecDepth 100000 in
theorem e_L_law_1520 {X : ev_E} : (ev_TT X).1 309 1520 = i_is 5 1522 := (congrFun tt_L_law 1520).trans rfl
theorem t_L_law_1520 {X : ev_E} {st : List Value} {v : Int32} {a0 a1 a2 a3 a4 a5 a6 : Value} {h : ev_M} {n q : Nat} {P : ev_O → ev_M → Nat → Nat → Prop} : ev_ok (ev_TT X) 309 1520 [a0, a1, a2, a3, a4, a5, a6] ((.int v) :: st) h n q P ↔ ev_ok (ev_TT X) 309 1522 [a0, a1, a2, a3, ev_k a4, .int v, a6] st h n q P := ev_go (congrFun (e_L_law_1520 (X := X)) _)
set_option maxRecDepth 100000 in
theorem e_L_law_1522 {X : ev_E} : (ev_TT X).1 309 1522 = i_al 2 1523 := (congrFun tt_L_law 1522).trans rfl
theorem t_L_law_1522 {X : ev_E} {st : List Value} {v : Nat} {a0 a1 a3 a4 a5 a6 : Value} {h : ev_M} {n q : Nat} {P : ev_O → ev_M → Nat → Nat → Prop} : ev_ok (ev_TT X) 309 1522 [a0, a1, .ref v, a3, a4, a5, a6] st h n q P ↔ ev_ok (ev_TT X) 309 1523 [a0, a1, .ref v, a3, a4, a5, a6] ((.ref v) :: st) h n q P := ev_go (congrFun (e_L_law_1522 (X := X)) _)
set_option maxRecDepth 100000 in
theorem e_L_law_1523 {X : ev_E} : (ev_TT X).1 309 1523 = i_al 0 1524 := (congrFun tt_L_law 1523).trans rfl
theorem t_L_law_1523 {X : ev_E} {st : List Value} {v : Nat} {a1 a2 a3 a4 a5 a6 : Value} {h : ev_M} {n q : Nat} {P : ev_O → ev_M → Nat → Nat → Prop} : ev_ok (ev_TT X) 309 1523 [.ref v, a1, a2, a3, a4, a5, a6] st h n q P ↔ ev_ok (ev_TT X) 309 1524 [.ref v, a1, a2, a3, a4, a5, a6] ((.ref v) :: st) h n q P := ev_go (congrFun (e_L_law_1523 (X := X)) _)
set_option maxRecDepth 100000 in
theorem e_L_law_1524 {X : ev_E} : (ev_TT X).1 309 1524 = i_il 4 1526 := (congrFun tt_L_law 1524).trans rfl
theorem t_L_law_1524 {X : ev_E} {st : List Value} {v : Int32} {a0 a1 a2 a3 a5 a6 : Value} {h : ev_M} {n q : Nat} {P : ev_O → ev_M → Nat → Nat → Prop} : ev_ok (ev_TT X) 309 1524 [a0, a1, a2, a3, .int v, a5, a6] st h n q P ↔ ev_ok (ev_TT X) 309 1526 [a0, a1, a2, a3, .int v, a5, a6] ((.int v) :: st) h n q P := ev_go (congrFun (e_L_law_1524 (X := X)) _)
set_option maxRecDepth 100000 in
theorem e_L_law_1526 {X : ev_E} : (ev_TT X).1 309 1526 = i_psh (.int (1)) 1527 := (congrFun tt_L_law 1526).trans rfl
theorem t_L_law_1526 {X : ev_E} {st : List Value} {lo : List Value} {h : ev_M} {n q : Nat} {P : ev_O → ev_M → Nat → Nat → Prop} : ev_ok (ev_TT X) 309 1526 lo st h n q P ↔ ev_ok (ev_TT X) 309 1527 lo ((.int (1)) :: st) h n q P := ev_go (congrFun (e_L_law_1526 (X := X)) _)
set_option maxRecDepth 100000 in
theorem e_L_law_1527 {X : ev_E} : (ev_TT X).1 309 1527 = i_ii (fun a b => a + b) 1528 := (congrFun tt_L_law 1527).trans rfl
theorem t_L_law_1527 {X : ev_E} {x y : Int32} {st : List Value} {lo : List Value} {h : ev_M} {n q : Nat} {P : ev_O → ev_M → Nat → Nat → Prop} : ev_ok (ev_TT X) 309 1527 lo (.int y :: .int x :: st) h n q P ↔ ev_ok (ev_TT X) 309 1528 lo (.int (x + y) :: st) h n q P := ev_go (congrFun (e_L_law_1527 (X := X)) _)
set_option maxRecDepth 100000 in
theorem e_L_law_1528 {X : ev_E} : (ev_TT X).1 309 1528 = i_ald X ev_tI 1529 := (congrFun tt_L_law 1528).trans rfl
theorem t_L_law_1528 {X : ev_E} {i : Int32} {x : Nat} {st : List Value} {lo : List Value} {h : ev_M} {n q : Nat} {P : ev_O → ev_M → Nat → Nat → Prop} : ev_ok (ev_TT X) 309 1528 lo (.int i :: .ref x :: st) h n q P ↔ ev_inA (ev_lk X h x) i ev_tI ∧ ev_ok (ev_TT X) 309 1529 lo (ev_aG (ev_lk X h x) i :: st) h n q P := ev_goG (congrFun (e_L_law_1528 (X := X)) _)
set_option maxRecDepth 100000 in
theorem e_L_law_1529 {X : ev_E} : (ev_TT X).1 309 1529 = i_cV X 292 1 13 2 1532 := (congrFun tt_L_law 1529).trans rfl
theorem t_L_law_1529 {X : ev_E} {x : Nat} {y0 : Int32} {lo : List Value} {h : ev_M} {n q : Nat} {P : ev_O → ev_M → Nat → Nat → Prop} : ev_ok (ev_TT X) 309 1529 lo [.int y0, .ref x] h n q P ↔ ev_isK (ev_lk X h x) 13 ∧ ev_ok (ev_TT X) 292 0 [.ref x, .int y0] [] h n q (ev_kr (ev_TT X) 309 1529 1532 lo [] P) := (ev_caG (congrFun (e_L_law_1529 (X := X)) _)).trans (and_congr_left' ⟨fun k => k.1, fun k => ⟨k, rfl, Or.inl (Nat.le_of_ble_eq_true rfl), Nat.le_of_ble_eq_true rfl⟩⟩)
theorem x_L_law_1529 {X : ev_E} {lo st : List Value} {h : ev_M} {n q : Nat} {P : ev_O → ev_M → Nat → Nat → Prop} {E : Nat} : ev_kr (ev_TT X) 309 1529 1532 lo st P (.inr E) h n q ↔ P (.inr E) h n q := ev_kr_x rfl
set_option maxRecDepth 100000 in
theorem e_L_law_1532 {X : ev_E} : (ev_TT X).1 309 1532 = i_is 6 1534 := (congrFun tt_L_law 1532).trans rfl
theorem t_L_law_1532 {X : ev_E} {st : List Value} {v : Int32} {a0 a1 a2 a3 a4 a5 a6 : Value} {h : ev_M} {n q : Nat} {P : ev_O → ev_M → Nat → Nat → Prop} : ev_ok (ev_TT X) 309 1532 [a0, a1, a2, a3, a4, a5, a6] ((.int v) :: st) h n q P ↔ ev_ok (ev_TT X) 309 1534 [a0, a1, a2, a3, a4, ev_k a5, .int v] st h n q P := ev_go (congrFun (e_L_law_1532 (X := X)) _)
set_option maxRecDepth 100000 in
theorem e_L_law_1534 {X : ev_E} : (ev_TT X).1 309 1534 = i_goto 1713 := (congrFun tt_L_law 1534).trans rfl
theorem t_L_law_1534 {X : ev_E} {st : List Value} {lo : List Value} {h : ev_M} {n q : Nat} {P : ev_O → ev_M → Nat → Nat → Prop} : ev_ok (ev_TT X) 309 1534 lo st h n q P ↔ ev_ok (ev_TT X) 309 1713 lo st h n q P := ev_go (congrFun (e_L_law_1534 (X := X)) _)
set_option maxRecDepth 100000 in
theorem e_L_law_1537 {X : ev_E} : (ev_TT X).1 309 1537 = i_al 1 1538 := (congrFun tt_L_law 1537).trans rfl
theorem t_L_law_1537 {X : ev_E} {st : List Value} {v : Nat} {a0 a2 a3 a4 a5 a6 : Value} {h : ev_M} {n q : Nat} {P : ev_O → ev_M → Nat → Nat → Prop} : ev_ok (ev_TT X) 309 1537 [a0, .ref v, a2, a3, a4, a5, a6] st h n q P ↔ ev_ok (ev_TT X) 309 1538 [a0, .ref v, a2, a3, a4, a5, a6] ((.ref v) :: st) h n q P := ev_go (congrFun (e_L_law_1537 (X := X)) _)
set_option maxRecDepth 100000 in
theorem e_L_law_1538 {X : ev_E} : (ev_TT X).1 309 1538 = i_al 0 1539 := (congrFun tt_L_law 1538).trans rfl
theorem t_L_law_1538 {X : ev_E} {st : List Value} {v : Nat} {a1 a2 a3 a4 a5 a6 : Value} {h : ev_M} {n q : Nat} {P : ev_O → ev_M → Nat → Nat → Prop} : ev_ok (ev_TT X) 309 1538 [.ref v, a1, a2, a3, a4, a5, a6] st h n q P ↔ ev_ok (ev_TT X) 309 1539 [.ref v, a1, a2, a3, a4, a5, a6] ((.ref v) :: st) h n q P := ev_go (congrFun (e_L_law_1538 (X := X)) _)
set_option maxRecDepth 100000 in
theorem e_L_law_1539 {X : ev_E} : (ev_TT X).1 309 1539 = i_il 4 1541 := (congrFun tt_L_law 1539).trans rfl
theorem t_L_law_1539 {X : ev_E} {st : List Value} {v : Int32} {a0 a1 a2 a3 a5 a6 : Value} {h : ev_M} {n q : Nat} {P : ev_O → ev_M → Nat → Nat → Prop} : ev_ok (ev_TT X) 309 1539 [a0, a1, a2, a3, .int v, a5, a6] st h n q P ↔ ev_ok (ev_TT X) 309 1541 [a0, a1, a2, a3, .int v, a5, a6] ((.int v) :: st) h n q P := ev_go (congrFun (e_L_law_1539 (X := X)) _)
set_option maxRecDepth 100000 in
theorem e_L_law_1541 {X : ev_E} : (ev_TT X).1 309 1541 = i_psh (.int (1)) 1542 := (congrFun tt_L_law 1541).trans rfl
theorem t_L_law_1541 {X : ev_E} {st : List Value} {lo : List Value} {h : ev_M} {n q : Nat} {P : ev_O → ev_M → Nat → Nat → Prop} : ev_ok (ev_TT X) 309 1541 lo st h n q P ↔ ev_ok (ev_TT X) 309 1542 lo ((.int (1)) :: st) h n q P := ev_go (congrFun (e_L_law_1541 (X := X)) _)
set_option maxRecDepth 100000 in
theorem e_L_law_1542 {X : ev_E} : (ev_TT X).1 309 1542 = i_ii (fun a b => a + b) 1543 := (congrFun tt_L_law 1542).trans rfl
theorem t_L_law_1542 {X : ev_E} {x y : Int32} {st : List Value} {lo : List Value} {h : ev_M} {n q : Nat} {P : ev_O → ev_M → Nat → Nat → Prop} : ev_ok (ev_TT X) 309 1542 lo (.int y :: .int x :: st) h n q P ↔ ev_ok (ev_TT X) 309 1543 lo (.int (x + y) :: st) h n q P := ev_go (congrFun (e_L_law_1542 (X := X)) _)
set_option maxRecDepth 100000 in
theorem e_L_law_1543 {X : ev_E} : (ev_TT X).1 309 1543 = i_ald X ev_tI 1544 := (congrFun tt_L_law 1543).trans rfl
theorem t_L_law_1543 {X : ev_E} {i : Int32} {x : Nat} {st : List Value} {lo : List Value} {h : ev_M} {n q : Nat} {P : ev_O → ev_M → Nat → Nat → Prop} : ev_ok (ev_TT X) 309 1543 lo (.int i :: .ref x :: st) h n q P ↔ ev_inA (ev_lk X h x) i ev_tI ∧ ev_ok (ev_TT X) 309 1544 lo (ev_aG (ev_lk X h x) i :: st) h n q P := ev_goG (congrFun (e_L_law_1543 (X := X)) _)
set_option maxRecDepth 100000 in
theorem e_L_law_1544 {X : ev_E} : (ev_TT X).1 309 1544 = i_al 3 1545 := (congrFun tt_L_law 1544).trans rfl
theorem t_L_law_1544 {X : ev_E} {st : List Value} {v : Nat} {a0 a1 a2 a4 a5 a6 : Value} {h : ev_M} {n q : Nat} {P : ev_O → ev_M → Nat → Nat → Prop} : ev_ok (ev_TT X) 309 1544 [a0, a1, a2, .ref v, a4, a5, a6] st h n q P ↔ ev_ok (ev_TT X) 309 1545 [a0, a1, a2, .ref v, a4, a5, a6] ((.ref v) :: st) h n q P := ev_go (congrFun (e_L_law_1544 (X := X)) _)
set_option maxRecDepth 100000 in
theorem e_L_law_1545 {X : ev_E} : (ev_TT X).1 309 1545 = i_cS 183 3 4 1548 := (congrFun tt_L_law 1545).trans rfl
theorem t_L_law_1545 {X : ev_E} {y2 : Nat} {y1 : Int32} {y0 : Nat} {lo : List Value} {h : ev_M} {n q : Nat} {P : ev_O → ev_M → Nat → Nat → Prop} : ev_ok (ev_TT X) 309 1545 lo [.ref y2, .int y1, .ref y0] h n q P ↔ ev_ok (ev_TT X) 183 0 [.ref y0, .int y1, .ref y2, ev_J] [] h n q (ev_kr (ev_TT X) 309 1545 1548 lo [] P) := (ev_caG (congrFun (e_L_law_1545 (X := X)) _)).trans ⟨fun k => k.2, fun k => ⟨⟨rfl, Nat.le_of_ble_eq_true rfl, Nat.le_of_ble_eq_true rfl⟩, k⟩⟩
set_option maxRecDepth 100000 in
theorem e_L_law_1548 {X : ev_E} : (ev_TT X).1 309 1548 = i_is 5 1550 := (congrFun tt_L_law 1548).trans rfl
theorem t_L_law_1548 {X : ev_E} {st : List Value} {v : Int32} {a0 a1 a2 a3 a4 a5 a6 : Value} {h : ev_M} {n q : Nat} {P : ev_O → ev_M → Nat → Nat → Prop} : ev_ok (ev_TT X) 309 1548 [a0, a1, a2, a3, a4, a5, a6] ((.int v) :: st) h n q P ↔ ev_ok (ev_TT X) 309 1550 [a0, a1, a2, a3, ev_k a4, .int v, a6] st h n q P := ev_go (congrFun (e_L_law_1548 (X := X)) _)
set_option maxRecDepth 100000 in
theorem e_L_law_1550 {X : ev_E} : (ev_TT X).1 309 1550 = i_al 2 1551 := (congrFun tt_L_law 1550).trans rfl
theorem t_L_law_1550 {X : ev_E} {st : List Value} {v : Nat} {a0 a1 a3 a4 a5 a6 : Value} {h : ev_M} {n q : Nat} {P : ev_O → ev_M → Nat → Nat → Prop} : ev_ok (ev_TT X) 309 1550 [a0, a1, .ref v, a3, a4, a5, a6] st h n q P ↔ ev_ok (ev_TT X) 309 1551 [a0, a1, .ref v, a3, a4, a5, a6] ((.ref v) :: st) h n q P := ev_go (congrFun (e_L_law_1550 (X := X)) _)
set_option maxRecDepth 100000 in
theorem e_L_law_1551 {X : ev_E} : (ev_TT X).1 309 1551 = i_al 0 1552 := (congrFun tt_L_law 1551).trans rfl
theorem t_L_law_1551 {X : ev_E} {st : List Value} {v : Nat} {a1 a2 a3 a4 a5 a6 : Value} {h : ev_M} {n q : Nat} {P : ev_O → ev_M → Nat → Nat → Prop} : ev_ok (ev_TT X) 309 1551 [.ref v, a1, a2, a3, a4, a5, a6] st h n q P ↔ ev_ok (ev_TT X) 309 1552 [.ref v, a1, a2, a3, a4, a5, a6] ((.ref v) :: st) h n q P := ev_go (congrFun (e_L_law_1551 (X := X)) _)
set_option maxRecDepth 100000 in
theorem e_L_law_1552 {X : ev_E} : (ev_TT X).1 309 1552 = i_il 4 1554 := (congrFun tt_L_law 1552).trans rfl
theorem t_L_law_1552 {X : ev_E} {st : List Value} {v : Int32} {a0 a1 a2 a3 a5 a6 : Value} {h : ev_M} {n q : Nat} {P : ev_O → ev_M → Nat → Nat → Prop} : ev_ok (ev_TT X) 309 1552 [a0, a1, a2, a3, .int v, a5, a6] st h n q P ↔ ev_ok (ev_TT X) 309 1554 [a0, a1, a2, a3, .int v, a5, a6] ((.int v) :: st) h n q P := ev_go (congrFun (e_L_law_1552 (X := X)) _)
set_option maxRecDepth 100000 in
theorem e_L_law_1554 {X : ev_E} : (ev_TT X).1 309 1554 = i_psh (.int (1)) 1555 := (congrFun tt_L_law 1554).trans rfl
theorem t_L_law_1554 {X : ev_E} {st : List Value} {lo : List Value} {h : ev_M} {n q : Nat} {P : ev_O → ev_M → Nat → Nat → Prop} : ev_ok (ev_TT X) 309 1554 lo st h n q P ↔ ev_ok (ev_TT X) 309 1555 lo ((.int (1)) :: st) h n q P := ev_go (congrFun (e_L_law_1554 (X := X)) _)
set_option maxRecDepth 100000 in
theorem e_L_law_1555 {X : ev_E} : (ev_TT X).1 309 1555 = i_ii (fun a b => a + b) 1556 := (congrFun tt_L_law 1555).trans rfl
theorem t_L_law_1555 {X : ev_E} {x y : Int32} {st : List Value} {lo : List Value} {h : ev_M} {n q : Nat} {P : ev_O → ev_M → Nat → Nat → Prop} : ev_ok (ev_TT X) 309 1555 lo (.int y :: .int x :: st) h n q P ↔ ev_ok (ev_TT X) 309 1556 lo (.int (x + y) :: st) h n q P := ev_go (congrFun (e_L_law_1555 (X := X)) _)
set_option maxRecDepth 100000 in
theorem e_L_law_1556 {X : ev_E} : (ev_TT X).1 309 1556 = i_ald X ev_tI 1557 := (congrFun tt_L_law 1556).trans rfl
theorem t_L_law_1556 {X : ev_E} {i : Int32} {x : Nat} {st : List Value} {lo : List Value} {h : ev_M} {n q : Nat} {P : ev_O → ev_M → Nat → Nat → Prop} : ev_ok (ev_TT X) 309 1556 lo (.int i :: .ref x :: st) h n q P ↔ ev_inA (ev_lk X h x) i ev_tI ∧ ev_ok (ev_TT X) 309 1557 lo (ev_aG (ev_lk X h x) i :: st) h n q P := ev_goG (congrFun (e_L_law_1556 (X := X)) _)
set_option maxRecDepth 100000 in
theorem e_L_law_1557 {X : ev_E} : (ev_TT X).1 309 1557 = i_cV X 290 1 13 2 1560 := (congrFun tt_L_law 1557).trans rfl
theorem t_L_law_1557 {X : ev_E} {x : Nat} {y0 : Int32} {lo : List Value} {h : ev_M} {n q : Nat} {P : ev_O → ev_M → Nat → Nat → Prop} : ev_ok (ev_TT X) 309 1557 lo [.int y0, .ref x] h n q P ↔ ev_isK (ev_lk X h x) 13 ∧ ev_ok (ev_TT X) 290 0 [.ref x, .int y0] [] h n q (ev_kr (ev_TT X) 309 1557 1560 lo [] P) := (ev_caG (congrFun (e_L_law_1557 (X := X)) _)).trans (and_congr_left' ⟨fun k => k.1, fun k => ⟨k, rfl, Or.inl (Nat.le_of_ble_eq_true rfl), Nat.le_of_ble_eq_true rfl⟩⟩)
theorem x_L_law_1557 {X : ev_E} {lo st : List Value} {h : ev_M} {n q : Nat} {P : ev_O → ev_M → Nat → Nat → Prop} {E : Nat} : ev_kr (ev_TT X) 309 1557 1560 lo st P (.inr E) h n q ↔ P (.inr E) h n q := ev_kr_x rfl
set_option maxRecDepth 100000 in
theorem e_L_law_1560 {X : ev_E} : (ev_TT X).1 309 1560 = i_is 6 1562 := (congrFun tt_L_law 1560).trans rfl
theorem t_L_law_1560 {X : ev_E} {st : List Value} {v : Int32} {a0 a1 a2 a3 a4 a5 a6 : Value} {h : ev_M} {n q : Nat} {P : ev_O → ev_M → Nat → Nat → Prop} : ev_ok (ev_TT X) 309 1560 [a0, a1, a2, a3, a4, a5, a6] ((.int v) :: st) h n q P ↔ ev_ok (ev_TT X) 309 1562 [a0, a1, a2, a3, a4, ev_k a5, .int v] st h n q P := ev_go (congrFun (e_L_law_1560 (X := X)) _)
set_option maxRecDepth 100000 in
theorem e_L_law_1562 {X : ev_E} : (ev_TT X).1 309 1562 = i_goto 1713 := (congrFun tt_L_law 1562).trans rfl
theorem t_L_law_1562 {X : ev_E} {st : List Value} {lo : List Value} {h : ev_M} {n q : Nat} {P : ev_O → ev_M → Nat → Nat → Prop} : ev_ok (ev_TT X) 309 1562 lo st h n q P ↔ ev_ok (ev_TT X) 309 1713 lo st h n q P := ev_go (congrFun (e_L_law_1562 (X := X)) _)
set_option maxRecDepth 100000 in
theorem e_L_law_1565 {X : ev_E} : (ev_TT X).1 309 1565 = i_al 1 1566 := (congrFun tt_L_law 1565).trans rfl
theorem t_L_law_1565 {X : ev_E} {st : List Value} {v : Nat} {a0 a2 a3 a4 a5 a6 : Value} {h : ev_M} {n q : Nat} {P : ev_O → ev_M → Nat → Nat → Prop} : ev_ok (ev_TT X) 309 1565 [a0, .ref v, a2, a3, a4, a5, a6] st h n q P ↔ ev_ok (ev_TT X) 309 1566 [a0, .ref v, a2, a3, a4, a5, a6] ((.ref v) :: st) h n q P := ev_go (congrFun (e_L_law_1565 (X := X)) _)
set_option maxRecDepth 100000 in
theorem e_L_law_1566 {X : ev_E} : (ev_TT X).1 309 1566 = i_al 0 1567 := (congrFun tt_L_law 1566).trans rfl
theorem t_L_law_1566 {X : ev_E} {st : List Value} {v : Nat} {a1 a2 a3 a4 a5 a6 : Value} {h : ev_M} {n q : Nat} {P : ev_O → ev_M → Nat → Nat → Prop} : ev_ok (ev_TT X) 309 1566 [.ref v, a1, a2, a3, a4, a5, a6] st h n q P ↔ ev_ok (ev_TT X) 309 1567 [.ref v, a1, a2, a3, a4, a5, a6] ((.ref v) :: st) h n q P := ev_go (congrFun (e_L_law_1566 (X := X)) _)
set_option maxRecDepth 100000 in
theorem e_L_law_1567 {X : ev_E} : (ev_TT X).1 309 1567 = i_il 4 1569 := (congrFun tt_L_law 1567).trans rfl
theorem t_L_law_1567 {X : ev_E} {st : List Value} {v : Int32} {a0 a1 a2 a3 a5 a6 : Value} {h : ev_M} {n q : Nat} {P : ev_O → ev_M → Nat → Nat → Prop} : ev_ok (ev_TT X) 309 1567 [a0, a1, a2, a3, .int v, a5, a6] st h n q P ↔ ev_ok (ev_TT X) 309 1569 [a0, a1, a2, a3, .int v, a5, a6] ((.int v) :: st) h n q P := ev_go (congrFun (e_L_law_1567 (X := X)) _)
set_option maxRecDepth 100000 in
theorem e_L_law_1569 {X : ev_E} : (ev_TT X).1 309 1569 = i_psh (.int (1)) 1570 := (congrFun tt_L_law 1569).trans rfl
theorem t_L_law_1569 {X : ev_E} {st : List Value} {lo : List Value} {h : ev_M} {n q : Nat} {P : ev_O → ev_M → Nat → Nat → Prop} : ev_ok (ev_TT X) 309 1569 lo st h n q P ↔ ev_ok (ev_TT X) 309 1570 lo ((.int (1)) :: st) h n q P := ev_go (congrFun (e_L_law_1569 (X := X)) _)
set_option maxRecDepth 100000 in
theorem e_L_law_1570 {X : ev_E} : (ev_TT X).1 309 1570 = i_ii (fun a b => a + b) 1571 := (congrFun tt_L_law 1570).trans rfl
theorem t_L_law_1570 {X : ev_E} {x y : Int32} {st : List Value} {lo : List Value} {h : ev_M} {n q : Nat} {P : ev_O → ev_M → Nat → Nat → Prop} : ev_ok (ev_TT X) 309 1570 lo (.int y :: .int x :: st) h n q P ↔ ev_ok (ev_TT X) 309 1571 lo (.int (x + y) :: st) h n q P := ev_go (congrFun (e_L_law_1570 (X := X)) _)
set_option maxRecDepth 100000 in
theorem e_L_law_1571 {X : ev_E} : (ev_TT X).1 309 1571 = i_ald X ev_tI 1572 := (congrFun tt_L_law 1571).trans rfl
theorem t_L_law_1571 {X : ev_E} {i : Int32} {x : Nat} {st : List Value} {lo : List Value} {h : ev_M} {n q : Nat} {P : ev_O → ev_M → Nat → Nat → Prop} : ev_ok (ev_TT X) 309 1571 lo (.int i :: .ref x :: st) h n q P ↔ ev_inA (ev_lk X h x) i ev_tI ∧ ev_ok (ev_TT X) 309 1572 lo (ev_aG (ev_lk X h x) i :: st) h n q P := ev_goG (congrFun (e_L_law_1571 (X := X)) _)
set_option maxRecDepth 100000 in
theorem e_L_law_1572 {X : ev_E} : (ev_TT X).1 309 1572 = i_al 3 1573 := (congrFun tt_L_law 1572).trans rfl
theorem t_L_law_1572 {X : ev_E} {st : List Value} {v : Nat} {a0 a1 a2 a4 a5 a6 : Value} {h : ev_M} {n q : Nat} {P : ev_O → ev_M → Nat → Nat → Prop} : ev_ok (ev_TT X) 309 1572 [a0, a1, a2, .ref v, a4, a5, a6] st h n q P ↔ ev_ok (ev_TT X) 309 1573 [a0, a1, a2, .ref v, a4, a5, a6] ((.ref v) :: st) h n q P := ev_go (congrFun (e_L_law_1572 (X := X)) _)
set_option maxRecDepth 100000 in
theorem e_L_law_1573 {X : ev_E} : (ev_TT X).1 309 1573 = i_cS 187 3 4 1576 := (congrFun tt_L_law 1573).trans rfl
theorem t_L_law_1573 {X : ev_E} {y2 : Nat} {y1 : Int32} {y0 : Nat} {lo : List Value} {h : ev_M} {n q : Nat} {P : ev_O → ev_M → Nat → Nat → Prop} : ev_ok (ev_TT X) 309 1573 lo [.ref y2, .int y1, .ref y0] h n q P ↔ ev_ok (ev_TT X) 187 0 [.ref y0, .int y1, .ref y2, ev_J] [] h n q (ev_kr (ev_TT X) 309 1573 1576 lo [] P) := (ev_caG (congrFun (e_L_law_1573 (X := X)) _)).trans ⟨fun k => k.2, fun k => ⟨⟨rfl, Nat.le_of_ble_eq_true rfl, Nat.le_of_ble_eq_true rfl⟩, k⟩⟩
set_option maxRecDepth 100000 in
theorem e_L_law_1576 {X : ev_E} : (ev_TT X).1 309 1576 = i_is 5 1578 := (congrFun tt_L_law 1576).trans rfl
theorem t_L_law_1576 {X : ev_E} {st : List Value} {v : Int32} {a0 a1 a2 a3 a4 a5 a6 : Value} {h : ev_M} {n q : Nat} {P : ev_O → ev_M → Nat → Nat → Prop} : ev_ok (ev_TT X) 309 1576 [a0, a1, a2, a3, a4, a5, a6] ((.int v) :: st) h n q P ↔ ev_ok (ev_TT X) 309 1578 [a0, a1, a2, a3, ev_k a4, .int v, a6] st h n q P := ev_go (congrFun (e_L_law_1576 (X := X)) _)
set_option maxRecDepth 100000 in
theorem e_L_law_1578 {X : ev_E} : (ev_TT X).1 309 1578 = i_al 2 1579 := (congrFun tt_L_law 1578).trans rfl
theorem t_L_law_1578 {X : ev_E} {st : List Value} {v : Nat} {a0 a1 a3 a4 a5 a6 : Value} {h : ev_M} {n q : Nat} {P : ev_O → ev_M → Nat → Nat → Prop} : ev_ok (ev_TT X) 309 1578 [a0, a1, .ref v, a3, a4, a5, a6] st h n q P ↔ ev_ok (ev_TT X) 309 1579 [a0, a1, .ref v, a3, a4, a5, a6] ((.ref v) :: st) h n q P := ev_go (congrFun (e_L_law_1578 (X := X)) _)
set_option maxRecDepth 100000 in
theorem e_L_law_1579 {X : ev_E} : (ev_TT X).1 309 1579 = i_al 0 1580 := (congrFun tt_L_law 1579).trans rfl
theorem t_L_law_1579 {X : ev_E} {st : List Value} {v : Nat} {a1 a2 a3 a4 a5 a6 : Value} {h : ev_M} {n q : Nat} {P : ev_O → ev_M → Nat → Nat → Prop} : ev_ok (ev_TT X) 309 1579 [.ref v, a1, a2, a3, a4, a5, a6] st h n q P ↔ ev_ok (ev_TT X) 309 1580 [.ref v, a1, a2, a3, a4, a5, a6] ((.ref v) :: st) h n q P := ev_go (congrFun (e_L_law_1579 (X := X)) _)
set_option maxRecDepth 100000 in
theorem e_L_law_1580 {X : ev_E} : (ev_TT X).1 309 1580 = i_il 4 1582 := (congrFun tt_L_law 1580).trans rfl
theorem t_L_law_1580 {X : ev_E} {st : List Value} {v : Int32} {a0 a1 a2 a3 a5 a6 : Value} {h : ev_M} {n q : Nat} {P : ev_O → ev_M → Nat → Nat → Prop} : ev_ok (ev_TT X) 309 1580 [a0, a1, a2, a3, .int v, a5, a6] st h n q P ↔ ev_ok (ev_TT X) 309 1582 [a0, a1, a2, a3, .int v, a5, a6] ((.int v) :: st) h n q P := ev_go (congrFun (e_L_law_1580 (X := X)) _)
set_option maxRecDepth 100000 in
theorem e_L_law_1582 {X : ev_E} : (ev_TT X).1 309 1582 = i_psh (.int (1)) 1583 := (congrFun tt_L_law 1582).trans rfl
theorem t_L_law_1582 {X : ev_E} {st : List Value} {lo : List Value} {h : ev_M} {n q : Nat} {P : ev_O → ev_M → Nat → Nat → Prop} : ev_ok (ev_TT X) 309 1582 lo st h n q P ↔ ev_ok (ev_TT X) 309 1583 lo ((.int (1)) :: st) h n q P := ev_go (congrFun (e_L_law_1582 (X := X)) _)
set_option maxRecDepth 100000 in
theorem e_L_law_1583 {X : ev_E} : (ev_TT X).1 309 1583 = i_ii (fun a b => a + b) 1584 := (congrFun tt_L_law 1583).trans rfl
theorem t_L_law_1583 {X : ev_E} {x y : Int32} {st : List Value} {lo : List Value} {h : ev_M} {n q : Nat} {P : ev_O → ev_M → Nat → Nat → Prop} : ev_ok (ev_TT X) 309 1583 lo (.int y :: .int x :: st) h n q P ↔ ev_ok (ev_TT X) 309 1584 lo (.int (x + y) :: st) h n q P := ev_go (congrFun (e_L_law_1583 (X := X)) _)
set_option maxRecDepth 100000 in
theorem e_L_law_1584 {X : ev_E} : (ev_TT X).1 309 1584 = i_ald X ev_tI 1585 := (congrFun tt_L_law 1584).trans rfl
theorem t_L_law_1584 {X : ev_E} {i : Int32} {x : Nat} {st : List Value} {lo : List Value} {h : ev_M} {n q : Nat} {P : ev_O → ev_M → Nat → Nat → Prop} : ev_ok (ev_TT X) 309 1584 lo (.int i :: .ref x :: st) h n q P ↔ ev_inA (ev_lk X h x) i ev_tI ∧ ev_ok (ev_TT X) 309 1585 lo (ev_aG (ev_lk X h x) i :: st) h n q P := ev_goG (congrFun (e_L_law_1584 (X := X)) _)
set_option maxRecDepth 100000 in
theorem e_L_law_1585 {X : ev_E} : (ev_TT X).1 309 1585 = i_cV X 291 1 13 2 1588 := (congrFun tt_L_law 1585).trans rfl
theorem t_L_law_1585 {X : ev_E} {x : Nat} {y0 : Int32} {lo : List Value} {h : ev_M} {n q : Nat} {P : ev_O → ev_M → Nat → Nat → Prop} : ev_ok (ev_TT X) 309 1585 lo [.int y0, .ref x] h n q P ↔ ev_isK (ev_lk X h x) 13 ∧ ev_ok (ev_TT X) 291 0 [.ref x, .int y0] [] h n q (ev_kr (ev_TT X) 309 1585 1588 lo [] P) := (ev_caG (congrFun (e_L_law_1585 (X := X)) _)).trans (and_congr_left' ⟨fun k => k.1, fun k => ⟨k, rfl, Or.inl (Nat.le_of_ble_eq_true rfl), Nat.le_of_ble_eq_true rfl⟩⟩)
theorem x_L_law_1585 {X : ev_E} {lo st : List Value} {h : ev_M} {n q : Nat} {P : ev_O → ev_M → Nat → Nat → Prop} {E : Nat} : ev_kr (ev_TT X) 309 1585 1588 lo st P (.inr E) h n q ↔ P (.inr E) h n q := ev_kr_x rfl
set_option maxRecDepth 100000 in
theorem e_L_law_1588 {X : ev_E} : (ev_TT X).1 309 1588 = i_is 6 1590 := (congrFun tt_L_law 1588).trans rfl
theorem t_L_law_1588 {X : ev_E} {st : List Value} {v : Int32} {a0 a1 a2 a3 a4 a5 a6 : Value} {h : ev_M} {n q : Nat} {P : ev_O → ev_M → Nat → Nat → Prop} : ev_ok (ev_TT X) 309 1588 [a0, a1, a2, a3, a4, a5, a6] ((.int v) :: st) h n q P ↔ ev_ok (ev_TT X) 309 1590 [a0, a1, a2, a3, a4, ev_k a5, .int v] st h n q P := ev_go (congrFun (e_L_law_1588 (X := X)) _)
set_option maxRecDepth 100000 in
theorem e_L_law_1590 {X : ev_E} : (ev_TT X).1 309 1590 = i_goto 1713 := (congrFun tt_L_law 1590).trans rfl
theorem t_L_law_1590 {X : ev_E} {st : List Value} {lo : List Value} {h : ev_M} {n q : Nat} {P : ev_O → ev_M → Nat → Nat → Prop} : ev_ok (ev_TT X) 309 1590 lo st h n q P ↔ ev_ok (ev_TT X) 309 1713 lo st h n q P := ev_go (congrFun (e_L_law_1590 (X := X)) _)
set_option maxRecDepth 100000 in
theorem e_L_law_1593 {X : ev_E} : (ev_TT X).1 309 1593 = i_al 1 1594 := (congrFun tt_L_law 1593).trans rfl
theorem t_L_law_1593 {X : ev_E} {st : List Value} {v : Nat} {a0 a2 a3 a4 a5 a6 : Value} {h : ev_M} {n q : Nat} {P : ev_O → ev_M → Nat → Nat → Prop} : ev_ok (ev_TT X) 309 1593 [a0, .ref v, a2, a3, a4, a5, a6] st h n q P ↔ ev_ok (ev_TT X) 309 1594 [a0, .ref v, a2, a3, a4, a5, a6] ((.ref v) :: st) h n q P := ev_go (congrFun (e_L_law_1593 (X := X)) _)
set_option maxRecDepth 100000 in
theorem e_L_law_1594 {X : ev_E} : (ev_TT X).1 309 1594 = i_al 0 1595 := (congrFun tt_L_law 1594).trans rfl
theorem t_L_law_1594 {X : ev_E} {st : List Value} {v : Nat} {a1 a2 a3 a4 a5 a6 : Value} {h : ev_M} {n q : Nat} {P : ev_O → ev_M → Nat → Nat → Prop} : ev_ok (ev_TT X) 309 1594 [.ref v, a1, a2, a3, a4, a5, a6] st h n q P ↔ ev_ok (ev_TT X) 309 1595 [.ref v, a1, a2, a3, a4, a5, a6] ((.ref v) :: st) h n q P := ev_go (congrFun (e_L_law_1594 (X := X)) _)
set_option maxRecDepth 100000 in
theorem e_L_law_1595 {X : ev_E} : (ev_TT X).1 309 1595 = i_il 4 1597 := (congrFun tt_L_law 1595).trans rfl
theorem t_L_law_1595 {X : ev_E} {st : List Value} {v : Int32} {a0 a1 a2 a3 a5 a6 : Value} {h : ev_M} {n q : Nat} {P : ev_O → ev_M → Nat → Nat → Prop} : ev_ok (ev_TT X) 309 1595 [a0, a1, a2, a3, .int v, a5, a6] st h n q P ↔ ev_ok (ev_TT X) 309 1597 [a0, a1, a2, a3, .int v, a5, a6] ((.int v) :: st) h n q P := ev_go (congrFun (e_L_law_1595 (X := X)) _)
set_option maxRecDepth 100000 in
theorem e_L_law_1597 {X : ev_E} : (ev_TT X).1 309 1597 = i_psh (.int (1)) 1598 := (congrFun tt_L_law 1597).trans rfl
theorem t_L_law_1597 {X : ev_E} {st : List Value} {lo : List Value} {h : ev_M} {n q : Nat} {P : ev_O → ev_M → Nat → Nat → Prop} : ev_ok (ev_TT X) 309 1597 lo st h n q P ↔ ev_ok (ev_TT X) 309 1598 lo ((.int (1)) :: st) h n q P := ev_go (congrFun (e_L_law_1597 (X := X)) _)
set_option maxRecDepth 100000 in
theorem e_L_law_1598 {X : ev_E} : (ev_TT X).1 309 1598 = i_ii (fun a b => a + b) 1599 := (congrFun tt_L_law 1598).trans rfl
theorem t_L_law_1598 {X : ev_E} {x y : Int32} {st : List Value} {lo : List Value} {h : ev_M} {n q : Nat} {P : ev_O → ev_M → Nat → Nat → Prop} : ev_ok (ev_TT X) 309 1598 lo (.int y :: .int x :: st) h n q P ↔ ev_ok (ev_TT X) 309 1599 lo (.int (x + y) :: st) h n q P := ev_go (congrFun (e_L_law_1598 (X := X)) _)
set_option maxRecDepth 100000 in
theorem e_L_law_1599 {X : ev_E} : (ev_TT X).1 309 1599 = i_ald X ev_tI 1600 := (congrFun tt_L_law 1599).trans rfl
theorem t_L_law_1599 {X : ev_E} {i : Int32} {x : Nat} {st : List Value} {lo : List Value} {h : ev_M} {n q : Nat} {P : ev_O → ev_M → Nat → Nat → Prop} : ev_ok (ev_TT X) 309 1599 lo (.int i :: .ref x :: st) h n q P ↔ ev_inA (ev_lk X h x) i ev_tI ∧ ev_ok (ev_TT X) 309 1600 lo (ev_aG (ev_lk X h x) i :: st) h n q P := ev_goG (congrFun (e_L_law_1599 (X := X)) _)
set_option maxRecDepth 100000 in
theorem e_L_law_1600 {X : ev_E} : (ev_TT X).1 309 1600 = i_cV X 113 1 10 2 1603 := (congrFun tt_L_law 1600).trans rfl
theorem t_L_law_1600 {X : ev_E} {x : Nat} {y0 : Int32} {lo : List Value} {h : ev_M} {n q : Nat} {P : ev_O → ev_M → Nat → Nat → Prop} : ev_ok (ev_TT X) 309 1600 lo [.int y0, .ref x] h n q P ↔ ev_isK (ev_lk X h x) 10 ∧ ev_ok (ev_TT X) 113 0 [.ref x, .int y0] [] h n q (ev_kr (ev_TT X) 309 1600 1603 lo [] P) := (ev_caG (congrFun (e_L_law_1600 (X := X)) _)).trans (and_congr_left' ⟨fun k => k.1, fun k => ⟨k, rfl, Or.inl (Nat.le_of_ble_eq_true rfl), Nat.le_of_ble_eq_true rfl⟩⟩)
theorem x_L_law_1600 {X : ev_E} {lo st : List Value} {h : ev_M} {n q : Nat} {P : ev_O → ev_M → Nat → Nat → Prop} {E : Nat} : ev_kr (ev_TT X) 309 1600 1603 lo st P (.inr E) h n q ↔ P (.inr E) h n q := ev_kr_x rfl
set_option maxRecDepth 100000 in
theorem e_L_law_1603 {X : ev_E} : (ev_TT X).1 309 1603 = i_pop 1604 := (congrFun tt_L_law 1603).trans rfl
theorem t_L_law_1603 {X : ev_E} {x : Nat} {st : List Value} {lo : List Value} {h : ev_M} {n q : Nat} {P : ev_O → ev_M → Nat → Nat → Prop} : ev_ok (ev_TT X) 309 1603 lo (.ref x :: st) h n q P ↔ ev_ok (ev_TT X) 309 1604 lo st h n q P := ev_go (congrFun (e_L_law_1603 (X := X)) _)
theorem t_L_law_1603_i {X : ev_E} {x : Int32} {st : List Value} {lo : List Value} {h : ev_M} {n q : Nat} {P : ev_O → ev_M → Nat → Nat → Prop} : ev_ok (ev_TT X) 309 1603 lo (.int x :: st) h n q P ↔ ev_ok (ev_TT X) 309 1604 lo st h n q P := ev_go (congrFun (e_L_law_1603 (X := X)) _)
set_option maxRecDepth 100000 in
theorem e_L_law_1604 {X : ev_E} : (ev_TT X).1 309 1604 = i_al 2 1605 := (congrFun tt_L_law 1604).trans rfl
theorem t_L_law_1604 {X : ev_E} {st : List Value} {v : Nat} {a0 a1 a3 a4 a5 a6 : Value} {h : ev_M} {n q : Nat} {P : ev_O → ev_M → Nat → Nat → Prop} : ev_ok (ev_TT X) 309 1604 [a0, a1, .ref v, a3, a4, a5, a6] st h n q P ↔ ev_ok (ev_TT X) 309 1605 [a0, a1, .ref v, a3, a4, a5, a6] ((.ref v) :: st) h n q P := ev_go (congrFun (e_L_law_1604 (X := X)) _)
set_option maxRecDepth 100000 in
theorem e_L_law_1605 {X : ev_E} : (ev_TT X).1 309 1605 = i_al 0 1606 := (congrFun tt_L_law 1605).trans rfl
theorem t_L_law_1605 {X : ev_E} {st : List Value} {v : Nat} {a1 a2 a3 a4 a5 a6 : Value} {h : ev_M} {n q : Nat} {P : ev_O → ev_M → Nat → Nat → Prop} : ev_ok (ev_TT X) 309 1605 [.ref v, a1, a2, a3, a4, a5, a6] st h n q P ↔ ev_ok (ev_TT X) 309 1606 [.ref v, a1, a2, a3, a4, a5, a6] ((.ref v) :: st) h n q P := ev_go (congrFun (e_L_law_1605 (X := X)) _)
set_option maxRecDepth 100000 in
theorem e_L_law_1606 {X : ev_E} : (ev_TT X).1 309 1606 = i_il 4 1608 := (congrFun tt_L_law 1606).trans rfl
theorem t_L_law_1606 {X : ev_E} {st : List Value} {v : Int32} {a0 a1 a2 a3 a5 a6 : Value} {h : ev_M} {n q : Nat} {P : ev_O → ev_M → Nat → Nat → Prop} : ev_ok (ev_TT X) 309 1606 [a0, a1, a2, a3, .int v, a5, a6] st h n q P ↔ ev_ok (ev_TT X) 309 1608 [a0, a1, a2, a3, .int v, a5, a6] ((.int v) :: st) h n q P := ev_go (congrFun (e_L_law_1606 (X := X)) _)
set_option maxRecDepth 100000 in
theorem e_L_law_1608 {X : ev_E} : (ev_TT X).1 309 1608 = i_psh (.int (1)) 1609 := (congrFun tt_L_law 1608).trans rfl
theorem t_L_law_1608 {X : ev_E} {st : List Value} {lo : List Value} {h : ev_M} {n q : Nat} {P : ev_O → ev_M → Nat → Nat → Prop} : ev_ok (ev_TT X) 309 1608 lo st h n q P ↔ ev_ok (ev_TT X) 309 1609 lo ((.int (1)) :: st) h n q P := ev_go (congrFun (e_L_law_1608 (X := X)) _)
set_option maxRecDepth 100000 in
theorem e_L_law_1609 {X : ev_E} : (ev_TT X).1 309 1609 = i_ii (fun a b => a + b) 1610 := (congrFun tt_L_law 1609).trans rfl
theorem t_L_law_1609 {X : ev_E} {x y : Int32} {st : List Value} {lo : List Value} {h : ev_M} {n q : Nat} {P : ev_O → ev_M → Nat → Nat → Prop} : ev_ok (ev_TT X) 309 1609 lo (.int y :: .int x :: st) h n q P ↔ ev_ok (ev_TT X) 309 1610 lo (.int (x + y) :: st) h n q P := ev_go (congrFun (e_L_law_1609 (X := X)) _)
set_option maxRecDepth 100000 in
theorem e_L_law_1610 {X : ev_E} : (ev_TT X).1 309 1610 = i_ald X ev_tI 1611 := (congrFun tt_L_law 1610).trans rfl
theorem t_L_law_1610 {X : ev_E} {i : Int32} {x : Nat} {st : List Value} {lo : List Value} {h : ev_M} {n q : Nat} {P : ev_O → ev_M → Nat → Nat → Prop} : ev_ok (ev_TT X) 309 1610 lo (.int i :: .ref x :: st) h n q P ↔ ev_inA (ev_lk X h x) i ev_tI ∧ ev_ok (ev_TT X) 309 1611 lo (ev_aG (ev_lk X h x) i :: st) h n q P := ev_goG (congrFun (e_L_law_1610 (X := X)) _)
set_option maxRecDepth 100000 in
theorem e_L_law_1611 {X : ev_E} : (ev_TT X).1 309 1611 = i_cV X 271 1 13 4 1614 := (congrFun tt_L_law 1611).trans rfl
theorem t_L_law_1611 {X : ev_E} {x : Nat} {y0 : Int32} {lo : List Value} {h : ev_M} {n q : Nat} {P : ev_O → ev_M → Nat → Nat → Prop} : ev_ok (ev_TT X) 309 1611 lo [.int y0, .ref x] h n q P ↔ ev_isK (ev_lk X h x) 13 ∧ ev_ok (ev_TT X) 271 0 [.ref x, .int y0, ev_J, ev_J] [] h n q (ev_kr (ev_TT X) 309 1611 1614 lo [] P) := (ev_caG (congrFun (e_L_law_1611 (X := X)) _)).trans (and_congr_left' ⟨fun k => k.1, fun k => ⟨k, rfl, Or.inl (Nat.le_of_ble_eq_true rfl), Nat.le_of_ble_eq_true rfl⟩⟩)
theorem x_L_law_1611 {X : ev_E} {lo st : List Value} {h : ev_M} {n q : Nat} {P : ev_O → ev_M → Nat → Nat → Prop} {E : Nat} : ev_kr (ev_TT X) 309 1611 1614 lo st P (.inr E) h n q ↔ P (.inr E) h n q := ev_kr_x rfl
set_option maxRecDepth 100000 in
theorem e_L_law_1614 {X : ev_E} : (ev_TT X).1 309 1614 = i_pop 1615 := (congrFun tt_L_law 1614).trans rfl
theorem t_L_law_1614 {X : ev_E} {x : Nat} {st : List Value} {lo : List Value} {h : ev_M} {n q : Nat} {P : ev_O → ev_M → Nat → Nat → Prop} : ev_ok (ev_TT X) 309 1614 lo (.ref x :: st) h n q P ↔ ev_ok (ev_TT X) 309 1615 lo st h n q P := ev_go (congrFun (e_L_law_1614 (X := X)) _)
theorem t_L_law_1614_i {X : ev_E} {x : Int32} {st : List Value} {lo : List Value} {h : ev_M} {n q : Nat} {P : ev_O → ev_M → Nat → Nat → Prop} : ev_ok (ev_TT X) 309 1614 lo (.int x :: st) h n q P ↔ ev_ok (ev_TT X) 309 1615 lo st h n q P := ev_go (congrFun (e_L_law_1614 (X := X)) _)
set_option maxRecDepth 100000 in
theorem e_L_law_1615 {X : ev_E} : (ev_TT X).1 309 1615 = i_goto 1713 := (congrFun tt_L_law 1615).trans rfl
theorem t_L_law_1615 {X : ev_E} {st : List Value} {lo : List Value} {h : ev_M} {n q : Nat} {P : ev_O → ev_M → Nat → Nat → Prop} : ev_ok (ev_TT X) 309 1615 lo st h n q P ↔ ev_ok (ev_TT X) 309 1713 lo st h n q P := ev_go (congrFun (e_L_law_1615 (X := X)) _)
set_option maxRecDepth 100000 in
theorem e_L_law_1618 {X : ev_E} : (ev_TT X).1 309 1618 = i_al 1 1619 := (congrFun tt_L_law 1618).trans rfl
theorem t_L_law_1618 {X : ev_E} {st : List Value} {v : Nat} {a0 a2 a3 a4 a5 a6 : Value} {h : ev_M} {n q : Nat} {P : ev_O → ev_M → Nat → Nat → Prop} : ev_ok (ev_TT X) 309 1618 [a0, .ref v, a2, a3, a4, a5, a6] st h n q P ↔ ev_ok (ev_TT X) 309 1619 [a0, .ref v, a2, a3, a4, a5, a6] ((.ref v) :: st) h n q P := ev_go (congrFun (e_L_law_1618 (X := X)) _)
set_option maxRecDepth 100000 in
theorem e_L_law_1619 {X : ev_E} : (ev_TT X).1 309 1619 = i_al 0 1620 := (congrFun tt_L_law 1619).trans rfl
theorem t_L_law_1619 {X : ev_E} {st : List Value} {v : Nat} {a1 a2 a3 a4 a5 a6 : Value} {h : ev_M} {n q : Nat} {P : ev_O → ev_M → Nat → Nat → Prop} : ev_ok (ev_TT X) 309 1619 [.ref v, a1, a2, a3, a4, a5, a6] st h n q P ↔ ev_ok (ev_TT X) 309 1620 [.ref v, a1, a2, a3, a4, a5, a6] ((.ref v) :: st) h n q P := ev_go (congrFun (e_L_law_1619 (X := X)) _)
set_option maxRecDepth 100000 in
theorem e_L_law_1620 {X : ev_E} : (ev_TT X).1 309 1620 = i_il 4 1622 := (congrFun tt_L_law 1620).trans rfl
theorem t_L_law_1620 {X : ev_E} {st : List Value} {v : Int32} {a0 a1 a2 a3 a5 a6 : Value} {h : ev_M} {n q : Nat} {P : ev_O → ev_M → Nat → Nat → Prop} : ev_ok (ev_TT X) 309 1620 [a0, a1, a2, a3, .int v, a5, a6] st h n q P ↔ ev_ok (ev_TT X) 309 1622 [a0, a1, a2, a3, .int v, a5, a6] ((.int v) :: st) h n q P := ev_go (congrFun (e_L_law_1620 (X := X)) _)
set_option maxRecDepth 100000 in
theorem e_L_law_1622 {X : ev_E} : (ev_TT X).1 309 1622 = i_psh (.int (1)) 1623 := (congrFun tt_L_law 1622).trans rfl
theorem t_L_law_1622 {X : ev_E} {st : List Value} {lo : List Value} {h : ev_M} {n q : Nat} {P : ev_O → ev_M → Nat → Nat → Prop} : ev_ok (ev_TT X) 309 1622 lo st h n q P ↔ ev_ok (ev_TT X) 309 1623 lo ((.int (1)) :: st) h n q P := ev_go (congrFun (e_L_law_1622 (X := X)) _)
set_option maxRecDepth 100000 in
theorem e_L_law_1623 {X : ev_E} : (ev_TT X).1 309 1623 = i_ii (fun a b => a + b) 1624 := (congrFun tt_L_law 1623).trans rfl
theorem t_L_law_1623 {X : ev_E} {x y : Int32} {st : List Value} {lo : List Value} {h : ev_M} {n q : Nat} {P : ev_O → ev_M → Nat → Nat → Prop} : ev_ok (ev_TT X) 309 1623 lo (.int y :: .int x :: st) h n q P ↔ ev_ok (ev_TT X) 309 1624 lo (.int (x + y) :: st) h n q P := ev_go (congrFun (e_L_law_1623 (X := X)) _)
set_option maxRecDepth 100000 in
theorem e_L_law_1624 {X : ev_E} : (ev_TT X).1 309 1624 = i_ald X ev_tI 1625 := (congrFun tt_L_law 1624).trans rfl
theorem t_L_law_1624 {X : ev_E} {i : Int32} {x : Nat} {st : List Value} {lo : List Value} {h : ev_M} {n q : Nat} {P : ev_O → ev_M → Nat → Nat → Prop} : ev_ok (ev_TT X) 309 1624 lo (.int i :: .ref x :: st) h n q P ↔ ev_inA (ev_lk X h x) i ev_tI ∧ ev_ok (ev_TT X) 309 1625 lo (ev_aG (ev_lk X h x) i :: st) h n q P := ev_goG (congrFun (e_L_law_1624 (X := X)) _)
set_option maxRecDepth 100000 in
theorem e_L_law_1625 {X : ev_E} : (ev_TT X).1 309 1625 = i_al 3 1626 := (congrFun tt_L_law 1625).trans rfl
theorem t_L_law_1625 {X : ev_E} {st : List Value} {v : Nat} {a0 a1 a2 a4 a5 a6 : Value} {h : ev_M} {n q : Nat} {P : ev_O → ev_M → Nat → Nat → Prop} : ev_ok (ev_TT X) 309 1625 [a0, a1, a2, .ref v, a4, a5, a6] st h n q P ↔ ev_ok (ev_TT X) 309 1626 [a0, a1, a2, .ref v, a4, a5, a6] ((.ref v) :: st) h n q P := ev_go (congrFun (e_L_law_1625 (X := X)) _)
set_option maxRecDepth 100000 in
theorem e_L_law_1626 {X : ev_E} : (ev_TT X).1 309 1626 = i_cS 179 3 4 1629 := (congrFun tt_L_law 1626).trans rfl
theorem t_L_law_1626 {X : ev_E} {y2 : Nat} {y1 : Int32} {y0 : Nat} {lo : List Value} {h : ev_M} {n q : Nat} {P : ev_O → ev_M → Nat → Nat → Prop} : ev_ok (ev_TT X) 309 1626 lo [.ref y2, .int y1, .ref y0] h n q P ↔ ev_ok (ev_TT X) 179 0 [.ref y0, .int y1, .ref y2, ev_J] [] h n q (ev_kr (ev_TT X) 309 1626 1629 lo [] P) := (ev_caG (congrFun (e_L_law_1626 (X := X)) _)).trans ⟨fun k => k.2, fun k => ⟨⟨rfl, Nat.le_of_ble_eq_true rfl, Nat.le_of_ble_eq_true rfl⟩, k⟩⟩
set_option maxRecDepth 100000 in
theorem e_L_law_1629 {X : ev_E} : (ev_TT X).1 309 1629 = i_is 5 1631 := (congrFun tt_L_law 1629).trans rfl
theorem t_L_law_1629 {X : ev_E} {st : List Value} {v : Int32} {a0 a1 a2 a3 a4 a5 a6 : Value} {h : ev_M} {n q : Nat} {P : ev_O → ev_M → Nat → Nat → Prop} : ev_ok (ev_TT X) 309 1629 [a0, a1, a2, a3, a4, a5, a6] ((.int v) :: st) h n q P ↔ ev_ok (ev_TT X) 309 1631 [a0, a1, a2, a3, ev_k a4, .int v, a6] st h n q P := ev_go (congrFun (e_L_law_1629 (X := X)) _)
set_option maxRecDepth 100000 in
theorem e_L_law_1631 {X : ev_E} : (ev_TT X).1 309 1631 = i_al 2 1632 := (congrFun tt_L_law 1631).trans rfl
theorem t_L_law_1631 {X : ev_E} {st : List Value} {v : Nat} {a0 a1 a3 a4 a5 a6 : Value} {h : ev_M} {n q : Nat} {P : ev_O → ev_M → Nat → Nat → Prop} : ev_ok (ev_TT X) 309 1631 [a0, a1, .ref v, a3, a4, a5, a6] st h n q P ↔ ev_ok (ev_TT X) 309 1632 [a0, a1, .ref v, a3, a4, a5, a6] ((.ref v) :: st) h n q P := ev_go (congrFun (e_L_law_1631 (X := X)) _)
set_option maxRecDepth 100000 in
theorem e_L_law_1632 {X : ev_E} : (ev_TT X).1 309 1632 = i_al 0 1633 := (congrFun tt_L_law 1632).trans rfl
theorem t_L_law_1632 {X : ev_E} {st : List Value} {v : Nat} {a1 a2 a3 a4 a5 a6 : Value} {h : ev_M} {n q : Nat} {P : ev_O → ev_M → Nat → Nat → Prop} : ev_ok (ev_TT X) 309 1632 [.ref v, a1, a2, a3, a4, a5, a6] st h n q P ↔ ev_ok (ev_TT X) 309 1633 [.ref v, a1, a2, a3, a4, a5, a6] ((.ref v) :: st) h n q P := ev_go (congrFun (e_L_law_1632 (X := X)) _)
set_option maxRecDepth 100000 in
theorem e_L_law_1633 {X : ev_E} : (ev_TT X).1 309 1633 = i_il 4 1635 := (congrFun tt_L_law 1633).trans rfl
theorem t_L_law_1633 {X : ev_E} {st : List Value} {v : Int32} {a0 a1 a2 a3 a5 a6 : Value} {h : ev_M} {n q : Nat} {P : ev_O → ev_M → Nat → Nat → Prop} : ev_ok (ev_TT X) 309 1633 [a0, a1, a2, a3, .int v, a5, a6] st h n q P ↔ ev_ok (ev_TT X) 309 1635 [a0, a1, a2, a3, .int v, a5, a6] ((.int v) :: st) h n q P := ev_go (congrFun (e_L_law_1633 (X := X)) _)
set_option maxRecDepth 100000 in
theorem e_L_law_1635 {X : ev_E} : (ev_TT X).1 309 1635 = i_psh (.int (1)) 1636 := (congrFun tt_L_law 1635).trans rfl
theorem t_L_law_1635 {X : ev_E} {st : List Value} {lo : List Value} {h : ev_M} {n q : Nat} {P : ev_O → ev_M → Nat → Nat → Prop} : ev_ok (ev_TT X) 309 1635 lo st h n q P ↔ ev_ok (ev_TT X) 309 1636 lo ((.int (1)) :: st) h n q P := ev_go (congrFun (e_L_law_1635 (X := X)) _)
set_option maxRecDepth 100000 in
theorem e_L_law_1636 {X : ev_E} : (ev_TT X).1 309 1636 = i_ii (fun a b => a + b) 1637 := (congrFun tt_L_law 1636).trans rfl
theorem t_L_law_1636 {X : ev_E} {x y : Int32} {st : List Value} {lo : List Value} {h : ev_M} {n q : Nat} {P : ev_O → ev_M → Nat → Nat → Prop} : ev_ok (ev_TT X) 309 1636 lo (.int y :: .int x :: st) h n q P ↔ ev_ok (ev_TT X) 309 1637 lo (.int (x + y) :: st) h n q P := ev_go (congrFun (e_L_law_1636 (X := X)) _)
set_option maxRecDepth 100000 in
theorem e_L_law_1637 {X : ev_E} : (ev_TT X).1 309 1637 = i_ald X ev_tI 1638 := (congrFun tt_L_law 1637).trans rfl
theorem t_L_law_1637 {X : ev_E} {i : Int32} {x : Nat} {st : List Value} {lo : List Value} {h : ev_M} {n q : Nat} {P : ev_O → ev_M → Nat → Nat → Prop} : ev_ok (ev_TT X) 309 1637 lo (.int i :: .ref x :: st) h n q P ↔ ev_inA (ev_lk X h x) i ev_tI ∧ ev_ok (ev_TT X) 309 1638 lo (ev_aG (ev_lk X h x) i :: st) h n q P := ev_goG (congrFun (e_L_law_1637 (X := X)) _)
set_option maxRecDepth 100000 in
theorem e_L_law_1638 {X : ev_E} : (ev_TT X).1 309 1638 = i_cV X 255 1 13 2 1641 := (congrFun tt_L_law 1638).trans rfl
theorem t_L_law_1638 {X : ev_E} {x : Nat} {y0 : Int32} {lo : List Value} {h : ev_M} {n q : Nat} {P : ev_O → ev_M → Nat → Nat → Prop} : ev_ok (ev_TT X) 309 1638 lo [.int y0, .ref x] h n q P ↔ ev_isK (ev_lk X h x) 13 ∧ ev_ok (ev_TT X) 255 0 [.ref x, .int y0] [] h n q (ev_kr (ev_TT X) 309 1638 1641 lo [] P) := (ev_caG (congrFun (e_L_law_1638 (X := X)) _)).trans (and_congr_left' ⟨fun k => k.1, fun k => ⟨k, rfl, Or.inl (Nat.le_of_ble_eq_true rfl), Nat.le_of_ble_eq_true rfl⟩⟩)
theorem x_L_law_1638 {X : ev_E} {lo st : List Value} {h : ev_M} {n q : Nat} {P : ev_O → ev_M → Nat → Nat → Prop} {E : Nat} : ev_kr (ev_TT X) 309 1638 1641 lo st P (.inr E) h n q ↔ P (.inr E) h n q := ev_kr_x rfl
set_option maxRecDepth 100000 in
theorem e_L_law_1641 {X : ev_E} : (ev_TT X).1 309 1641 = i_is 6 1643 := (congrFun tt_L_law 1641).trans rfl
theorem t_L_law_1641 {X : ev_E} {st : List Value} {v : Int32} {a0 a1 a2 a3 a4 a5 a6 : Value} {h : ev_M} {n q : Nat} {P : ev_O → ev_M → Nat → Nat → Prop} : ev_ok (ev_TT X) 309 1641 [a0, a1, a2, a3, a4, a5, a6] ((.int v) :: st) h n q P ↔ ev_ok (ev_TT X) 309 1643 [a0, a1, a2, a3, a4, ev_k a5, .int v] st h n q P := ev_go (congrFun (e_L_law_1641 (X := X)) _)
set_option maxRecDepth 100000 in
theorem e_L_law_1643 {X : ev_E} : (ev_TT X).1 309 1643 = i_goto 1713 := (congrFun tt_L_law 1643).trans rfl
theorem t_L_law_1643 {X : ev_E} {st : List Value} {lo : List Value} {h : ev_M} {n q : Nat} {P : ev_O → ev_M → Nat → Nat → Prop} : ev_ok (ev_TT X) 309 1643 lo st h n q P ↔ ev_ok (ev_TT X) 309 1713 lo st h n q P := ev_go (congrFun (e_L_law_1643 (X := X)) _)
set_option maxRecDepth 100000 in
theorem e_L_law_1646 {X : ev_E} : (ev_TT X).1 309 1646 = i_al 1 1647 := (congrFun tt_L_law 1646).trans rfl
theorem t_L_law_1646 {X : ev_E} {st : List Value} {v : Nat} {a0 a2 a3 a4 a5 a6 : Value} {h : ev_M} {n q : Nat} {P : ev_O → ev_M → Nat → Nat → Prop} : ev_ok (ev_TT X) 309 1646 [a0, .ref v, a2, a3, a4, a5, a6] st h n q P ↔ ev_ok (ev_TT X) 309 1647 [a0, .ref v, a2, a3, a4, a5, a6] ((.ref v) :: st) h n q P := ev_go (congrFun (e_L_law_1646 (X := X)) _)
set_option maxRecDepth 100000 in
theorem e_L_law_1647 {X : ev_E} : (ev_TT X).1 309 1647 = i_al 0 1648 := (congrFun tt_L_law 1647).trans rfl
theorem t_L_law_1647 {X : ev_E} {st : List Value} {v : Nat} {a1 a2 a3 a4 a5 a6 : Value} {h : ev_M} {n q : Nat} {P : ev_O → ev_M → Nat → Nat → Prop} : ev_ok (ev_TT X) 309 1647 [.ref v, a1, a2, a3, a4, a5, a6] st h n q P ↔ ev_ok (ev_TT X) 309 1648 [.ref v, a1, a2, a3, a4, a5, a6] ((.ref v) :: st) h n q P := ev_go (congrFun (e_L_law_1647 (X := X)) _)
set_option maxRecDepth 100000 in
theorem e_L_law_1648 {X : ev_E} : (ev_TT X).1 309 1648 = i_il 4 1650 := (congrFun tt_L_law 1648).trans rfl
theorem t_L_law_1648 {X : ev_E} {st : List Value} {v : Int32} {a0 a1 a2 a3 a5 a6 : Value} {h : ev_M} {n q : Nat} {P : ev_O → ev_M → Nat → Nat → Prop} : ev_ok (ev_TT X) 309 1648 [a0, a1, a2, a3, .int v, a5, a6] st h n q P ↔ ev_ok (ev_TT X) 309 1650 [a0, a1, a2, a3, .int v, a5, a6] ((.int v) :: st) h n q P := ev_go (congrFun (e_L_law_1648 (X := X)) _)
set_option maxRecDepth 100000 in
theorem e_L_law_1650 {X : ev_E} : (ev_TT X).1 309 1650 = i_psh (.int (1)) 1651 := (congrFun tt_L_law 1650).trans rfl
theorem t_L_law_1650 {X : ev_E} {st : List Value} {lo : List Value} {h : ev_M} {n q : Nat} {P : ev_O → ev_M → Nat → Nat → Prop} : ev_ok (ev_TT X) 309 1650 lo st h n q P ↔ ev_ok (ev_TT X) 309 1651 lo ((.int (1)) :: st) h n q P := ev_go (congrFun (e_L_law_1650 (X := X)) _)
set_option maxRecDepth 100000 in
theorem e_L_law_1651 {X : ev_E} : (ev_TT X).1 309 1651 = i_ii (fun a b => a + b) 1652 := (congrFun tt_L_law 1651).trans rfl
theorem t_L_law_1651 {X : ev_E} {x y : Int32} {st : List Value} {lo : List Value} {h : ev_M} {n q : Nat} {P : ev_O → ev_M → Nat → Nat → Prop} : ev_ok (ev_TT X) 309 1651 lo (.int y :: .int x :: st) h n q P ↔ ev_ok (ev_TT X) 309 1652 lo (.int (x + y) :: st) h n q P := ev_go (congrFun (e_L_law_1651 (X := X)) _)
set_option maxRecDepth 100000 in
theorem e_L_law_1652 {X : ev_E} : (ev_TT X).1 309 1652 = i_ald X ev_tI 1653 := (congrFun tt_L_law 1652).trans rfl
theorem t_L_law_1652 {X : ev_E} {i : Int32} {x : Nat} {st : List Value} {lo : List Value} {h : ev_M} {n q : Nat} {P : ev_O → ev_M → Nat → Nat → Prop} : ev_ok (ev_TT X) 309 1652 lo (.int i :: .ref x :: st) h n q P ↔ ev_inA (ev_lk X h x) i ev_tI ∧ ev_ok (ev_TT X) 309 1653 lo (ev_aG (ev_lk X h x) i :: st) h n q P := ev_goG (congrFun (e_L_law_1652 (X := X)) _)
set_option maxRecDepth 100000 in
theorem e_L_law_1653 {X : ev_E} : (ev_TT X).1 309 1653 = i_al 3 1654 := (congrFun tt_L_law 1653).trans rfl
theorem t_L_law_1653 {X : ev_E} {st : List Value} {v : Nat} {a0 a1 a2 a4 a5 a6 : Value} {h : ev_M} {n q : Nat} {P : ev_O → ev_M → Nat → Nat → Prop} : ev_ok (ev_TT X) 309 1653 [a0, a1, a2, .ref v, a4, a5, a6] st h n q P ↔ ev_ok (ev_TT X) 309 1654 [a0, a1, a2, .ref v, a4, a5, a6] ((.ref v) :: st) h n q P := ev_go (congrFun (e_L_law_1653 (X := X)) _)
set_option maxRecDepth 100000 in
theorem e_L_law_1654 {X : ev_E} : (ev_TT X).1 309 1654 = i_cS 133 3 4 1657 := (congrFun tt_L_law 1654).trans rfl
theorem t_L_law_1654 {X : ev_E} {y2 : Nat} {y1 : Int32} {y0 : Nat} {lo : List Value} {h : ev_M} {n q : Nat} {P : ev_O → ev_M → Nat → Nat → Prop} : ev_ok (ev_TT X) 309 1654 lo [.ref y2, .int y1, .ref y0] h n q P ↔ ev_ok (ev_TT X) 133 0 [.ref y0, .int y1, .ref y2, ev_J] [] h n q (ev_kr (ev_TT X) 309 1654 1657 lo [] P) := (ev_caG (congrFun (e_L_law_1654 (X := X)) _)).trans ⟨fun k => k.2, fun k => ⟨⟨rfl, Nat.le_of_ble_eq_true rfl, Nat.le_of_ble_eq_true rfl⟩, k⟩⟩
set_option maxRecDepth 100000 in
theorem e_L_law_1657 {X : ev_E} : (ev_TT X).1 309 1657 = i_is 5 1659 := (congrFun tt_L_law 1657).trans rfl
theorem t_L_law_1657 {X : ev_E} {st : List Value} {v : Int32} {a0 a1 a2 a3 a4 a5 a6 : Value} {h : ev_M} {n q : Nat} {P : ev_O → ev_M → Nat → Nat → Prop} : ev_ok (ev_TT X) 309 1657 [a0, a1, a2, a3, a4, a5, a6] ((.int v) :: st) h n q P ↔ ev_ok (ev_TT X) 309 1659 [a0, a1, a2, a3, ev_k a4, .int v, a6] st h n q P := ev_go (congrFun (e_L_law_1657 (X := X)) _)
set_option maxRecDepth 100000 in
theorem e_L_law_1659 {X : ev_E} : (ev_TT X).1 309 1659 = i_al 2 1660 := (congrFun tt_L_law 1659).trans rfl
theorem t_L_law_1659 {X : ev_E} {st : List Value} {v : Nat} {a0 a1 a3 a4 a5 a6 : Value} {h : ev_M} {n q : Nat} {P : ev_O → ev_M → Nat → Nat → Prop} : ev_ok (ev_TT X) 309 1659 [a0, a1, .ref v, a3, a4, a5, a6] st h n q P ↔ ev_ok (ev_TT X) 309 1660 [a0, a1, .ref v, a3, a4, a5, a6] ((.ref v) :: st) h n q P := ev_go (congrFun (e_L_law_1659 (X := X)) _)
set_option maxRecDepth 100000 in
theorem e_L_law_1660 {X : ev_E} : (ev_TT X).1 309 1660 = i_al 0 1661 := (congrFun tt_L_law 1660).trans rfl
theorem t_L_law_1660 {X : ev_E} {st : List Value} {v : Nat} {a1 a2 a3 a4 a5 a6 : Value} {h : ev_M} {n q : Nat} {P : ev_O → ev_M → Nat → Nat → Prop} : ev_ok (ev_TT X) 309 1660 [.ref v, a1, a2, a3, a4, a5, a6] st h n q P ↔ ev_ok (ev_TT X) 309 1661 [.ref v, a1, a2, a3, a4, a5, a6] ((.ref v) :: st) h n q P := ev_go (congrFun (e_L_law_1660 (X := X)) _)
set_option maxRecDepth 100000 in
theorem e_L_law_1661 {X : ev_E} : (ev_TT X).1 309 1661 = i_il 4 1663 := (congrFun tt_L_law 1661).trans rfl
theorem t_L_law_1661 {X : ev_E} {st : List Value} {v : Int32} {a0 a1 a2 a3 a5 a6 : Value} {h : ev_M} {n q : Nat} {P : ev_O → ev_M → Nat → Nat → Prop} : ev_ok (ev_TT X) 309 1661 [a0, a1, a2, a3, .int v, a5, a6] st h n q P ↔ ev_ok (ev_TT X) 309 1663 [a0, a1, a2, a3, .int v, a5, a6] ((.int v) :: st) h n q P := ev_go (congrFun (e_L_law_1661 (X := X)) _)
set_option maxRecDepth 100000 in
theorem e_L_law_1663 {X : ev_E} : (ev_TT X).1 309 1663 = i_psh (.int (1)) 1664 := (congrFun tt_L_law 1663).trans rfl
theorem t_L_law_1663 {X : ev_E} {st : List Value} {lo : List Value} {h : ev_M} {n q : Nat} {P : ev_O → ev_M → Nat → Nat → Prop} : ev_ok (ev_TT X) 309 1663 lo st h n q P ↔ ev_ok (ev_TT X) 309 1664 lo ((.int (1)) :: st) h n q P := ev_go (congrFun (e_L_law_1663 (X := X)) _)
set_option maxRecDepth 100000 in
theorem e_L_law_1664 {X : ev_E} : (ev_TT X).1 309 1664 = i_ii (fun a b => a + b) 1665 := (congrFun tt_L_law 1664).trans rfl
theorem t_L_law_1664 {X : ev_E} {x y : Int32} {st : List Value} {lo : List Value} {h : ev_M} {n q : Nat} {P : ev_O → ev_M → Nat → Nat → Prop} : ev_ok (ev_TT X) 309 1664 lo (.int y :: .int x :: st) h n q P ↔ ev_ok (ev_TT X) 309 1665 lo (.int (x + y) :: st) h n q P := ev_go (congrFun (e_L_law_1664 (X := X)) _)
set_option maxRecDepth 100000 in
theorem e_L_law_1665 {X : ev_E} : (ev_TT X).1 309 1665 = i_ald X ev_tI 1666 := (congrFun tt_L_law 1665).trans rfl
theorem t_L_law_1665 {X : ev_E} {i : Int32} {x : Nat} {st : List Value} {lo : List Value} {h : ev_M} {n q : Nat} {P : ev_O → ev_M → Nat → Nat → Prop} : ev_ok (ev_TT X) 309 1665 lo (.int i :: .ref x :: st) h n q P ↔ ev_inA (ev_lk X h x) i ev_tI ∧ ev_ok (ev_TT X) 309 1666 lo (ev_aG (ev_lk X h x) i :: st) h n q P := ev_goG (congrFun (e_L_law_1665 (X := X)) _)
set_option maxRecDepth 100000 in
theorem e_L_law_1666 {X : ev_E} : (ev_TT X).1 309 1666 = i_cV X 267 1 13 2 1669 := (congrFun tt_L_law 1666).trans rfl
theorem t_L_law_1666 {X : ev_E} {x : Nat} {y0 : Int32} {lo : List Value} {h : ev_M} {n q : Nat} {P : ev_O → ev_M → Nat → Nat → Prop} : ev_ok (ev_TT X) 309 1666 lo [.int y0, .ref x] h n q P ↔ ev_isK (ev_lk X h x) 13 ∧ ev_ok (ev_TT X) 267 0 [.ref x, .int y0] [] h n q (ev_kr (ev_TT X) 309 1666 1669 lo [] P) := (ev_caG (congrFun (e_L_law_1666 (X := X)) _)).trans (and_congr_left' ⟨fun k => k.1, fun k => ⟨k, rfl, Or.inl (Nat.le_of_ble_eq_true rfl), Nat.le_of_ble_eq_true rfl⟩⟩)
theorem x_L_law_1666 {X : ev_E} {lo st : List Value} {h : ev_M} {n q : Nat} {P : ev_O → ev_M → Nat → Nat → Prop} {E : Nat} : ev_kr (ev_TT X) 309 1666 1669 lo st P (.inr E) h n q ↔ P (.inr E) h n q := ev_kr_x rfl
set_option maxRecDepth 100000 in
theorem e_L_law_1669 {X : ev_E} : (ev_TT X).1 309 1669 = i_is 6 1671 := (congrFun tt_L_law 1669).trans rfl
theorem t_L_law_1669 {X : ev_E} {st : List Value} {v : Int32} {a0 a1 a2 a3 a4 a5 a6 : Value} {h : ev_M} {n q : Nat} {P : ev_O → ev_M → Nat → Nat → Prop} : ev_ok (ev_TT X) 309 1669 [a0, a1, a2, a3, a4, a5, a6] ((.int v) :: st) h n q P ↔ ev_ok (ev_TT X) 309 1671 [a0, a1, a2, a3, a4, ev_k a5, .int v] st h n q P := ev_go (congrFun (e_L_law_1669 (X := X)) _)
set_option maxRecDepth 100000 in
theorem e_L_law_1671 {X : ev_E} : (ev_TT X).1 309 1671 = i_goto 1713 := (congrFun tt_L_law 1671).trans rfl
theorem t_L_law_1671 {X : ev_E} {st : List Value} {lo : List Value} {h : ev_M} {n q : Nat} {P : ev_O → ev_M → Nat → Nat → Prop} : ev_ok (ev_TT X) 309 1671 lo st h n q P ↔ ev_ok (ev_TT X) 309 1713 lo st h n q P := ev_go (congrFun (e_L_law_1671 (X := X)) _)
set_option maxRecDepth 100000 in
theorem e_L_law_1674 {X : ev_E} : (ev_TT X).1 309 1674 = i_al 1 1675 := (congrFun tt_L_law 1674).trans rfl
theorem t_L_law_1674 {X : ev_E} {st : List Value} {v : Nat} {a0 a2 a3 a4 a5 a6 : Value} {h : ev_M} {n q : Nat} {P : ev_O → ev_M → Nat → Nat → Prop} : ev_ok (ev_TT X) 309 1674 [a0, .ref v, a2, a3, a4, a5, a6] st h n q P ↔ ev_ok (ev_TT X) 309 1675 [a0, .ref v, a2, a3, a4, a5, a6] ((.ref v) :: st) h n q P := ev_go (congrFun (e_L_law_1674 (X := X)) _)
set_option maxRecDepth 100000 in
theorem e_L_law_1675 {X : ev_E} : (ev_TT X).1 309 1675 = i_cV X 55 0 10 1 1678 := (congrFun tt_L_law 1675).trans rfl
theorem t_L_law_1675 {X : ev_E} {x : Nat} {lo : List Value} {h : ev_M} {n q : Nat} {P : ev_O → ev_M → Nat → Nat → Prop} : ev_ok (ev_TT X) 309 1675 lo [.ref x] h n q P ↔ ev_isK (ev_lk X h x) 10 ∧ ev_ok (ev_TT X) 55 0 [.ref x] [] h n q (ev_kr (ev_TT X) 309 1675 1678 lo [] P) := (ev_caG (congrFun (e_L_law_1675 (X := X)) _)).trans (and_congr_left' ⟨fun k => k.1, fun k => ⟨k, rfl, Or.inl (Nat.le_of_ble_eq_true rfl), Nat.le_of_ble_eq_true rfl⟩⟩)
theorem x_L_law_1675 {X : ev_E} {lo st : List Value} {h : ev_M} {n q : Nat} {P : ev_O → ev_M → Nat → Nat → Prop} {E : Nat} : ev_kr (ev_TT X) 309 1675 1678 lo st P (.inr E) h n q ↔ P (.inr E) h n q := ev_kr_x rfl
set_option maxRecDepth 100000 in
theorem e_L_law_1678 {X : ev_E} : (ev_TT X).1 309 1678 = i_al 2 1679 := (congrFun tt_L_law 1678).trans rfl
theorem t_L_law_1678 {X : ev_E} {st : List Value} {v : Nat} {a0 a1 a3 a4 a5 a6 : Value} {h : ev_M} {n q : Nat} {P : ev_O → ev_M → Nat → Nat → Prop} : ev_ok (ev_TT X) 309 1678 [a0, a1, .ref v, a3, a4, a5, a6] st h n q P ↔ ev_ok (ev_TT X) 309 1679 [a0, a1, .ref v, a3, a4, a5, a6] ((.ref v) :: st) h n q P := ev_go (congrFun (e_L_law_1678 (X := X)) _)
set_option maxRecDepth 100000 in
theorem e_L_law_1679 {X : ev_E} : (ev_TT X).1 309 1679 = i_cV X 68 0 13 1 1682 := (congrFun tt_L_law 1679).trans rfl
theorem t_L_law_1679 {X : ev_E} {x : Nat} {c0 : Value} {lo : List Value} {h : ev_M} {n q : Nat} {P : ev_O → ev_M → Nat → Nat → Prop} : ev_ok (ev_TT X) 309 1679 lo [.ref x, c0] h n q P ↔ ev_isK (ev_lk X h x) 13 ∧ ev_ok (ev_TT X) 68 0 [.ref x] [] h n q (ev_kr (ev_TT X) 309 1679 1682 lo [c0] P) := (ev_caG (congrFun (e_L_law_1679 (X := X)) _)).trans (and_congr_left' ⟨fun k => k.1, fun k => ⟨k, rfl, Or.inl (Nat.le_of_ble_eq_true rfl), Nat.le_of_ble_eq_true rfl⟩⟩)
theorem x_L_law_1679 {X : ev_E} {lo st : List Value} {h : ev_M} {n q : Nat} {P : ev_O → ev_M → Nat → Nat → Prop} {E : Nat} : ev_kr (ev_TT X) 309 1679 1682 lo st P (.inr E) h n q ↔ P (.inr E) h n q := ev_kr_x rfl
set_option maxRecDepth 100000 in
theorem e_L_law_1682 {X : ev_E} : (ev_TT X).1 309 1682 = i_iceq 1713 1685 := (congrFun tt_L_law 1682).trans rfl
theorem t_L_law_1682 {X : ev_E} {x y : Int32} {st : List Value} {lo : List Value} {h : ev_M} {n q : Nat} {P : ev_O → ev_M → Nat → Nat → Prop} : ev_ok (ev_TT X) 309 1682 lo (.int y :: .int x :: st) h n q P ↔ (if x = y then ev_ok (ev_TT X) 309 1713 lo st h n q P else ev_ok (ev_TT X) 309 1685 lo st h n q P) := ev_goI (congrFun (e_L_law_1682 (X := X)) _)
set_option maxRecDepth 100000 in
theorem e_L_law_1685 {X : ev_E} : (ev_TT X).1 309 1685 = i_psh (.int (0)) 1686 := (congrFun tt_L_law 1685).trans rfl
theorem t_L_law_1685 {X : ev_E} {st : List Value} {lo : List Value} {h : ev_M} {n q : Nat} {P : ev_O → ev_M → Nat → Nat → Prop} : ev_ok (ev_TT X) 309 1685 lo st h n q P ↔ ev_ok (ev_TT X) 309 1686 lo ((.int (0)) :: st) h n q P := ev_go (congrFun (e_L_law_1685 (X := X)) _)
set_option maxRecDepth 100000 in
theorem e_L_law_1686 {X : ev_E} : (ev_TT X).1 309 1686 = i_ir (.boolean) := (congrFun tt_L_law 1686).trans rfl
theorem t_L_law_1686 {X : ev_E} {x : Int32} {lo : List Value} {h : ev_M} {n q : Nat} {P : ev_O → ev_M → Nat → Nat → Prop} : ev_ok (ev_TT X) 309 1686 lo [.int x] h n q P ↔ narrow (.boolean) (.int x) = .int x ∧ P (.inl (some (.int x))) h n q := ev_reG (congrFun (e_L_law_1686 (X := X)) _)
set_option maxRecDepth 100000 in
theorem e_L_law_1687 {X : ev_E} : (ev_TT X).1 309 1687 = i_al 1 1688 := (congrFun tt_L_law 1687).trans rfl
theorem t_L_law_1687 {X : ev_E} {st : List Value} {v : Nat} {a0 a2 a3 a4 a5 a6 : Value} {h : ev_M} {n q : Nat} {P : ev_O → ev_M → Nat → Nat → Prop} : ev_ok (ev_TT X) 309 1687 [a0, .ref v, a2, a3, a4, a5, a6] st h n q P ↔ ev_ok (ev_TT X) 309 1688 [a0, .ref v, a2, a3, a4, a5, a6] ((.ref v) :: st) h n q P := ev_go (congrFun (e_L_law_1687 (X := X)) _)
set_option maxRecDepth 100000 in
theorem e_L_law_1688 {X : ev_E} : (ev_TT X).1 309 1688 = i_cV X 201 0 10 2 1691 := (congrFun tt_L_law 1688).trans rfl
theorem t_L_law_1688 {X : ev_E} {x : Nat} {lo : List Value} {h : ev_M} {n q : Nat} {P : ev_O → ev_M → Nat → Nat → Prop} : ev_ok (ev_TT X) 309 1688 lo [.ref x] h n q P ↔ ev_isK (ev_lk X h x) 10 ∧ ev_ok (ev_TT X) 201 0 [.ref x, ev_J] [] h n q (ev_kr (ev_TT X) 309 1688 1691 lo [] P) := (ev_caG (congrFun (e_L_law_1688 (X := X)) _)).trans (and_congr_left' ⟨fun k => k.1, fun k => ⟨k, rfl, Or.inl (Nat.le_of_ble_eq_true rfl), Nat.le_of_ble_eq_true rfl⟩⟩)
theorem x_L_law_1688 {X : ev_E} {lo st : List Value} {h : ev_M} {n q : Nat} {P : ev_O → ev_M → Nat → Nat → Prop} {E : Nat} : ev_kr (ev_TT X) 309 1688 1691 lo st P (.inr E) h n q ↔ P (.inr E) h n q := ev_kr_x rfl
set_option maxRecDepth 100000 in
theorem e_L_law_1691 {X : ev_E} : (ev_TT X).1 309 1691 = i_pop 1692 := (congrFun tt_L_law 1691).trans rfl
theorem t_L_law_1691 {X : ev_E} {x : Nat} {st : List Value} {lo : List Value} {h : ev_M} {n q : Nat} {P : ev_O → ev_M → Nat → Nat → Prop} : ev_ok (ev_TT X) 309 1691 lo (.ref x :: st) h n q P ↔ ev_ok (ev_TT X) 309 1692 lo st h n q P := ev_go (congrFun (e_L_law_1691 (X := X)) _)
theorem t_L_law_1691_i {X : ev_E} {x : Int32} {st : List Value} {lo : List Value} {h : ev_M} {n q : Nat} {P : ev_O → ev_M → Nat → Nat → Prop} : ev_ok (ev_TT X) 309 1691 lo (.int x :: st) h n q P ↔ ev_ok (ev_TT X) 309 1692 lo st h n q P := ev_go (congrFun (e_L_law_1691 (X := X)) _)
set_option maxRecDepth 100000 in
theorem e_L_law_1692 {X : ev_E} : (ev_TT X).1 309 1692 = i_al 2 1693 := (congrFun tt_L_law 1692).trans rfl
theorem t_L_law_1692 {X : ev_E} {st : List Value} {v : Nat} {a0 a1 a3 a4 a5 a6 : Value} {h : ev_M} {n q : Nat} {P : ev_O → ev_M → Nat → Nat → Prop} : ev_ok (ev_TT X) 309 1692 [a0, a1, .ref v, a3, a4, a5, a6] st h n q P ↔ ev_ok (ev_TT X) 309 1693 [a0, a1, .ref v, a3, a4, a5, a6] ((.ref v) :: st) h n q P := ev_go (congrFun (e_L_law_1692 (X := X)) _)
set_option maxRecDepth 100000 in
theorem e_L_law_1693 {X : ev_E} : (ev_TT X).1 309 1693 = i_cV X 66 0 13 1 1696 := (congrFun tt_L_law 1693).trans rfl
theorem t_L_law_1693 {X : ev_E} {x : Nat} {lo : List Value} {h : ev_M} {n q : Nat} {P : ev_O → ev_M → Nat → Nat → Prop} : ev_ok (ev_TT X) 309 1693 lo [.ref x] h n q P ↔ ev_isK (ev_lk X h x) 13 ∧ ev_ok (ev_TT X) 66 0 [.ref x] [] h n q (ev_kr (ev_TT X) 309 1693 1696 lo [] P) := (ev_caG (congrFun (e_L_law_1693 (X := X)) _)).trans (and_congr_left' ⟨fun k => k.1, fun k => ⟨k, rfl, Or.inl (Nat.le_of_ble_eq_true rfl), Nat.le_of_ble_eq_true rfl⟩⟩)
theorem x_L_law_1693 {X : ev_E} {lo st : List Value} {h : ev_M} {n q : Nat} {P : ev_O → ev_M → Nat → Nat → Prop} {E : Nat} : ev_kr (ev_TT X) 309 1693 1696 lo st P (.inr E) h n q ↔ P (.inr E) h n q := ev_kr_x rfl
set_option maxRecDepth 100000 in
theorem e_L_law_1696 {X : ev_E} : (ev_TT X).1 309 1696 = i_pop 1697 := (congrFun tt_L_law 1696).trans rfl
theorem t_L_law_1696 {X : ev_E} {x : Nat} {st : List Value} {lo : List Value} {h : ev_M} {n q : Nat} {P : ev_O → ev_M → Nat → Nat → Prop} : ev_ok (ev_TT X) 309 1696 lo (.ref x :: st) h n q P ↔ ev_ok (ev_TT X) 309 1697 lo st h n q P := ev_go (congrFun (e_L_law_1696 (X := X)) _)
theorem t_L_law_1696_i {X : ev_E} {x : Int32} {st : List Value} {lo : List Value} {h : ev_M} {n q : Nat} {P : ev_O → ev_M → Nat → Nat → Prop} : ev_ok (ev_TT X) 309 1696 lo (.int x :: st) h n q P ↔ ev_ok (ev_TT X) 309 1697 lo st h n q P := ev_go (congrFun (e_L_law_1696 (X := X)) _)
set_option maxRecDepth 100000 in
theorem e_L_law_1697 {X : ev_E} : (ev_TT X).1 309 1697 = i_goto 1713 := (congrFun tt_L_law 1697).trans rfl
theorem t_L_law_1697 {X : ev_E} {st : List Value} {lo : List Value} {h : ev_M} {n q : Nat} {P : ev_O → ev_M → Nat → Nat → Prop} : ev_ok (ev_TT X) 309 1697 lo st h n q P ↔ ev_ok (ev_TT X) 309 1713 lo st h n q P := ev_go (congrFun (e_L_law_1697 (X := X)) _)
set_option maxRecDepth 100000 in
theorem e_L_law_1700 {X : ev_E} : (ev_TT X).1 309 1700 = i_al 1 1701 := (congrFun tt_L_law 1700).trans rfl
theorem t_L_law_1700 {X : ev_E} {st : List Value} {v : Nat} {a0 a2 a3 a4 a5 a6 : Value} {h : ev_M} {n q : Nat} {P : ev_O → ev_M → Nat → Nat → Prop} : ev_ok (ev_TT X) 309 1700 [a0, .ref v, a2, a3, a4, a5, a6] st h n q P ↔ ev_ok (ev_TT X) 309 1701 [a0, .ref v, a2, a3, a4, a5, a6] ((.ref v) :: st) h n q P := ev_go (congrFun (e_L_law_1700 (X := X)) _)
set_option maxRecDepth 100000 in
theorem e_L_law_1701 {X : ev_E} : (ev_TT X).1 309 1701 = i_cV X 226 0 10 4 1704 := (congrFun tt_L_law 1701).trans rfl
theorem t_L_law_1701 {X : ev_E} {x : Nat} {lo : List Value} {h : ev_M} {n q : Nat} {P : ev_O → ev_M → Nat → Nat → Prop} : ev_ok (ev_TT X) 309 1701 lo [.ref x] h n q P ↔ ev_isK (ev_lk X h x) 10 ∧ ev_ok (ev_TT X) 226 0 [.ref x, ev_J, ev_J, ev_J] [] h n q (ev_kr (ev_TT X) 309 1701 1704 lo [] P) := (ev_caG (congrFun (e_L_law_1701 (X := X)) _)).trans (and_congr_left' ⟨fun k => k.1, fun k => ⟨k, rfl, Or.inl (Nat.le_of_ble_eq_true rfl), Nat.le_of_ble_eq_true rfl⟩⟩)
theorem x_L_law_1701 {X : ev_E} {lo st : List Value} {h : ev_M} {n q : Nat} {P : ev_O → ev_M → Nat → Nat → Prop} {E : Nat} : ev_kr (ev_TT X) 309 1701 1704 lo st P (.inr E) h n q ↔ P (.inr E) h n q := ev_kr_x rfl
set_option maxRecDepth 100000 in
theorem e_L_law_1704 {X : ev_E} : (ev_TT X).1 309 1704 = i_pop2l 1705 := (congrFun tt_L_law 1704).trans rfl
theorem t_L_law_1704 {X : ev_E} {x : Int64} {st : List Value} {lo : List Value} {h : ev_M} {n q : Nat} {P : ev_O → ev_M → Nat → Nat → Prop} : ev_ok (ev_TT X) 309 1704 lo (.long x :: st) h n q P ↔ ev_ok (ev_TT X) 309 1705 lo st h n q P := ev_go (congrFun (e_L_law_1704 (X := X)) _)
set_option maxRecDepth 100000 in
theorem e_L_law_1705 {X : ev_E} : (ev_TT X).1 309 1705 = i_al 2 1706 := (congrFun tt_L_law 1705).trans rfl
theorem t_L_law_1705 {X : ev_E} {st : List Value} {v : Nat} {a0 a1 a3 a4 a5 a6 : Value} {h : ev_M} {n q : Nat} {P : ev_O → ev_M → Nat → Nat → Prop} : ev_ok (ev_TT X) 309 1705 [a0, a1, .ref v, a3, a4, a5, a6] st h n q P ↔ ev_ok (ev_TT X) 309 1706 [a0, a1, .ref v, a3, a4, a5, a6] ((.ref v) :: st) h n q P := ev_go (congrFun (e_L_law_1705 (X := X)) _)
set_option maxRecDepth 100000 in
theorem e_L_law_1706 {X : ev_E} : (ev_TT X).1 309 1706 = i_cV X 301 0 13 5 1709 := (congrFun tt_L_law 1706).trans rfl
theorem t_L_law_1706 {X : ev_E} {x : Nat} {lo : List Value} {h : ev_M} {n q : Nat} {P : ev_O → ev_M → Nat → Nat → Prop} : ev_ok (ev_TT X) 309 1706 lo [.ref x] h n q P ↔ ev_isK (ev_lk X h x) 13 ∧ ev_ok (ev_TT X) 301 0 [.ref x, ev_J, ev_J, ev_J, ev_J] [] h n q (ev_kr (ev_TT X) 309 1706 1709 lo [] P) := (ev_caG (congrFun (e_L_law_1706 (X := X)) _)).trans (and_congr_left' ⟨fun k => k.1, fun k => ⟨k, rfl, Or.inl (Nat.le_of_ble_eq_true rfl), Nat.le_of_ble_eq_true rfl⟩⟩)
theorem x_L_law_1706 {X : ev_E} {lo st : List Value} {h : ev_M} {n q : Nat} {P : ev_O → ev_M → Nat → Nat → Prop} {E : Nat} : ev_kr (ev_TT X) 309 1706 1709 lo st P (.inr E) h n q ↔ P (.inr E) h n q := ev_kr_x rfl
set_option maxRecDepth 100000 in
theorem e_L_law_1709 {X : ev_E} : (ev_TT X).1 309 1709 = i_pop2l 1710 := (congrFun tt_L_law 1709).trans rfl
theorem t_L_law_1709 {X : ev_E} {x : Int64} {st : List Value} {lo : List Value} {h : ev_M} {n q : Nat} {P : ev_O → ev_M → Nat → Nat → Prop} : ev_ok (ev_TT X) 309 1709 lo (.long x :: st) h n q P ↔ ev_ok (ev_TT X) 309 1710 lo st h n q P := ev_go (congrFun (e_L_law_1709 (X := X)) _)
set_option maxRecDepth 100000 in
theorem e_L_law_1710 {X : ev_E} : (ev_TT X).1 309 1710 = i_goto 1713 := (congrFun tt_L_law 1710).trans rfl
theorem t_L_law_1710 {X : ev_E} {st : List Value} {lo : List Value} {h : ev_M} {n q : Nat} {P : ev_O → ev_M → Nat → Nat → Prop} : ev_ok (ev_TT X) 309 1710 lo st h n q P ↔ ev_ok (ev_TT X) 309 1713 lo st h n q P := ev_go (congrFun (e_L_law_1710 (X := X)) _)
set_option maxRecDepth 100000 in
theorem e_L_law_1713 {X : ev_E} : (ev_TT X).1 309 1713 = i_inc 4 (4) 1716 := (congrFun tt_L_law 1713).trans rfl
theorem t_L_law_1713 {X : ev_E} {st : List Value} {v : Int32} {a0 a1 a2 a3 a5 a6 : Value} {h : ev_M} {n q : Nat} {P : ev_O → ev_M → Nat → Nat → Prop} : ev_ok (ev_TT X) 309 1713 [a0, a1, a2, a3, .int v, a5, a6] st h n q P ↔ ev_ok (ev_TT X) 309 1716 [a0, a1, a2, ev_k a3, .int (v + (4)), a5, a6] st h n q P := ev_go (congrFun (e_L_law_1713 (X := X)) _)
set_option maxRecDepth 100000 in
theorem e_L_law_1716 {X : ev_E} : (ev_TT X).1 309 1716 = i_goto 27 := (congrFun tt_L_law 1716).trans rfl
theorem t_L_law_1716 {X : ev_E} {st : List Value} {lo : List Value} {h : ev_M} {n q : Nat} {P : ev_O → ev_M → Nat → Nat → Prop} : ev_ok (ev_TT X) 309 1716 lo st h n q P ↔ ev_ok (ev_TT X) 309 27 lo st h n q P := ev_go (congrFun (e_L_law_1716 (X := X)) _)
set_option maxRecDepth 100000 in
theorem e_L_law_1719 {X : ev_E} : (ev_TT X).1 309 1719 = i_psh (.int (1)) 1720 := (congrFun tt_L_law 1719).trans rfl
theorem t_L_law_1719 {X : ev_E} {st : List Value} {lo : List Value} {h : ev_M} {n q : Nat} {P : ev_O → ev_M → Nat → Nat → Prop} : ev_ok (ev_TT X) 309 1719 lo st h n q P ↔ ev_ok (ev_TT X) 309 1720 lo ((.int (1)) :: st) h n q P := ev_go (congrFun (e_L_law_1719 (X := X)) _)
set_option maxRecDepth 100000 in
theorem e_L_law_1720 {X : ev_E} : (ev_TT X).1 309 1720 = i_ir (.boolean) := (congrFun tt_L_law 1720).trans rfl
theorem t_L_law_1720 {X : ev_E} {x : Int32} {lo : List Value} {h : ev_M} {n q : Nat} {P : ev_O → ev_M → Nat → Nat → Prop} : ev_ok (ev_TT X) 309 1720 lo [.int x] h n q P ↔ narrow (.boolean) (.int x) = .int x ∧ P (.inl (some (.int x))) h n q := ev_reG (congrFun (e_L_law_1720 (X := X)) _)
