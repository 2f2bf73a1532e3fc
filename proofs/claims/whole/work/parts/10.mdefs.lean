/-! the reference, as pure programs -/
def f_M_thrown  (μ : St) : Option Int32 :=
some (μ 100 0)
def f_M_token  (μ : St) : Option Int32 :=
if (μ 101 0) ≤ (μ 105 0) then (
some (-1 : Int32))
else (
gd (inb (μ 105 0) 161) <| nm (μ 1 (μ 105 0).toNatClampNeg) fun x3 =>
some x3)
def f_M_wrong (a1 : Int32) (a2 : Int32) (μ : St) : Option St :=
if (μ 103 0) = 0 then (
nm (st μ 103 0 a1) fun μ2 =>
nm (st μ2 104 0 a2) fun μ3 =>
some μ3)
else (
some μ)
def f_M_must (a1 : Int32) (μ : St) : Option (Int32 × St) :=
ca (f_M_token μ) fun x2 =>
if x2 = a1 then (
nm (st μ 105 0 ((μ 105 0) + (1 : Int32))) fun μ4 =>
some ((1 : Int32), μ4))
else (
ca (f_M_wrong (1 : Int32) (μ 105 0) μ) fun μ6 =>
some ((0 : Int32), μ6))
def f_M_in (a0 : Int32) (a1 : Int32) (a2 : Int32) : Option Int32 :=
jn (some (0 : Int32)) fun k2 =>
if a0 < a1 then (
k2)
else (
if a2 < a0 then (
k2)
else (
some (1 : Int32)))
def f_M_emit (a1 : Int32) (a2 : Int32) (μ : St) : Option (Int32 × St) :=
gd (inb (μ 108 0) 600) <| nm (st μ 2 (μ 108 0).toNatClampNeg a1) fun μ2 =>
gd (inb (μ2 108 0) 600) <| nm (st μ2 3 (μ2 108 0).toNatClampNeg a2) fun μ4 =>
nm (st μ4 108 0 ((μ4 108 0) + (1 : Int32))) fun μ5 =>
some ((μ5 108 0) - (1 : Int32), μ5)
def f_M_wrap (a0 : Int32) : Option Int32 :=
some ((a0 <<< ((16 : Int32) &&& 31)) >>> ((16 : Int32) &&& 31))
def f_M_levelOf (a0 : Int32) : Option Int32 :=
jn (some (1 : Int32)) fun k2 =>
if a0 = (18 : Int32) then (
k2)
else (
if a0 = (19 : Int32) then (
k2)
else (
jn (some (2 : Int32)) fun k7 =>
if a0 = (13 : Int32) then (
k7)
else (
if a0 = (14 : Int32) then (
k7)
else (
jn (some (0 : Int32)) fun k12 =>
if a0 < (15 : Int32) then (
k12)
else (
if (17 : Int32) < a0 then (
k12)
else (
some (3 : Int32)))))))
def f_M_push (a1 : Int32) (μ : St) : Option St :=
ca (f_M_wrap a1) fun x2 =>
gd (inb (μ 147 0) 1000) <| nm (st μ 29 (μ 147 0).toNatClampNeg x2) fun μ4 =>
nm (st μ4 147 0 ((μ4 147 0) + (1 : Int32))) fun μ5 =>
some μ5
def f_M_pop  (μ : St) : Option (Int32 × St) :=
nm (st μ 147 0 ((μ 147 0) - (1 : Int32))) fun μ1 =>
gd (inb (μ1 147 0) 1000) <| nm (μ1 29 (μ1 147 0).toNatClampNeg) fun x3 =>
some (x3, μ1)
def f_M_begins (a1 : Int32) (a2 : Int32) (a3 : Int32) (μ : St) : Option St :=
if (μ 122 0) = (4 : Int32) then (
ca (f_M_wrong (3 : Int32) (μ 105 0) μ) fun μ11 =>
some μ11)
else (
gd (inb (μ 122 0) 5) <| nm (st μ 13 (μ 122 0).toNatClampNeg a1) fun μ3 =>
gd (inb (μ3 122 0) 5) <| nm (st μ3 14 (μ3 122 0).toNatClampNeg a2) fun μ5 =>
gd (inb (μ5 122 0) 5) <| nm (st μ5 15 (μ5 122 0).toNatClampNeg a3) fun μ7 =>
nm (st μ7 122 0 ((μ7 122 0) + (1 : Int32))) fun μ8 =>
nm (st μ8 106 0 (1 : Int32)) fun μ9 =>
some μ9)
def f_M_fresh  (μ : St) : Option St :=
gd (inb ((μ 126 0) - (1 : Int32)) 5) <| nm (st μ 18 ((μ 126 0) - (1 : Int32)).toNatClampNeg (μ 131 0)) fun μ2 =>
gd (inb ((μ2 126 0) - (1 : Int32)) 5) <| nm (st μ2 17 ((μ2 126 0) - (1 : Int32)).toNatClampNeg (-1 : Int32)) fun μ4 =>
nm (st μ4 106 0 (3 : Int32)) fun μ5 =>
some μ5
def f_M_enters (a1 : Int32) (a2 : Int32) (μ : St) : Option St :=
if (μ 126 0) = (4 : Int32) then (
ca (f_M_wrong (3 : Int32) (μ 105 0) μ) fun μ10 =>
some μ10)
else (
gd (inb (μ 126 0) 5) <| nm (st μ 16 (μ 126 0).toNatClampNeg a1) fun μ3 =>
gd (inb (μ3 126 0) 5) <| nm (st μ3 19 (μ3 126 0).toNatClampNeg a2) fun μ5 =>
nm (st μ5 126 0 ((μ5 126 0) + (1 : Int32))) fun μ6 =>
ca (f_M_fresh μ6) fun μ8 =>
some μ8)
def f_M_worth (a1 : Int32) (μ : St) : Option St :=
nm (st μ 126 0 (0 : Int32)) fun μ1 =>
nm (st μ1 131 0 (0 : Int32)) fun μ2 =>
ca (f_M_enters a1 (0 : Int32) μ2) fun μ4 =>
some μ4
def f_M_call  (μ : St) : Option (Int32 × St) :=
gd (inb (μ 118 0) 160) <| nm (st μ 10 (μ 118 0).toNatClampNeg (μ 105 0)) fun μ2 =>
ca (f_M_token μ2) fun x4 =>
gd (inb (μ2 118 0) 160) <| nm (st μ2 11 (μ2 118 0).toNatClampNeg (x4 - (52 : Int32))) fun μ6 =>
gd (inb (μ6 118 0) 160) <| nm (st μ6 12 (μ6 118 0).toNatClampNeg (0 : Int32)) fun μ8 =>
nm (st μ8 118 0 ((μ8 118 0) + (1 : Int32))) fun μ9 =>
nm (st μ9 105 0 ((μ9 105 0) + (1 : Int32))) fun μ10 =>
some ((μ10 118 0) - (1 : Int32), μ10)
def f_M_callEnds (a1 : Int32) (μ : St) : Option St :=
ca2 (f_M_emit (7 : Int32) a1 μ) fun x2 μ3 =>
some μ3
def f_M_arguments (a1 : Int32) (μ : St) : Option St :=
ca (f_M_token μ) fun x2 =>
if x2 = (7 : Int32) then (
nm (st μ 105 0 ((μ 105 0) + (1 : Int32))) fun μ8 =>
ca (f_M_callEnds a1 μ8) fun μ10 =>
some μ10)
else (
gd (inb a1 160) <| nm (st μ 12 a1.toNatClampNeg (1 : Int32)) fun μ5 =>
ca (f_M_enters (2 : Int32) a1 μ5) fun μ7 =>
some μ7)
def f_M_reduce (N : Nat) (a1 : Int32) (μ : St) : Option St :=
lpk (fun (k2 : St → Option St) (μ1 : St) =>
gd (inb ((μ1 126 0) - (1 : Int32)) 5) <| nm (μ1 18 ((μ1 126 0) - (1 : Int32)).toNatClampNeg) fun x5 =>
if (μ1 131 0) ≤ x5 then (
some μ1)
else (
gd (inb ((μ1 131 0) - (1 : Int32)) 64) <| nm (μ1 21 ((μ1 131 0) - (1 : Int32)).toNatClampNeg) fun x8 =>
if x8 < a1 then (
some μ1)
else (
nm (st μ1 131 0 ((μ1 131 0) - (1 : Int32))) fun μ10 =>
gd (inb (μ10 131 0) 64) <| nm (μ10 20 (μ10 131 0).toNatClampNeg) fun x12 =>
ca2 (f_M_emit (x12 + (20 : Int32)) (0 : Int32) μ10) fun x14 μ15 =>
k2 μ15))) (fun _ => none) N μ
def f_M_blockEnds  (μ : St) : Option St :=
nm (st μ 105 0 ((μ 105 0) + (1 : Int32))) fun μ1 =>
nm (st μ1 122 0 ((μ1 122 0) - (1 : Int32))) fun μ2 =>
gd (inb (μ2 122 0) 5) <| nm (μ2 13 (μ2 122 0).toNatClampNeg) fun x4 =>
if x4 = 0 then (
ca2 (f_M_emit (0 : Int32) (0 : Int32) μ2) fun x37 μ38 =>
ca2 (f_M_emit (15 : Int32) (0 : Int32) μ38) fun x40 μ41 =>
nm (st μ41 106 0 (0 : Int32)) fun μ42 =>
some μ42)
else (
jn (jn (fun (μ9 : St) =>
gd (inb (μ9 122 0) 5) <| nm (μ9 14 (μ9 122 0).toNatClampNeg) fun x13 =>
gd (inb x13 600) <| nm (st μ9 3 x13.toNatClampNeg (μ9 108 0)) fun μ15 =>
some μ15) fun k10 =>
if x4 = (3 : Int32) then (
gd (inb (μ2 122 0) 5) <| nm (μ2 15 (μ2 122 0).toNatClampNeg) fun x18 =>
ca2 (f_M_emit (14 : Int32) x18 μ2) fun x20 μ21 =>
k10 μ21)
else (
k10 μ2)) fun k7 =>
if x4 = (1 : Int32) then (
ca (f_M_token μ2) fun x24 =>
if x24 = (1 : Int32) then (
nm (st μ2 105 0 ((μ2 105 0) + (1 : Int32))) fun μ26 =>
ca2 (f_M_emit (14 : Int32) (0 : Int32) μ26) fun x28 μ29 =>
gd (inb (μ29 122 0) 5) <| nm (μ29 14 (μ29 122 0).toNatClampNeg) fun x31 =>
gd (inb x31 600) <| nm (st μ29 3 x31.toNatClampNeg (μ29 108 0)) fun μ33 =>
ca (f_M_begins (2 : Int32) x28 (0 : Int32) μ33) fun μ35 =>
some μ35)
else (
k7))
else (
k7))
def f_M_statement  (μ : St) : Option St :=
ca (f_M_token μ) fun x2 =>
if x2 = (9 : Int32) then (
ca (f_M_blockEnds μ) fun μ116 =>
some μ116)
else (
ca2 (f_M_emit (8 : Int32) (0 : Int32) μ) fun x5 μ6 =>
nm (st μ6 136 0 x5) fun μ7 =>
ca (f_M_in x2 (32 : Int32) (39 : Int32)) fun x9 =>
jn (fun (y13 : Int32) =>
nm (st μ7 135 0 y13) fun μ14 =>
ca (f_M_in x2 (32 : Int32) (39 : Int32)) fun x16 =>
jn (jn (fun (y23 : Int32) =>
nm (st μ14 134 0 y23) fun μ24 =>
nm (st μ24 105 0 ((μ24 105 0) + (1 : Int32))) fun μ25 =>
ca2 (f_M_must (12 : Int32) μ25) fun x27 μ28 =>
if x27 = 0 then (
some μ28)
else (
ca (f_M_worth (4 : Int32) μ28) fun μ31 =>
some μ31)) fun k21 =>
if (μ14 135 0) = (9 : Int32) then (
k21 (x2 - (32 : Int32)))
else (
k21 (x2 - (44 : Int32)))) fun k18 =>
if x16 = 0 then (
ca (f_M_in x2 (44 : Int32) (51 : Int32)) fun x35 =>
if x35 = 0 then (
ca (f_M_in x2 (40 : Int32) (43 : Int32)) fun x38 =>
if x38 = 0 then (
ca (f_M_in x2 (52 : Int32) (57 : Int32)) fun x41 =>
if x41 = 0 then (
jn (nm (st μ14 105 0 ((μ14 105 0) + (1 : Int32))) fun μ46 =>
ca2 (f_M_must (6 : Int32) μ46) fun x48 μ49 =>
if x48 = 0 then (
some μ49)
else (
jn (fun (y54 : Int32) =>
ca (f_M_worth y54 μ49) fun μ56 =>
some μ56) fun k52 =>
if x2 = 0 then (
k52 (5 : Int32))
else (
k52 (6 : Int32)))) fun k44 =>
if x2 = 0 then (
k44)
else (
if x2 = (2 : Int32) then (
k44)
else (
jn (nm (st μ14 105 0 ((μ14 105 0) + (1 : Int32))) fun μ63 =>
jn (fun (y67 : Int32) =>
ca (f_M_worth y67 μ63) fun μ69 =>
some μ69) fun k65 =>
if x2 = (3 : Int32) then (
k65 (7 : Int32))
else (
k65 (8 : Int32))) fun k61 =>
if x2 = (3 : Int32) then (
k61)
else (
if x2 = (4 : Int32) then (
k61)
else (
ca (f_M_wrong (1 : Int32) (μ14 105 0) μ14) fun μ74 =>
some μ74)))))
else (
ca2 (f_M_call μ14) fun x76 μ77 =>
ca2 (f_M_must (6 : Int32) μ77) fun x79 μ80 =>
if x79 = 0 then (
some μ80)
else (
ca (f_M_token μ80) fun x83 =>
jn (fun (μ84 : St) =>
some μ84) fun k85 =>
if x83 = (7 : Int32) then (
nm (st μ80 105 0 ((μ80 105 0) + (1 : Int32))) fun μ94 =>
ca (f_M_callEnds x76 μ94) fun μ96 =>
ca2 (f_M_emit (12 : Int32) (0 : Int32) μ96) fun x98 μ99 =>
ca2 (f_M_must (10 : Int32) μ99) fun x101 μ102 =>
k85 μ102)
else (
ca (f_M_worth (9 : Int32) μ80) fun μ89 =>
gd (inb (0 : Int32) 5) <| nm (st μ89 19 (0 : Int32).toNatClampNeg x76) fun μ91 =>
gd (inb x76 160) <| nm (st μ91 12 x76.toNatClampNeg (1 : Int32)) fun μ93 =>
k85 μ93))))
else (
nm (st μ14 134 0 (x2 - (40 : Int32))) fun μ103 =>
nm (st μ103 105 0 ((μ103 105 0) + (1 : Int32))) fun μ104 =>
ca2 (f_M_must (21 : Int32) μ104) fun x106 μ107 =>
if x106 = 0 then (
some μ107)
else (
ca (f_M_worth (3 : Int32) μ107) fun μ110 =>
some μ110)))
else (
k18))
else (
k18)) fun k11 =>
if x9 = 0 then (
ca (f_M_in x2 (44 : Int32) (51 : Int32)) fun x113 =>
if x113 = 0 then (
k11 (11 : Int32))
else (
k11 (10 : Int32)))
else (
k11 (9 : Int32)))
def f_M_piece  (μ : St) : Option St :=
ca (f_M_token μ) fun x2 =>
nm ((μ 126 0) - (1 : Int32)) fun x3 =>
gd (inb x3 5) <| nm (μ 17 x3.toNatClampNeg) fun x5 =>
jn (nm (st μ 106 0 (4 : Int32)) fun μ9 =>
ca (f_M_in x2 (64 : Int32) (191 : Int32)) fun x11 =>
if x11 = 0 then (
if x2 = (5 : Int32) then (
ca2 (f_M_emit (1 : Int32) (0 : Int32) μ9) fun x69 μ70 =>
nm (st μ70 105 0 ((μ70 105 0) + (1 : Int32))) fun μ71 =>
some μ71)
else (
ca (f_M_in x2 (32 : Int32) (39 : Int32)) fun x15 =>
jn (jn (fun (y22 : Int32) =>
jn (fun (y26 : Int32) =>
ca2 (f_M_emit y22 y26 μ9) fun x28 μ29 =>
nm (st μ29 105 0 ((μ29 105 0) + (1 : Int32))) fun μ30 =>
some μ30) fun k24 =>
if (40 : Int32) ≤ x2 then (
k24 (x2 - (44 : Int32)))
else (
k24 (x2 - (32 : Int32)))) fun k20 =>
if (40 : Int32) ≤ x2 then (
k20 (3 : Int32))
else (
k20 (2 : Int32))) fun k17 =>
if x15 = 0 then (
ca (f_M_in x2 (44 : Int32) (51 : Int32)) fun x35 =>
if x35 = 0 then (
ca (f_M_in x2 (40 : Int32) (43 : Int32)) fun x38 =>
if x38 = 0 then (
ca (f_M_in x2 (52 : Int32) (57 : Int32)) fun x41 =>
if x41 = 0 then (
if x2 = (6 : Int32) then (
nm (st μ9 105 0 ((μ9 105 0) + (1 : Int32))) fun μ46 =>
ca (f_M_enters (0 : Int32) (0 : Int32) μ46) fun μ48 =>
some μ48)
else (
ca (f_M_wrong (1 : Int32) (μ9 105 0) μ9) fun μ45 =>
some μ45))
else (
ca2 (f_M_call μ9) fun x50 μ51 =>
ca2 (f_M_must (6 : Int32) μ51) fun x53 μ54 =>
jn (fun (μ55 : St) =>
some μ55) fun k56 =>
if x53 = 0 then (
k56 μ54)
else (
ca (f_M_arguments x50 μ54) fun μ60 =>
k56 μ60)))
else (
nm (st μ9 105 0 ((μ9 105 0) + (1 : Int32))) fun μ61 =>
ca2 (f_M_must (21 : Int32) μ61) fun x63 μ64 =>
if x63 = 0 then (
some μ64)
else (
ca (f_M_enters (1 : Int32) (x2 - (40 : Int32)) μ64) fun μ67 =>
some μ67)))
else (
k17))
else (
k17)))
else (
ca2 (f_M_emit (0 : Int32) (x2 - (64 : Int32)) μ9) fun x73 μ74 =>
nm (st μ74 105 0 ((μ74 105 0) + (1 : Int32))) fun μ75 =>
some μ75)) fun k7 =>
if x5 = (-1 : Int32) then (
jn (jn (fun (y83 : Int32) =>
gd (inb x3 5) <| nm (st μ 17 x3.toNatClampNeg y83) fun μ85 =>
nm (st μ85 105 0 ((μ85 105 0) + (1 : Int32))) fun μ86 =>
some μ86) fun k81 =>
if x2 = (14 : Int32) then (
k81 (5 : Int32))
else (
k81 (6 : Int32))) fun k78 =>
if x2 = (14 : Int32) then (
k78)
else (
if x2 = (20 : Int32) then (
k78)
else (
k7)))
else (
k7)
def f_M_argumentEnds (a1 : Int32) (a2 : Int32) (μ : St) : Option St :=
ca (f_M_token μ) fun x2 =>
if x2 = (11 : Int32) then (
nm (st μ 105 0 ((μ 105 0) + (1 : Int32))) fun μ19 =>
gd (inb a2 160) <| nm (μ19 12 a2.toNatClampNeg) fun x21 =>
gd (inb a2 160) <| nm (st μ19 12 a2.toNatClampNeg (x21 + (1 : Int32))) fun μ23 =>
ca (f_M_fresh μ23) fun μ25 =>
some μ25)
else (
ca2 (f_M_must (7 : Int32) μ) fun x5 μ6 =>
if x5 = 0 then (
some μ6)
else (
ca (f_M_callEnds a2 μ6) fun μ9 =>
if a1 = (2 : Int32) then (
nm (st μ9 126 0 ((μ9 126 0) - (1 : Int32))) fun μ18 =>
some μ18)
else (
ca2 (f_M_emit (12 : Int32) (0 : Int32) μ9) fun x12 μ13 =>
nm (st μ13 106 0 (2 : Int32)) fun μ14 =>
ca2 (f_M_must (10 : Int32) μ14) fun x16 μ17 =>
some μ17)))
def f_M_valueEnds (a1 : Int32) (a2 : Int32) (μ : St) : Option St :=
if a1 = 0 then (
ca2 (f_M_must (7 : Int32) μ) fun x63 μ64 =>
if x63 = 0 then (
some μ64)
else (
nm (st μ64 126 0 ((μ64 126 0) - (1 : Int32))) fun μ66 =>
some μ66))
else (
if a1 = (1 : Int32) then (
ca2 (f_M_must (22 : Int32) μ) fun x55 μ56 =>
if x55 = 0 then (
some μ56)
else (
ca2 (f_M_emit (4 : Int32) a2 μ56) fun x59 μ60 =>
nm (st μ60 126 0 ((μ60 126 0) - (1 : Int32))) fun μ61 =>
some μ61))
else (
jn (ca (f_M_argumentEnds a1 a2 μ) fun μ7 =>
some μ7) fun k4 =>
if a1 = (2 : Int32) then (
k4)
else (
if a1 = (9 : Int32) then (
k4)
else (
if a1 = (3 : Int32) then (
ca2 (f_M_must (22 : Int32) μ) fun x45 μ46 =>
if x45 = 0 then (
some μ46)
else (
ca2 (f_M_must (12 : Int32) μ46) fun x49 μ50 =>
if x49 = 0 then (
some μ50)
else (
ca (f_M_worth (4 : Int32) μ50) fun μ53 =>
some μ53)))
else (
jn (ca2 (f_M_must (7 : Int32) μ) fun x15 μ16 =>
if x15 = 0 then (
some μ16)
else (
ca2 (f_M_emit (13 : Int32) (0 : Int32) μ16) fun x19 μ20 =>
jn (fun (y24 : Int32) =>
ca (f_M_begins y24 x19 (μ20 136 0) μ20) fun μ26 =>
some μ26) fun k22 =>
if a1 = (5 : Int32) then (
k22 (1 : Int32))
else (
k22 (3 : Int32)))) fun k12 =>
if a1 = (5 : Int32) then (
k12)
else (
if a1 = (6 : Int32) then (
k12)
else (
ca2 (f_M_must (10 : Int32) μ) fun x31 μ32 =>
if x31 = 0 then (
some μ32)
else (
jn (fun (y37 : Int32) =>
ca2 (f_M_emit y37 (μ32 134 0) μ32) fun x39 μ40 =>
nm (st μ40 106 0 (2 : Int32)) fun μ41 =>
some μ41) fun k35 =>
if a1 = (4 : Int32) then (
k35 (μ32 135 0))
else (
if a1 = (7 : Int32) then (
k35 (15 : Int32))
else (
k35 (16 : Int32)))))))))))
def f_M_behind (N : Nat)  (μ : St) : Option St :=
nm ((μ 126 0) - (1 : Int32)) fun x1 =>
gd (inb x1 5) <| nm (μ 17 x1.toNatClampNeg) fun x3 =>
jn (fun (μ4 : St) =>
ca (f_M_token μ4) fun x8 =>
ca (f_M_levelOf x8) fun x10 =>
jn (fun (y14 : Int32) =>
ca (f_M_reduce N y14 μ4) fun μ16 =>
jn (fun (y20 : Int32) =>
jn (if y20 = 0 then (
gd (inb x1 5) <| nm (μ16 16 x1.toNatClampNeg) fun x26 =>
gd (inb x1 5) <| nm (μ16 19 x1.toNatClampNeg) fun x28 =>
ca (f_M_valueEnds x26 x28 μ16) fun μ30 =>
some μ30)
else (
ca (f_M_wrong (1 : Int32) (μ16 105 0) μ16) fun μ32 =>
some μ32)) fun k22 =>
if x10 ≤ 0 then (
k22)
else (
if y20 = 0 then (
ca (f_M_token μ16) fun x36 =>
gd (inb (μ16 131 0) 64) <| nm (st μ16 20 (μ16 131 0).toNatClampNeg x36) fun μ38 =>
gd (inb (μ38 131 0) 64) <| nm (st μ38 21 (μ38 131 0).toNatClampNeg x10) fun μ40 =>
nm (st μ40 131 0 ((μ40 131 0) + (1 : Int32))) fun μ41 =>
nm (st μ41 105 0 ((μ41 105 0) + (1 : Int32))) fun μ42 =>
nm (st μ42 106 0 (3 : Int32)) fun μ43 =>
some μ43)
else (
k22))) fun k18 =>
jn (k18 (0 : Int32)) fun k45 =>
if x10 = (1 : Int32) then (
gd (inb x1 5) <| nm (μ16 18 x1.toNatClampNeg) fun x49 =>
if (μ16 131 0) ≤ x49 then (
k45)
else (
gd (inb ((μ16 131 0) - (1 : Int32)) 64) <| nm (μ16 21 ((μ16 131 0) - (1 : Int32)).toNatClampNeg) fun x52 =>
if x52 = (1 : Int32) then (
k18 (1 : Int32))
else (
k45)))
else (
k45)) fun k12 =>
if x10 = 0 then (
k12 (1 : Int32))
else (
if x10 = (1 : Int32) then (
k12 (2 : Int32))
else (
k12 x10))) fun k5 =>
if x3 = (-1 : Int32) then (
k5 μ)
else (
gd (inb x1 5) <| nm (μ 17 x1.toNatClampNeg) fun x58 =>
ca2 (f_M_emit x58 (0 : Int32) μ) fun x60 μ61 =>
gd (inb x1 5) <| nm (st μ61 17 x1.toNatClampNeg (-1 : Int32)) fun μ63 =>
k5 μ63)
def f_M_function  (μ : St) : Option St :=
ca (f_M_token μ) fun x2 =>
if x2 = (-1 : Int32) then (
nm (st μ 107 0 (1 : Int32)) fun μ38 =>
some μ38)
else (
ca2 (f_M_must (23 : Int32) μ) fun x5 μ6 =>
if x5 = 0 then (
some μ6)
else (
ca (f_M_token μ6) fun x9 =>
nm (x9 - (52 : Int32)) fun x10 =>
ca (f_M_in x10 (0 : Int32) (5 : Int32)) fun x12 =>
if x12 = 0 then (
ca (f_M_wrong (1 : Int32) (μ6 105 0) μ6) fun μ37 =>
some μ37)
else (
gd (inb x10 6) <| nm (μ6 6 x10.toNatClampNeg) fun x15 =>
if x15 < 0 then (
nm (st μ6 105 0 ((μ6 105 0) + (1 : Int32))) fun μ17 =>
ca (f_M_token μ17) fun x19 =>
ca (f_M_in x19 (64 : Int32) (67 : Int32)) fun x21 =>
if x21 = 0 then (
ca (f_M_wrong (1 : Int32) (μ17 105 0) μ17) fun μ33 =>
some μ33)
else (
gd (inb x10 6) <| nm (st μ17 6 x10.toNatClampNeg (μ17 108 0)) fun μ24 =>
ca (f_M_token μ24) fun x26 =>
gd (inb x10 6) <| nm (st μ24 7 x10.toNatClampNeg (x26 - (64 : Int32))) fun μ28 =>
nm (st μ28 105 0 ((μ28 105 0) + (1 : Int32))) fun μ29 =>
ca (f_M_begins (0 : Int32) (0 : Int32) (0 : Int32) μ29) fun μ31 =>
some μ31))
else (
ca (f_M_wrong (2 : Int32) (μ6 105 0) μ6) fun μ35 =>
some μ35))))
def f_M_readText (N : Nat)  (μ : St) : Option St :=
nm (st μ 103 0 (0 : Int32)) fun μ1 =>
nm (st μ1 105 0 (0 : Int32)) fun μ2 =>
nm (st μ2 106 0 (0 : Int32)) fun μ3 =>
nm (st μ3 107 0 (0 : Int32)) fun μ4 =>
nm (st μ4 108 0 (0 : Int32)) fun μ5 =>
nm (st μ5 118 0 (0 : Int32)) fun μ6 =>
nm (st μ6 122 0 (0 : Int32)) fun μ7 =>
lpk (fun (k10 : Int32 → St → Option St) (x8 : Int32) (μ9 : St) =>
if (6 : Int32) ≤ x8 then (
lpk (fun (k15 : Int32 → St → Option St) (x13 : Int32) (μ14 : St) =>
jn (lpk (fun (k22 : Int32 → St → Option St) (x20 : Int32) (μ21 : St) =>
jn (gd (inb (0 : Int32) 6) <| nm (μ21 6 (0 : Int32).toNatClampNeg) fun x28 =>
jn (ca (f_M_wrong (6 : Int32) (μ21 101 0) μ21) fun μ33 =>
some μ33) fun k30 =>
if x28 < 0 then (
k30)
else (
gd (inb (0 : Int32) 6) <| nm (μ21 7 (0 : Int32).toNatClampNeg) fun x36 =>
if x36 ≤ 0 then (
some μ21)
else (
k30))) fun k25 =>
if (μ21 118 0) ≤ x20 then (
k25)
else (
if (μ21 103 0) = 0 then (
gd (inb x20 160) <| nm (μ21 11 x20.toNatClampNeg) fun x41 =>
gd (inb x41 6) <| nm (μ21 6 x41.toNatClampNeg) fun x43 =>
jn (fun (y47 : Int32) =>
jn (fun (μ48 : St) =>
nm (x20 + (1 : Int32)) fun x51 =>
k22 x51 μ48) fun k49 =>
jn (jn (fun (y58 : Int32) =>
gd (inb x20 160) <| nm (μ21 10 x20.toNatClampNeg) fun x60 =>
ca (f_M_wrong y58 x60 μ21) fun μ62 =>
k49 μ62) fun k56 =>
if y47 = 0 then (
k56 (4 : Int32))
else (
k56 (5 : Int32))) fun k53 =>
if y47 = 0 then (
k53)
else (
gd (inb x20 160) <| nm (μ21 11 x20.toNatClampNeg) fun x66 =>
gd (inb x66 6) <| nm (μ21 7 x66.toNatClampNeg) fun x68 =>
gd (inb x20 160) <| nm (μ21 12 x20.toNatClampNeg) fun x70 =>
if x68 = x70 then (
k49 μ21)
else (
k53))) fun k45 =>
if x43 < 0 then (
k45 (0 : Int32))
else (
k45 (1 : Int32)))
else (
k25))) (fun _ _ => none) N (0 : Int32) μ14) fun k18 =>
if (2000 : Int32) ≤ x13 then (
k18)
else (
if (μ14 103 0) = 0 then (
if (μ14 107 0) = 0 then (
jn (fun (μ76 : St) =>
nm (x13 + (1 : Int32)) fun x79 =>
k15 x79 μ76) fun k77 =>
if (μ14 106 0) = 0 then (
ca (f_M_function μ14) fun μ96 =>
k77 μ96)
else (
if (μ14 106 0) = (1 : Int32) then (
ca2 (f_M_must (8 : Int32) μ14) fun x91 μ92 =>
if x91 = 0 then (
k77 μ92)
else (
nm (st μ92 106 0 (2 : Int32)) fun μ94 =>
k77 μ94))
else (
if (μ14 106 0) = (2 : Int32) then (
ca (f_M_statement μ14) fun μ89 =>
k77 μ89)
else (
if (μ14 106 0) = (3 : Int32) then (
ca (f_M_piece μ14) fun μ87 =>
k77 μ87)
else (
ca (f_M_behind N μ14) fun μ85 =>
k77 μ85)))))
else (
k18))
else (
k18))) (fun _ _ => none) N (0 : Int32) μ9)
else (
gd (inb x8 6) <| nm (st μ9 6 x8.toNatClampNeg (-1 : Int32)) fun μ98 =>
gd (inb x8 6) <| nm (st μ98 7 x8.toNatClampNeg (0 : Int32)) fun μ100 =>
nm (x8 + (1 : Int32)) fun x101 =>
k10 x101 μ100)) (fun _ _ => none) N (0 : Int32) μ7
def f_M_nothing (N : Nat)  (μ : St) : Option St :=
lpk (fun (k3 : Int32 → St → Option St) (x1 : Int32) (μ2 : St) =>
if (8 : Int32) ≤ x1 then (
lpk (fun (k8 : Int32 → St → Option St) (x6 : Int32) (μ7 : St) =>
if (32 : Int32) ≤ x6 then (
nm (st μ7 139 0 (0 : Int32)) fun μ11 =>
nm (st μ11 141 0 (0 : Int32)) fun μ12 =>
nm (st μ12 146 0 (0 : Int32)) fun μ13 =>
nm (st μ13 147 0 (0 : Int32)) fun μ14 =>
some μ14)
else (
gd (inb x6 32) <| nm (st μ7 23 x6.toNatClampNeg (0 : Int32)) fun μ16 =>
nm (x6 + (1 : Int32)) fun x17 =>
k8 x17 μ16)) (fun _ _ => none) N (0 : Int32) μ2)
else (
gd (inb x1 8) <| nm (st μ2 22 x1.toNatClampNeg (0 : Int32)) fun μ19 =>
nm (x1 + (1 : Int32)) fun x20 =>
k3 x20 μ19)) (fun _ _ => none) N (0 : Int32) μ
def f_M_enter (N : Nat) (a1 : Int32) (a2 : Int32) (μ : St) : Option St :=
gd (inb (μ 146 0) 10) <| nm (st μ 27 (μ 146 0).toNatClampNeg a2) fun μ2 =>
gd (inb (μ2 146 0) 10) <| nm (st μ2 28 (μ2 146 0).toNatClampNeg (μ2 147 0)) fun μ4 =>
lpk (fun (k7 : Int32 → St → Option St) (x5 : Int32) (μ6 : St) =>
if (8 : Int32) ≤ x5 then (
nm (st μ6 146 0 ((μ6 146 0) + (1 : Int32))) fun μ10 =>
gd (inb a1 6) <| nm (μ10 8 a1.toNatClampNeg) fun x12 =>
nm (st μ10 138 0 x12) fun μ13 =>
some μ13)
else (
gd (inb (((8 : Int32) * (μ6 146 0)) + x5) 80) <| nm (st μ6 26 (((8 : Int32) * (μ6 146 0)) + x5).toNatClampNeg (0 : Int32)) fun μ15 =>
nm (x5 + (1 : Int32)) fun x16 =>
k7 x16 μ15)) (fun _ _ => none) N (0 : Int32) μ4
def f_M_compile (N : Nat)  (μ : St) : Option (Int32 × St) :=
nm (st μ 100 0 (0 : Int32)) fun μ1 =>
ca (f_M_readText N μ1) fun μ3 =>
nm (st μ3 101 0 (0 : Int32)) fun μ4 =>
if (μ4 103 0) ≤ 0 then (
nm (st μ4 117 0 (0 : Int32)) fun μ6 =>
lpk (fun (k9 : Int32 → St → Option (Int32 × St)) (x7 : Int32) (μ8 : St) =>
if (6 : Int32) ≤ x7 then (
lpk (fun (k14 : Int32 → St → Option (Int32 × St)) (x12 : Int32) (μ13 : St) =>
if (μ13 108 0) ≤ x12 then (
nm (st μ13 137 0 (0 : Int32)) fun μ17 =>
ca (f_M_nothing N μ17) fun μ19 =>
some (μ19 117 0, μ19))
else (
gd (inb x12 600) <| nm (μ13 2 x12.toNatClampNeg) fun x21 =>
gd (inb x12 600) <| nm (st μ13 4 x12.toNatClampNeg x21) fun μ23 =>
gd (inb x12 600) <| nm (μ23 2 x12.toNatClampNeg) fun x25 =>
jn (fun (y29 : Int32) =>
gd (inb x12 600) <| nm (st μ23 5 x12.toNatClampNeg y29) fun μ31 =>
nm (x12 + (1 : Int32)) fun x32 =>
k14 x32 μ31) fun k27 =>
if x25 = (7 : Int32) then (
gd (inb x12 600) <| nm (μ23 3 x12.toNatClampNeg) fun x37 =>
gd (inb x37 160) <| nm (μ23 11 x37.toNatClampNeg) fun x39 =>
k27 x39)
else (
gd (inb x12 600) <| nm (μ23 3 x12.toNatClampNeg) fun x35 =>
k27 x35))) (fun _ _ => none) N (0 : Int32) μ8)
else (
gd (inb x7 6) <| nm (μ8 6 x7.toNatClampNeg) fun x41 =>
gd (inb x7 6) <| nm (st μ8 8 x7.toNatClampNeg x41) fun μ43 =>
gd (inb x7 6) <| nm (μ43 7 x7.toNatClampNeg) fun x45 =>
gd (inb x7 6) <| nm (st μ43 9 x7.toNatClampNeg x45) fun μ47 =>
gd (inb x7 6) <| nm (μ47 8 x7.toNatClampNeg) fun x49 =>
jn (fun (y53 : Int32) =>
nm (st μ47 117 0 ((μ47 117 0) + y53)) fun μ54 =>
nm (x7 + (1 : Int32)) fun x55 =>
k9 x55 μ54) fun k51 =>
if x49 < 0 then (
k51 (0 : Int32))
else (
k51 (1 : Int32)))) (fun _ _ => none) N (0 : Int32) μ6)
else (
some (((-1000 : Int32) * (μ4 103 0)) - (μ4 104 0), μ4))
def f_M_start (N : Nat)  (μ : St) : Option (Int32 × St) :=
jn (fun (y4 : Int32) =>
nm (st μ 100 0 y4) fun μ5 =>
if (μ5 100 0) ≤ 0 then (
ca (f_M_nothing N μ5) fun μ8 =>
ca (f_M_enter N (0 : Int32) (0 : Int32) μ8) fun μ10 =>
nm (st μ10 137 0 (1 : Int32)) fun μ11 =>
some ((1 : Int32), μ11))
else (
some ((0 : Int32), μ5))) fun k2 =>
if (μ 117 0) = 0 then (
k2 (1 : Int32))
else (
k2 (0 : Int32))
def f_M_key (a1 : Int32) (μ : St) : Option (Int32 × St) :=
jn (fun (y4 : Int32) =>
nm (st μ 100 0 y4) fun μ5 =>
if (μ5 100 0) = 0 then (
gd (inb (μ5 140 0) 8) <| nm (st μ5 24 (μ5 140 0).toNatClampNeg a1) fun μ8 =>
nm (st μ8 140 0 ((μ8 140 0) + (1 : Int32))) fun μ9 =>
some (μ9 140 0, μ9))
else (
some (μ5 140 0, μ5))) fun k2 =>
jn (k2 (1 : Int32)) fun k11 =>
if a1 < (-32768 : Int32) then (
k11)
else (
if a1 ≤ (32767 : Int32) then (
if (μ 140 0) = (8 : Int32) then (
k2 (2 : Int32))
else (
k2 (0 : Int32)))
else (
k11))
def f_M_reads (N : Nat)  (μ : St) : Option St :=
if (μ 140 0) = 0 then (
nm (st μ 137 0 (2 : Int32)) fun μ17 =>
nm (st μ17 138 0 ((μ17 138 0) - (1 : Int32))) fun μ18 =>
some μ18)
else (
gd (inb (0 : Int32) 8) <| nm (μ 24 (0 : Int32).toNatClampNeg) fun x3 =>
ca (f_M_push x3 μ) fun μ5 =>
nm (st μ5 140 0 ((μ5 140 0) - (1 : Int32))) fun μ6 =>
lpk (fun (k9 : Int32 → St → Option St) (x7 : Int32) (μ8 : St) =>
if (μ8 140 0) ≤ x7 then (
some μ8)
else (
gd (inb (x7 + (1 : Int32)) 8) <| nm (μ8 24 (x7 + (1 : Int32)).toNatClampNeg) fun x13 =>
gd (inb x7 8) <| nm (st μ8 24 x7.toNatClampNeg x13) fun μ15 =>
nm (x7 + (1 : Int32)) fun x16 =>
k9 x16 μ15)) (fun _ _ => none) N (0 : Int32) μ6)
def f_M_operates (a1 : Int32) (μ : St) : Option St :=
ca2 (f_M_pop μ) fun x2 μ3 =>
ca2 (f_M_pop μ3) fun x5 μ6 =>
jn (jn (fun (y13 : Int32) =>
ca (f_M_push y13 μ6) fun μ15 =>
some μ15) fun k11 =>
if a1 = (13 : Int32) then (
k11 (x5 + x2))
else (
if a1 = (14 : Int32) then (
k11 (x5 - x2))
else (
if a1 = (15 : Int32) then (
k11 (x5 * x2))
else (
if a1 = (16 : Int32) then (
gd (nz x2) <|
k11 (x5 / x2))
else (
if a1 = (17 : Int32) then (
gd (nz x2) <|
k11 (x5 - x5 / x2 * x2))
else (
if a1 = (18 : Int32) then (
if x2 ≤ x5 then (
k11 (0 : Int32))
else (
k11 (1 : Int32)))
else (
if x5 = x2 then (
k11 (1 : Int32))
else (
k11 (0 : Int32))))))))) fun k8 =>
jn (if x2 = 0 then (
nm (st μ6 137 0 (4 : Int32)) fun μ30 =>
some μ30)
else (
k8)) fun k27 =>
if a1 = (16 : Int32) then (
k27)
else (
if a1 = (17 : Int32) then (
k27)
else (
k8))
def f_M_calls (N : Nat) (a1 : Int32) (μ : St) : Option St :=
if (μ 146 0) = (10 : Int32) then (
nm (st μ 137 0 (6 : Int32)) fun μ18 =>
some μ18)
else (
gd (inb a1 6) <| nm (μ 9 a1.toNatClampNeg) fun x3 =>
nm ((μ 147 0) - x3) fun x4 =>
nm (st μ 147 0 x4) fun μ5 =>
ca (f_M_enter N a1 (μ5 138 0) μ5) fun μ7 =>
lpk (fun (k10 : Int32 → St → Option St) (x8 : Int32) (μ9 : St) =>
if x3 ≤ x8 then (
some μ9)
else (
gd (inb (x4 + x8) 1000) <| nm (μ9 29 (x4 + x8).toNatClampNeg) fun x14 =>
gd (inb (((8 : Int32) * ((μ9 146 0) - (1 : Int32))) + x8) 80) <| nm (st μ9 26 (((8 : Int32) * ((μ9 146 0) - (1 : Int32))) + x8).toNatClampNeg x14) fun μ16 =>
nm (x8 + (1 : Int32)) fun x17 =>
k10 x17 μ16)) (fun _ _ => none) N (0 : Int32) μ7)
def f_M_returns  (μ : St) : Option St :=
ca2 (f_M_pop μ) fun x2 μ3 =>
nm (st μ3 146 0 ((μ3 146 0) - (1 : Int32))) fun μ4 =>
gd (inb (μ4 146 0) 10) <| nm (μ4 28 (μ4 146 0).toNatClampNeg) fun x6 =>
nm (st μ4 147 0 x6) fun μ7 =>
if (μ7 146 0) = 0 then (
nm (st μ7 137 0 (3 : Int32)) fun μ14 =>
some μ14)
else (
gd (inb (μ7 146 0) 10) <| nm (μ7 27 (μ7 146 0).toNatClampNeg) fun x10 =>
nm (st μ7 138 0 x10) fun μ11 =>
ca (f_M_push x2 μ11) fun μ13 =>
some μ13)
def f_M_place (a1 : Int32) (a2 : Int32) (μ : St) : Option St :=
jn (fun (y4 : Int32) (μ1 : St) =>
ca2 (f_M_pop μ1) fun x6 μ7 =>
jn (nm (st μ7 137 0 (5 : Int32)) fun μ11 =>
some μ11) fun k9 =>
if x6 < 0 then (
k9)
else (
if x6 ≤ (7 : Int32) then (
if a2 = 0 then (
gd (inb (((8 : Int32) * a1) + x6) 32) <| nm (μ7 23 (((8 : Int32) * a1) + x6).toNatClampNeg) fun x16 =>
ca (f_M_push x16 μ7) fun μ18 =>
some μ18)
else (
gd (inb (((8 : Int32) * a1) + x6) 32) <| nm (st μ7 23 (((8 : Int32) * a1) + x6).toNatClampNeg y4) fun μ20 =>
some μ20))
else (
k9))) fun k2 =>
if a2 = 0 then (
k2 (0 : Int32) μ)
else (
ca2 (f_M_pop μ) fun x23 μ24 =>
k2 x23 μ24)
def f_M_prints  (μ : St) : Option St :=
gd (nz (32 : Int32)) <|
ca2 (f_M_pop μ) fun x3 μ4 =>
gd (inb ((μ 139 0) - (μ 139 0) / (32 : Int32) * (32 : Int32)) 32) <| nm (st μ4 25 ((μ 139 0) - (μ 139 0) / (32 : Int32) * (32 : Int32)).toNatClampNeg x3) fun μ6 =>
nm (st μ6 139 0 ((μ6 139 0) + (1 : Int32))) fun μ7 =>
some μ7
def f_M_does (N : Nat) (a1 : Int32) (a2 : Int32) (μ : St) : Option St :=
nm ((8 : Int32) * ((μ 146 0) - (1 : Int32))) fun x1 =>
if a1 = (0 : Int32) then (
ca (f_M_push a2 μ) fun μ4 =>
some μ4)
else (
if a1 = (1 : Int32) then (
ca (f_M_reads N μ) fun μ7 =>
some μ7)
else (
if a1 = (2 : Int32) then (
gd (inb a2 8) <| nm (μ 22 a2.toNatClampNeg) fun x10 =>
ca (f_M_push x10 μ) fun μ12 =>
some μ12)
else (
if a1 = (3 : Int32) then (
gd (inb (x1 + a2) 80) <| nm (μ 26 (x1 + a2).toNatClampNeg) fun x15 =>
ca (f_M_push x15 μ) fun μ17 =>
some μ17)
else (
if a1 = (4 : Int32) then (
ca (f_M_place a2 (0 : Int32) μ) fun μ20 =>
some μ20)
else (
if a1 = (5 : Int32) then (
ca2 (f_M_pop μ) fun x23 μ24 =>
ca (f_M_push (-x23) μ24) fun μ26 =>
some μ26)
else (
if a1 = (6 : Int32) then (
ca2 (f_M_pop μ) fun x29 μ30 =>
jn (fun (y34 : Int32) =>
ca (f_M_push y34 μ30) fun μ36 =>
some μ36) fun k32 =>
if x29 = 0 then (
k32 (1 : Int32))
else (
k32 (0 : Int32)))
else (
if a1 = (7 : Int32) then (
ca (f_M_calls N a2 μ) fun μ40 =>
some μ40)
else (
if a1 = (9 : Int32) then (
ca2 (f_M_pop μ) fun x43 μ44 =>
gd (inb a2 8) <| nm (st μ44 22 a2.toNatClampNeg x43) fun μ46 =>
some μ46)
else (
if a1 = (10 : Int32) then (
ca2 (f_M_pop μ) fun x49 μ50 =>
gd (inb (x1 + a2) 80) <| nm (st μ50 26 (x1 + a2).toNatClampNeg x49) fun μ52 =>
some μ52)
else (
if a1 = (11 : Int32) then (
ca (f_M_place a2 (1 : Int32) μ) fun μ55 =>
some μ55)
else (
if a1 = (12 : Int32) then (
ca2 (f_M_pop μ) fun x58 μ59 =>
some μ59)
else (
if a1 = (13 : Int32) then (
ca2 (f_M_pop μ) fun x62 μ63 =>
jn (fun (y67 : Int32) =>
nm (st μ63 138 0 y67) fun μ68 =>
some μ68) fun k65 =>
if x62 = 0 then (
k65 a2)
else (
k65 (μ63 138 0)))
else (
if a1 = (14 : Int32) then (
nm (st μ 138 0 a2) fun μ71 =>
some μ71)
else (
if a1 = (15 : Int32) then (
ca (f_M_returns μ) fun μ74 =>
some μ74)
else (
if a1 = (16 : Int32) then (
ca (f_M_prints μ) fun μ77 =>
some μ77)
else (
ca (f_M_operates (a1 - (20 : Int32)) μ) fun μ79 =>
some μ79))))))))))))))))
def f_M_run (N : Nat) (a1 : Int32) (μ : St) : Option (Int32 × St) :=
jn (fun (y4 : Int32) =>
nm (st μ 100 0 y4) fun μ5 =>
if (μ5 100 0) ≤ 0 then (
jn (fun (y10 : Int32) =>
nm (st μ5 137 0 y10) fun μ11 =>
lpk (fun (k15 : Int32 → Int32 → St → Option (Int32 × St)) (x12 : Int32) (x13 : Int32) (μ14 : St) =>
if (μ14 137 0) = (1 : Int32) then (
if x13 = 0 then (
some (μ14 137 0, μ14))
else (
gd (inb (μ14 138 0) 600) <| nm (μ14 4 (μ14 138 0).toNatClampNeg) fun x20 =>
if x20 = (8 : Int32) then (
jn (fun (y32 : Int32) =>
nm (x12 + (1 : Int32)) fun x33 =>
jn (fun (y37 : Int32) =>
nm (st μ14 141 0 ((μ14 141 0) + y37)) fun μ38 =>
jn (fun (y42 : Int32) =>
nm (st μ38 138 0 ((μ38 138 0) + y42)) fun μ43 =>
k15 x33 y32 μ43) fun k40 =>
if y32 = 0 then (
k40 (0 : Int32))
else (
k40 (1 : Int32))) fun k35 =>
if y32 = 0 then (
k35 (0 : Int32))
else (
k35 (1 : Int32))) fun k30 =>
if a1 ≤ x12 then (
k30 (0 : Int32))
else (
k30 (1 : Int32)))
else (
nm (st μ14 138 0 ((μ14 138 0) + (1 : Int32))) fun μ22 =>
gd (inb ((μ22 138 0) - (1 : Int32)) 600) <| nm (μ22 4 ((μ22 138 0) - (1 : Int32)).toNatClampNeg) fun x24 =>
gd (inb ((μ22 138 0) - (1 : Int32)) 600) <| nm (μ22 5 ((μ22 138 0) - (1 : Int32)).toNatClampNeg) fun x26 =>
ca (f_M_does N x24 x26 μ22) fun μ28 =>
k15 x12 x13 μ28)))
else (
some (μ14 137 0, μ14))) (fun _ _ _ => none) N (0 : Int32) (1 : Int32) μ11) fun k8 =>
jn (k8 (μ5 137 0)) fun k48 =>
if (μ5 137 0) = (2 : Int32) then (
if (μ5 140 0) ≤ 0 then (
k48)
else (
k8 (1 : Int32)))
else (
k48))
else (
some ((0 : Int32), μ5))) fun k2 =>
jn (k2 (1 : Int32)) fun k53 =>
if a1 < (1 : Int32) then (
k53)
else (
if a1 ≤ (200 : Int32) then (
if (μ 137 0) = 0 then (
k2 (2 : Int32))
else (
k2 (0 : Int32)))
else (
k53))
def f_M_words (N : Nat) (a1 : Int32) (a2 : Int32) (μ : St) : Option (Int32 × St) :=
jn (fun (y4 : Int32) =>
lpk (fun (k8 : Int32 → Int32 → Option (Int32 × St)) (x5 : Int32) (x6 : Int32) =>
jn (jn (fun (y16 : Int32) =>
nm (st μ 100 0 y16) fun μ17 =>
nm (a2 - (1 : Int32)) fun x18 =>
lpk (fun (k21 : Int32 → St → Option (Int32 × St)) (x19 : Int32) (μ20 : St) =>
if x19 < 0 then (
some (μ20 101 0, μ20))
else (
if (μ20 100 0) = 0 then (
gd (inb (μ20 101 0) 161) <| nm (st μ20 1 (μ20 101 0).toNatClampNeg ((a1 >>> (((8 : Int32) * x19) &&& 31)) &&& (255 : Int32))) fun μ26 =>
nm (st μ26 101 0 ((μ26 101 0) + (1 : Int32))) fun μ27 =>
nm (x19 + (-1 : Int32)) fun x28 =>
k21 x28 μ27)
else (
some (μ20 101 0, μ20)))) (fun _ _ => none) N x18 μ17) fun k14 =>
if x5 = 0 then (
k14 (1 : Int32))
else (
if ((μ 101 0) + a2) ≤ (160 : Int32) then (
k14 (0 : Int32))
else (
k14 (2 : Int32)))) fun k11 =>
if a2 ≤ x6 then (
k11)
else (
if x5 = 0 then (
k11)
else (
jn (fun (y36 : Int32) =>
nm (x6 + (1 : Int32)) fun x37 =>
k8 y36 x37) fun k34 =>
if (191 : Int32) < ((a1 >>> (((8 : Int32) * x6) &&& 31)) &&& (255 : Int32)) then (
k34 (0 : Int32))
else (
k34 (1 : Int32))))) (fun _ _ => none) N y4 (0 : Int32)) fun k2 =>
jn (k2 (0 : Int32)) fun k40 =>
if a2 < (1 : Int32) then (
k40)
else (
if (4 : Int32) < a2 then (
k40)
else (
k2 (1 : Int32)))
def f_M_shown (a1 : Int32) (μ : St) : Option (Int32 × St) :=
jn (fun (y4 : Int32) =>
nm (st μ 100 0 y4) fun μ5 =>
if (μ5 100 0) ≤ 0 then (
gd (nz (32 : Int32)) <|
gd (inb ((((μ5 139 0) - (1 : Int32)) - a1) - (((μ5 139 0) - (1 : Int32)) - a1) / (32 : Int32) * (32 : Int32)) 32) <| nm (μ5 25 ((((μ5 139 0) - (1 : Int32)) - a1) - (((μ5 139 0) - (1 : Int32)) - a1) / (32 : Int32) * (32 : Int32)).toNatClampNeg) fun x9 =>
some (x9, μ5))
else (
some ((0 : Int32), μ5))) fun k2 =>
jn (k2 (1 : Int32)) fun k11 =>
if a1 < 0 then (
k11)
else (
if (μ 139 0) ≤ a1 then (
k11)
else (
if a1 < (32 : Int32) then (
k2 (0 : Int32))
else (
k11)))
def f_M_global (a1 : Int32) (μ : St) : Option (Int32 × St) :=
jn (fun (y4 : Int32) =>
nm (st μ 100 0 y4) fun μ5 =>
if (μ5 100 0) ≤ 0 then (
gd (inb a1 8) <| nm (μ5 22 a1.toNatClampNeg) fun x8 =>
some (x8, μ5))
else (
some ((0 : Int32), μ5))) fun k2 =>
jn (k2 (1 : Int32)) fun k10 =>
if a1 < 0 then (
k10)
else (
if a1 ≤ (7 : Int32) then (
k2 (0 : Int32))
else (
k10))
def f_M_array (a1 : Int32) (a2 : Int32) (μ : St) : Option (Int32 × St) :=
jn (fun (y4 : Int32) =>
nm (st μ 100 0 y4) fun μ5 =>
if (μ5 100 0) ≤ 0 then (
gd (inb (((8 : Int32) * a1) + a2) 32) <| nm (μ5 23 (((8 : Int32) * a1) + a2).toNatClampNeg) fun x8 =>
some (x8, μ5))
else (
some ((0 : Int32), μ5))) fun k2 =>
jn (k2 (1 : Int32)) fun k10 =>
if a1 < 0 then (
k10)
else (
if (3 : Int32) < a1 then (
k10)
else (
if a2 < 0 then (
k10)
else (
if a2 ≤ (7 : Int32) then (
k2 (0 : Int32))
else (
k10))))
def f_M_about (a1 : Int32) (μ : St) : Option (Int32 × St) :=
nm (st μ 100 0 (0 : Int32)) fun μ1 =>
if a1 = (0 : Int32) then (
some (μ1 137 0, μ1))
else (
if a1 = (1 : Int32) then (
some (μ1 101 0, μ1))
else (
if a1 = (2 : Int32) then (
some (μ1 117 0, μ1))
else (
if a1 = (3 : Int32) then (
some (μ1 141 0, μ1))
else (
if a1 = (4 : Int32) then (
some (μ1 139 0, μ1))
else (
if a1 = (5 : Int32) then (
some (μ1 140 0, μ1))
else (
if a1 = (6 : Int32) then (
some (μ1 146 0, μ1))
else (
some ((-1 : Int32), μ1))))))))
