/-! the class's lowest bit, next set of as many, next spaces, hangsTogether -/
noncomputable def ntz1 (y : Int) : Int × Int := if 65536 < y then (17, qush y 16) else (1, y)
noncomputable def ntz2 (p : Int × Int) : Int × Int := if 256 < p.2 then (p.1 + 8, qush p.2 8) else p
noncomputable def ntz3 (p : Int × Int) : Int × Int := if 16 < p.2 then (p.1 + 4, qush p.2 4) else p
noncomputable def ntz4 (p : Int × Int) : Int × Int := if 4 < p.2 then (p.1 + 2, qush p.2 2) else p
noncomputable def ntz5 (p : Int × Int) : Int := wrp (p.1 + qush p.2 1)
noncomputable def ntzF (x : Int) : Int := if 0 < qand (qxor x (-1)) (wrp (x - 1)) then ntz5 (ntz4 (ntz3 (ntz2 (ntz1 (qand (qxor x (-1)) (wrp (x - 1))))))) else qand (qand (qxor x (-1)) (wrp (x - 1))) 32
noncomputable def gosF (x : Int) : Int := qor (wrp (x + qand x (wrp (-x)))) (qush (qxor x (wrp (x + qand x (wrp (-x))))) (wrp (2 + ntzF x)))
