/-! Fields of the class's cells, one by one. -/
def fup (g : Nat → Int32) (k : Nat) (x : Int32) : Nat → Int32 := fun i => if i = k then x else g i
theorem fup_eq {g : Nat → Int32} {k : Nat} {x : Int32} : fup g k x k = x := if_pos rfl
theorem fup_ne {g : Nat → Int32} {k i : Nat} {x : Int32} (h : ¬ i = k) : fup g k x i = g i := if_neg h
section
variable {T : tT} {a : Nat} {g x9 : Nat → Int32} {x : Int32} {y c r b h t : Option Nat} {s : Nat}
theorem Rg0 (h9 : T.1 a = some (cReply g s)) : tgi T a 8 0 = some (g 0) := tgi_o h9 rfl
theorem Rp0 (h9 : T.1 a = some (cReply g s)) : tpi T a 8 0 x = some (tset T a (cReply (fup g 0 x) s)) := (tp_o h9 (show 0 < 14 by decide)).trans rfl
theorem Rg1 (h9 : T.1 a = some (cReply g s)) : tgi T a 8 1 = some (g 1) := tgi_o h9 rfl
theorem Rp1 (h9 : T.1 a = some (cReply g s)) : tpi T a 8 1 x = some (tset T a (cReply (fup g 1 x) s)) := (tp_o h9 (show 1 < 14 by decide)).trans rfl
theorem Rg2 (h9 : T.1 a = some (cReply g s)) : tgi T a 8 2 = some (g 2) := tgi_o h9 rfl
theorem Rp2 (h9 : T.1 a = some (cReply g s)) : tpi T a 8 2 x = some (tset T a (cReply (fup g 2 x) s)) := (tp_o h9 (show 2 < 14 by decide)).trans rfl
theorem Rg3 (h9 : T.1 a = some (cReply g s)) : tgi T a 8 3 = some (g 3) := tgi_o h9 rfl
theorem Rp3 (h9 : T.1 a = some (cReply g s)) : tpi T a 8 3 x = some (tset T a (cReply (fup g 3 x) s)) := (tp_o h9 (show 3 < 14 by decide)).trans rfl
theorem Rg4 (h9 : T.1 a = some (cReply g s)) : tgi T a 8 4 = some (g 4) := tgi_o h9 rfl
theorem Rp4 (h9 : T.1 a = some (cReply g s)) : tpi T a 8 4 x = some (tset T a (cReply (fup g 4 x) s)) := (tp_o h9 (show 4 < 14 by decide)).trans rfl
theorem Rg5 (h9 : T.1 a = some (cReply g s)) : tgi T a 8 5 = some (g 5) := tgi_o h9 rfl
theorem Rp5 (h9 : T.1 a = some (cReply g s)) : tpi T a 8 5 x = some (tset T a (cReply (fup g 5 x) s)) := (tp_o h9 (show 5 < 14 by decide)).trans rfl
theorem Rg6 (h9 : T.1 a = some (cReply g s)) : tgi T a 8 6 = some (g 6) := tgi_o h9 rfl
theorem Rp6 (h9 : T.1 a = some (cReply g s)) : tpi T a 8 6 x = some (tset T a (cReply (fup g 6 x) s)) := (tp_o h9 (show 6 < 14 by decide)).trans rfl
theorem Rg7 (h9 : T.1 a = some (cReply g s)) : tgi T a 8 7 = some (g 7) := tgi_o h9 rfl
theorem Rp7 (h9 : T.1 a = some (cReply g s)) : tpi T a 8 7 x = some (tset T a (cReply (fup g 7 x) s)) := (tp_o h9 (show 7 < 14 by decide)).trans rfl
theorem Rg8 (h9 : T.1 a = some (cReply g s)) : tgi T a 8 8 = some (g 8) := tgi_o h9 rfl
theorem Rp8 (h9 : T.1 a = some (cReply g s)) : tpi T a 8 8 x = some (tset T a (cReply (fup g 8 x) s)) := (tp_o h9 (show 8 < 14 by decide)).trans rfl
theorem Rg9 (h9 : T.1 a = some (cReply g s)) : tgi T a 8 9 = some (g 9) := tgi_o h9 rfl
theorem Rp9 (h9 : T.1 a = some (cReply g s)) : tpi T a 8 9 x = some (tset T a (cReply (fup g 9 x) s)) := (tp_o h9 (show 9 < 14 by decide)).trans rfl
theorem Rg10 (h9 : T.1 a = some (cReply g s)) : tgi T a 8 10 = some (g 10) := tgi_o h9 rfl
theorem Rp10 (h9 : T.1 a = some (cReply g s)) : tpi T a 8 10 x = some (tset T a (cReply (fup g 10 x) s)) := (tp_o h9 (show 10 < 14 by decide)).trans rfl
theorem Rg11 (h9 : T.1 a = some (cReply g s)) : tgi T a 8 11 = some (g 11) := tgi_o h9 rfl
theorem Rp11 (h9 : T.1 a = some (cReply g s)) : tpi T a 8 11 x = some (tset T a (cReply (fup g 11 x) s)) := (tp_o h9 (show 11 < 14 by decide)).trans rfl
theorem Rg12 (h9 : T.1 a = some (cReply g s)) : tgi T a 8 12 = some (g 12) := tgi_o h9 rfl
theorem Rp12 (h9 : T.1 a = some (cReply g s)) : tpi T a 8 12 x = some (tset T a (cReply (fup g 12 x) s)) := (tp_o h9 (show 12 < 14 by decide)).trans rfl
theorem Mg0 (h9 : T.1 a = some (cMsg g t)) : tgi T a 9 0 = some (g 0) := tgi_o h9 rfl
theorem Mp0 (h9 : T.1 a = some (cMsg g t)) : tpi T a 9 0 x = some (tset T a (cMsg (fup g 0 x) t)) := (tp_o h9 (show 0 < 19 by decide)).trans rfl
theorem Mg1 (h9 : T.1 a = some (cMsg g t)) : tgi T a 9 1 = some (g 1) := tgi_o h9 rfl
theorem Mp1 (h9 : T.1 a = some (cMsg g t)) : tpi T a 9 1 x = some (tset T a (cMsg (fup g 1 x) t)) := (tp_o h9 (show 1 < 19 by decide)).trans rfl
theorem Mg2 (h9 : T.1 a = some (cMsg g t)) : tgi T a 9 2 = some (g 2) := tgi_o h9 rfl
theorem Mp2 (h9 : T.1 a = some (cMsg g t)) : tpi T a 9 2 x = some (tset T a (cMsg (fup g 2 x) t)) := (tp_o h9 (show 2 < 19 by decide)).trans rfl
theorem Mg3 (h9 : T.1 a = some (cMsg g t)) : tgi T a 9 3 = some (g 3) := tgi_o h9 rfl
theorem Mp3 (h9 : T.1 a = some (cMsg g t)) : tpi T a 9 3 x = some (tset T a (cMsg (fup g 3 x) t)) := (tp_o h9 (show 3 < 19 by decide)).trans rfl
theorem Mg4 (h9 : T.1 a = some (cMsg g t)) : tgi T a 9 4 = some (g 4) := tgi_o h9 rfl
theorem Mp4 (h9 : T.1 a = some (cMsg g t)) : tpi T a 9 4 x = some (tset T a (cMsg (fup g 4 x) t)) := (tp_o h9 (show 4 < 19 by decide)).trans rfl
theorem Mg5 (h9 : T.1 a = some (cMsg g t)) : tgi T a 9 5 = some (g 5) := tgi_o h9 rfl
theorem Mp5 (h9 : T.1 a = some (cMsg g t)) : tpi T a 9 5 x = some (tset T a (cMsg (fup g 5 x) t)) := (tp_o h9 (show 5 < 19 by decide)).trans rfl
theorem Mg6 (h9 : T.1 a = some (cMsg g t)) : tgi T a 9 6 = some (g 6) := tgi_o h9 rfl
theorem Mp6 (h9 : T.1 a = some (cMsg g t)) : tpi T a 9 6 x = some (tset T a (cMsg (fup g 6 x) t)) := (tp_o h9 (show 6 < 19 by decide)).trans rfl
theorem Mg7 (h9 : T.1 a = some (cMsg g t)) : tgi T a 9 7 = some (g 7) := tgi_o h9 rfl
theorem Mp7 (h9 : T.1 a = some (cMsg g t)) : tpi T a 9 7 x = some (tset T a (cMsg (fup g 7 x) t)) := (tp_o h9 (show 7 < 19 by decide)).trans rfl
theorem Mg8 (h9 : T.1 a = some (cMsg g t)) : tgi T a 9 8 = some (g 8) := tgi_o h9 rfl
theorem Mp8 (h9 : T.1 a = some (cMsg g t)) : tpi T a 9 8 x = some (tset T a (cMsg (fup g 8 x) t)) := (tp_o h9 (show 8 < 19 by decide)).trans rfl
theorem Mg9 (h9 : T.1 a = some (cMsg g t)) : tgi T a 9 9 = some (g 9) := tgi_o h9 rfl
theorem Mp9 (h9 : T.1 a = some (cMsg g t)) : tpi T a 9 9 x = some (tset T a (cMsg (fup g 9 x) t)) := (tp_o h9 (show 9 < 19 by decide)).trans rfl
theorem Mg10 (h9 : T.1 a = some (cMsg g t)) : tgi T a 9 10 = some (g 10) := tgi_o h9 rfl
theorem Mp10 (h9 : T.1 a = some (cMsg g t)) : tpi T a 9 10 x = some (tset T a (cMsg (fup g 10 x) t)) := (tp_o h9 (show 10 < 19 by decide)).trans rfl
theorem Mg11 (h9 : T.1 a = some (cMsg g t)) : tgi T a 9 11 = some (g 11) := tgi_o h9 rfl
theorem Mp11 (h9 : T.1 a = some (cMsg g t)) : tpi T a 9 11 x = some (tset T a (cMsg (fup g 11 x) t)) := (tp_o h9 (show 11 < 19 by decide)).trans rfl
theorem Mg12 (h9 : T.1 a = some (cMsg g t)) : tgi T a 9 12 = some (g 12) := tgi_o h9 rfl
theorem Mp12 (h9 : T.1 a = some (cMsg g t)) : tpi T a 9 12 x = some (tset T a (cMsg (fup g 12 x) t)) := (tp_o h9 (show 12 < 19 by decide)).trans rfl
theorem Mg13 (h9 : T.1 a = some (cMsg g t)) : tgi T a 9 13 = some (g 13) := tgi_o h9 rfl
theorem Mp13 (h9 : T.1 a = some (cMsg g t)) : tpi T a 9 13 x = some (tset T a (cMsg (fup g 13 x) t)) := (tp_o h9 (show 13 < 19 by decide)).trans rfl
theorem Mg14 (h9 : T.1 a = some (cMsg g t)) : tgi T a 9 14 = some (g 14) := tgi_o h9 rfl
theorem Mp14 (h9 : T.1 a = some (cMsg g t)) : tpi T a 9 14 x = some (tset T a (cMsg (fup g 14 x) t)) := (tp_o h9 (show 14 < 19 by decide)).trans rfl
theorem Mg16 (h9 : T.1 a = some (cMsg g t)) : tgi T a 9 16 = some (g 16) := tgi_o h9 rfl
theorem Mp16 (h9 : T.1 a = some (cMsg g t)) : tpi T a 9 16 x = some (tset T a (cMsg (fup g 16 x) t)) := (tp_o h9 (show 16 < 19 by decide)).trans rfl
theorem Mg17 (h9 : T.1 a = some (cMsg g t)) : tgi T a 9 17 = some (g 17) := tgi_o h9 rfl
theorem Mp17 (h9 : T.1 a = some (cMsg g t)) : tpi T a 9 17 x = some (tset T a (cMsg (fup g 17 x) t)) := (tp_o h9 (show 17 < 19 by decide)).trans rfl
theorem Mg18 (h9 : T.1 a = some (cMsg g t)) : tgi T a 9 18 = some (g 18) := tgi_o h9 rfl
theorem Mp18 (h9 : T.1 a = some (cMsg g t)) : tpi T a 9 18 x = some (tset T a (cMsg (fup g 18 x) t)) := (tp_o h9 (show 18 < 19 by decide)).trans rfl
theorem Qg0 (h9 : T.1 a = some (cReq g c r b)) : tgi T a 6 0 = some (g 0) := tgi_o h9 rfl
theorem Qp0 (h9 : T.1 a = some (cReq g c r b)) : tpi T a 6 0 x = some (tset T a (cReq (fup g 0 x) c r b)) := (tp_o h9 (show 0 < 19 by decide)).trans rfl
theorem Qg1 (h9 : T.1 a = some (cReq g c r b)) : tgi T a 6 1 = some (g 1) := tgi_o h9 rfl
theorem Qp1 (h9 : T.1 a = some (cReq g c r b)) : tpi T a 6 1 x = some (tset T a (cReq (fup g 1 x) c r b)) := (tp_o h9 (show 1 < 19 by decide)).trans rfl
theorem Qg2 (h9 : T.1 a = some (cReq g c r b)) : tgi T a 6 2 = some (g 2) := tgi_o h9 rfl
theorem Qp2 (h9 : T.1 a = some (cReq g c r b)) : tpi T a 6 2 x = some (tset T a (cReq (fup g 2 x) c r b)) := (tp_o h9 (show 2 < 19 by decide)).trans rfl
theorem Qg3 (h9 : T.1 a = some (cReq g c r b)) : tgi T a 6 3 = some (g 3) := tgi_o h9 rfl
theorem Qp3 (h9 : T.1 a = some (cReq g c r b)) : tpi T a 6 3 x = some (tset T a (cReq (fup g 3 x) c r b)) := (tp_o h9 (show 3 < 19 by decide)).trans rfl
theorem Qg4 (h9 : T.1 a = some (cReq g c r b)) : tgi T a 6 4 = some (g 4) := tgi_o h9 rfl
theorem Qp4 (h9 : T.1 a = some (cReq g c r b)) : tpi T a 6 4 x = some (tset T a (cReq (fup g 4 x) c r b)) := (tp_o h9 (show 4 < 19 by decide)).trans rfl
theorem Qg5 (h9 : T.1 a = some (cReq g c r b)) : tgi T a 6 5 = some (g 5) := tgi_o h9 rfl
theorem Qp5 (h9 : T.1 a = some (cReq g c r b)) : tpi T a 6 5 x = some (tset T a (cReq (fup g 5 x) c r b)) := (tp_o h9 (show 5 < 19 by decide)).trans rfl
theorem Qg6 (h9 : T.1 a = some (cReq g c r b)) : tgi T a 6 6 = some (g 6) := tgi_o h9 rfl
theorem Qp6 (h9 : T.1 a = some (cReq g c r b)) : tpi T a 6 6 x = some (tset T a (cReq (fup g 6 x) c r b)) := (tp_o h9 (show 6 < 19 by decide)).trans rfl
theorem Qg7 (h9 : T.1 a = some (cReq g c r b)) : tgi T a 6 7 = some (g 7) := tgi_o h9 rfl
theorem Qp7 (h9 : T.1 a = some (cReq g c r b)) : tpi T a 6 7 x = some (tset T a (cReq (fup g 7 x) c r b)) := (tp_o h9 (show 7 < 19 by decide)).trans rfl
theorem Qg8 (h9 : T.1 a = some (cReq g c r b)) : tgi T a 6 8 = some (g 8) := tgi_o h9 rfl
theorem Qp8 (h9 : T.1 a = some (cReq g c r b)) : tpi T a 6 8 x = some (tset T a (cReq (fup g 8 x) c r b)) := (tp_o h9 (show 8 < 19 by decide)).trans rfl
theorem Qg9 (h9 : T.1 a = some (cReq g c r b)) : tgi T a 6 9 = some (g 9) := tgi_o h9 rfl
theorem Qp9 (h9 : T.1 a = some (cReq g c r b)) : tpi T a 6 9 x = some (tset T a (cReq (fup g 9 x) c r b)) := (tp_o h9 (show 9 < 19 by decide)).trans rfl
theorem Qg10 (h9 : T.1 a = some (cReq g c r b)) : tgi T a 6 10 = some (g 10) := tgi_o h9 rfl
theorem Qp10 (h9 : T.1 a = some (cReq g c r b)) : tpi T a 6 10 x = some (tset T a (cReq (fup g 10 x) c r b)) := (tp_o h9 (show 10 < 19 by decide)).trans rfl
theorem Qg11 (h9 : T.1 a = some (cReq g c r b)) : tgi T a 6 11 = some (g 11) := tgi_o h9 rfl
theorem Qp11 (h9 : T.1 a = some (cReq g c r b)) : tpi T a 6 11 x = some (tset T a (cReq (fup g 11 x) c r b)) := (tp_o h9 (show 11 < 19 by decide)).trans rfl
theorem Qg12 (h9 : T.1 a = some (cReq g c r b)) : tgi T a 6 12 = some (g 12) := tgi_o h9 rfl
theorem Qp12 (h9 : T.1 a = some (cReq g c r b)) : tpi T a 6 12 x = some (tset T a (cReq (fup g 12 x) c r b)) := (tp_o h9 (show 12 < 19 by decide)).trans rfl
theorem Qg15 (h9 : T.1 a = some (cReq g c r b)) : tgi T a 6 15 = some (g 15) := tgi_o h9 rfl
theorem Qp15 (h9 : T.1 a = some (cReq g c r b)) : tpi T a 6 15 x = some (tset T a (cReq (fup g 15 x) c r b)) := (tp_o h9 (show 15 < 19 by decide)).trans rfl
theorem Qg16 (h9 : T.1 a = some (cReq g c r b)) : tgi T a 6 16 = some (g 16) := tgi_o h9 rfl
theorem Qp16 (h9 : T.1 a = some (cReq g c r b)) : tpi T a 6 16 x = some (tset T a (cReq (fup g 16 x) c r b)) := (tp_o h9 (show 16 < 19 by decide)).trans rfl
theorem Qg17 (h9 : T.1 a = some (cReq g c r b)) : tgi T a 6 17 = some (g 17) := tgi_o h9 rfl
theorem Qp17 (h9 : T.1 a = some (cReq g c r b)) : tpi T a 6 17 x = some (tset T a (cReq (fup g 17 x) c r b)) := (tp_o h9 (show 17 < 19 by decide)).trans rfl
theorem Fg0 (h9 : T.1 a = some (cFetch g h t)) : tgi T a 10 0 = some (g 0) := tgi_o h9 rfl
theorem Fp0 (h9 : T.1 a = some (cFetch g h t)) : tpi T a 10 0 x = some (tset T a (cFetch (fup g 0 x) h t)) := (tp_o h9 (show 0 < 14 by decide)).trans rfl
theorem Fg1 (h9 : T.1 a = some (cFetch g h t)) : tgi T a 10 1 = some (g 1) := tgi_o h9 rfl
theorem Fp1 (h9 : T.1 a = some (cFetch g h t)) : tpi T a 10 1 x = some (tset T a (cFetch (fup g 1 x) h t)) := (tp_o h9 (show 1 < 14 by decide)).trans rfl
theorem Fg2 (h9 : T.1 a = some (cFetch g h t)) : tgi T a 10 2 = some (g 2) := tgi_o h9 rfl
theorem Fp2 (h9 : T.1 a = some (cFetch g h t)) : tpi T a 10 2 x = some (tset T a (cFetch (fup g 2 x) h t)) := (tp_o h9 (show 2 < 14 by decide)).trans rfl
theorem Fg3 (h9 : T.1 a = some (cFetch g h t)) : tgi T a 10 3 = some (g 3) := tgi_o h9 rfl
theorem Fp3 (h9 : T.1 a = some (cFetch g h t)) : tpi T a 10 3 x = some (tset T a (cFetch (fup g 3 x) h t)) := (tp_o h9 (show 3 < 14 by decide)).trans rfl
theorem Fg4 (h9 : T.1 a = some (cFetch g h t)) : tgi T a 10 4 = some (g 4) := tgi_o h9 rfl
theorem Fp4 (h9 : T.1 a = some (cFetch g h t)) : tpi T a 10 4 x = some (tset T a (cFetch (fup g 4 x) h t)) := (tp_o h9 (show 4 < 14 by decide)).trans rfl
theorem Fg5 (h9 : T.1 a = some (cFetch g h t)) : tgi T a 10 5 = some (g 5) := tgi_o h9 rfl
theorem Fp5 (h9 : T.1 a = some (cFetch g h t)) : tpi T a 10 5 x = some (tset T a (cFetch (fup g 5 x) h t)) := (tp_o h9 (show 5 < 14 by decide)).trans rfl
theorem Fg6 (h9 : T.1 a = some (cFetch g h t)) : tgi T a 10 6 = some (g 6) := tgi_o h9 rfl
theorem Fp6 (h9 : T.1 a = some (cFetch g h t)) : tpi T a 10 6 x = some (tset T a (cFetch (fup g 6 x) h t)) := (tp_o h9 (show 6 < 14 by decide)).trans rfl
theorem Fg7 (h9 : T.1 a = some (cFetch g h t)) : tgi T a 10 7 = some (g 7) := tgi_o h9 rfl
theorem Fp7 (h9 : T.1 a = some (cFetch g h t)) : tpi T a 10 7 x = some (tset T a (cFetch (fup g 7 x) h t)) := (tp_o h9 (show 7 < 14 by decide)).trans rfl
theorem Fg8 (h9 : T.1 a = some (cFetch g h t)) : tgi T a 10 8 = some (g 8) := tgi_o h9 rfl
theorem Fp8 (h9 : T.1 a = some (cFetch g h t)) : tpi T a 10 8 x = some (tset T a (cFetch (fup g 8 x) h t)) := (tp_o h9 (show 8 < 14 by decide)).trans rfl
theorem Fg9 (h9 : T.1 a = some (cFetch g h t)) : tgi T a 10 9 = some (g 9) := tgi_o h9 rfl
theorem Fp9 (h9 : T.1 a = some (cFetch g h t)) : tpi T a 10 9 x = some (tset T a (cFetch (fup g 9 x) h t)) := (tp_o h9 (show 9 < 14 by decide)).trans rfl
theorem Fg10 (h9 : T.1 a = some (cFetch g h t)) : tgi T a 10 10 = some (g 10) := tgi_o h9 rfl
theorem Fp10 (h9 : T.1 a = some (cFetch g h t)) : tpi T a 10 10 x = some (tset T a (cFetch (fup g 10 x) h t)) := (tp_o h9 (show 10 < 14 by decide)).trans rfl
theorem Fg11 (h9 : T.1 a = some (cFetch g h t)) : tgi T a 10 11 = some (g 11) := tgi_o h9 rfl
theorem Fp11 (h9 : T.1 a = some (cFetch g h t)) : tpi T a 10 11 x = some (tset T a (cFetch (fup g 11 x) h t)) := (tp_o h9 (show 11 < 14 by decide)).trans rfl
theorem Cg0 (h9 : T.1 a = some (cCond g s)) : tgi T a 7 0 = some (g 0) := tgi_o h9 rfl
theorem Cp0 (h9 : T.1 a = some (cCond g s)) : tpi T a 7 0 x = some (tset T a (cCond (fup g 0 x) s)) := (tp_o h9 (show 0 < 8 by decide)).trans rfl
theorem Cg1 (h9 : T.1 a = some (cCond g s)) : tgi T a 7 1 = some (g 1) := tgi_o h9 rfl
theorem Cp1 (h9 : T.1 a = some (cCond g s)) : tpi T a 7 1 x = some (tset T a (cCond (fup g 1 x) s)) := (tp_o h9 (show 1 < 8 by decide)).trans rfl
theorem Cg2 (h9 : T.1 a = some (cCond g s)) : tgi T a 7 2 = some (g 2) := tgi_o h9 rfl
theorem Cp2 (h9 : T.1 a = some (cCond g s)) : tpi T a 7 2 x = some (tset T a (cCond (fup g 2 x) s)) := (tp_o h9 (show 2 < 8 by decide)).trans rfl
theorem Cg3 (h9 : T.1 a = some (cCond g s)) : tgi T a 7 3 = some (g 3) := tgi_o h9 rfl
theorem Cp3 (h9 : T.1 a = some (cCond g s)) : tpi T a 7 3 x = some (tset T a (cCond (fup g 3 x) s)) := (tp_o h9 (show 3 < 8 by decide)).trans rfl
theorem Cg4 (h9 : T.1 a = some (cCond g s)) : tgi T a 7 4 = some (g 4) := tgi_o h9 rfl
theorem Cp4 (h9 : T.1 a = some (cCond g s)) : tpi T a 7 4 x = some (tset T a (cCond (fup g 4 x) s)) := (tp_o h9 (show 4 < 8 by decide)).trans rfl
theorem Cg6 (h9 : T.1 a = some (cCond g s)) : tgi T a 7 6 = some (g 6) := tgi_o h9 rfl
theorem Cp6 (h9 : T.1 a = some (cCond g s)) : tpi T a 7 6 x = some (tset T a (cCond (fup g 6 x) s)) := (tp_o h9 (show 6 < 8 by decide)).trans rfl
theorem Cg7 (h9 : T.1 a = some (cCond g s)) : tgi T a 7 7 = some (g 7) := tgi_o h9 rfl
theorem Cp7 (h9 : T.1 a = some (cCond g s)) : tpi T a 7 7 x = some (tset T a (cCond (fup g 7 x) s)) := (tp_o h9 (show 7 < 8 by decide)).trans rfl
theorem Qr13 (h9 : T.1 a = some (cReq g c r b)) : tgr T a 6 13 = some c := tgr_o h9 rfl
theorem Qw13 (h9 : T.1 a = some (cReq g c r b)) : tpr T a 6 13 y = some (tset T a (cReq g y r b)) := (tp_o h9 (show 13 < 19 by decide)).trans rfl
theorem Qr14 (h9 : T.1 a = some (cReq g c r b)) : tgr T a 6 14 = some r := tgr_o h9 rfl
theorem Qw14 (h9 : T.1 a = some (cReq g c r b)) : tpr T a 6 14 y = some (tset T a (cReq g c y b)) := (tp_o h9 (show 14 < 19 by decide)).trans rfl
theorem Qr18 (h9 : T.1 a = some (cReq g c r b)) : tgr T a 6 18 = some b := tgr_o h9 rfl
theorem Qw18 (h9 : T.1 a = some (cReq g c r b)) : tpr T a 6 18 y = some (tset T a (cReq g c r y)) := (tp_o h9 (show 18 < 19 by decide)).trans rfl
theorem Mr15 (h9 : T.1 a = some (cMsg g t)) : tgr T a 9 15 = some t := tgr_o h9 rfl
theorem Mw15 (h9 : T.1 a = some (cMsg g t)) : tpr T a 9 15 y = some (tset T a (cMsg g y)) := (tp_o h9 (show 15 < 19 by decide)).trans rfl
theorem Fr12 (h9 : T.1 a = some (cFetch g h t)) : tgr T a 10 12 = some h := tgr_o h9 rfl
theorem Fw12 (h9 : T.1 a = some (cFetch g h t)) : tpr T a 10 12 y = some (tset T a (cFetch g y t)) := (tp_o h9 (show 12 < 14 by decide)).trans rfl
theorem Fr13 (h9 : T.1 a = some (cFetch g h t)) : tgr T a 10 13 = some t := tgr_o h9 rfl
theorem Fw13 (h9 : T.1 a = some (cFetch g h t)) : tpr T a 10 13 y = some (tset T a (cFetch g h y)) := (tp_o h9 (show 13 < 14 by decide)).trans rfl
theorem Hg10 (h9 : T.1 a = some (house x9)) : tgi T a 0 10 = some (x9 71) := tgi_o h9 rfl
theorem Hp10 (h9 : T.1 a = some (house x9)) : tpi T a 0 10 x = some (tset T a (house (fup x9 71 x))) := (tp_o h9 (show 10 < 15 by decide)).trans rfl
theorem Hg11 (h9 : T.1 a = some (house x9)) : tgi T a 0 11 = some (x9 39) := tgi_o h9 rfl
theorem Hp11 (h9 : T.1 a = some (house x9)) : tpi T a 0 11 x = some (tset T a (house (fup x9 39 x))) := (tp_o h9 (show 11 < 15 by decide)).trans rfl
theorem Hg12 (h9 : T.1 a = some (house x9)) : tgi T a 0 12 = some (x9 38) := tgi_o h9 rfl
theorem Hp12 (h9 : T.1 a = some (house x9)) : tpi T a 0 12 x = some (tset T a (house (fup x9 38 x))) := (tp_o h9 (show 12 < 15 by decide)).trans rfl
theorem Hg13 (h9 : T.1 a = some (house x9)) : tgi T a 0 13 = some (x9 37) := tgi_o h9 rfl
theorem Hp13 (h9 : T.1 a = some (house x9)) : tpi T a 0 13 x = some (tset T a (house (fup x9 37 x))) := (tp_o h9 (show 13 < 15 by decide)).trans rfl
theorem Hg14 (h9 : T.1 a = some (house x9)) : tgi T a 0 14 = some (x9 36) := tgi_o h9 rfl
theorem Hp14 (h9 : T.1 a = some (house x9)) : tpi T a 0 14 x = some (tset T a (house (fup x9 36 x))) := (tp_o h9 (show 14 < 15 by decide)).trans rfl
theorem Hr0 (h9 : T.1 a = some (house x9)) : tgr T a 0 0 = some (some 513) := tgr_o (x := some 513) h9 rfl
theorem Hr1 (h9 : T.1 a = some (house x9)) : tgr T a 0 1 = some (some 517) := tgr_o (x := some 517) h9 rfl
theorem Hr2 (h9 : T.1 a = some (house x9)) : tgr T a 0 2 = some (some 518) := tgr_o (x := some 518) h9 rfl
theorem Hr3 (h9 : T.1 a = some (house x9)) : tgr T a 0 3 = some (some 519) := tgr_o (x := some 519) h9 rfl
theorem Hr4 (h9 : T.1 a = some (house x9)) : tgr T a 0 4 = some (some 520) := tgr_o (x := some 520) h9 rfl
theorem Hr5 (h9 : T.1 a = some (house x9)) : tgr T a 0 5 = some (some 521) := tgr_o (x := some 521) h9 rfl
theorem Hr6 (h9 : T.1 a = some (house x9)) : tgr T a 0 6 = some (some 522) := tgr_o (x := some 522) h9 rfl
theorem Hr7 (h9 : T.1 a = some (house x9)) : tgr T a 0 7 = some (some 523) := tgr_o (x := some 523) h9 rfl
theorem Hr8 (h9 : T.1 a = some (house x9)) : tgr T a 0 8 = some (some 524) := tgr_o (x := some 524) h9 rfl
theorem Hr9 (h9 : T.1 a = some (house x9)) : tgr T a 0 9 = some (some 525) := tgr_o (x := some 525) h9 rfl
theorem Eg0 {p v wh mk ag cm bl kp : Int32} (h9 : T.1 a = some (cEntry p v s wh mk ag cm bl kp)) : tgi T a 11 0 = some p := tgi_o h9 rfl
theorem Eg1 {p v wh mk ag cm bl kp : Int32} (h9 : T.1 a = some (cEntry p v s wh mk ag cm bl kp)) : tgi T a 11 1 = some v := tgi_o h9 rfl
theorem Eg3 {p v wh mk ag cm bl kp : Int32} (h9 : T.1 a = some (cEntry p v s wh mk ag cm bl kp)) : tgi T a 11 3 = some wh := tgi_o h9 rfl
theorem Eg4 {p v wh mk ag cm bl kp : Int32} (h9 : T.1 a = some (cEntry p v s wh mk ag cm bl kp)) : tgi T a 11 4 = some mk := tgi_o h9 rfl
theorem Eg5 {p v wh mk ag cm bl kp : Int32} (h9 : T.1 a = some (cEntry p v s wh mk ag cm bl kp)) : tgi T a 11 5 = some ag := tgi_o h9 rfl
theorem Eg6 {p v wh mk ag cm bl kp : Int32} (h9 : T.1 a = some (cEntry p v s wh mk ag cm bl kp)) : tgi T a 11 6 = some cm := tgi_o h9 rfl
theorem Eg7 {p v wh mk ag cm bl kp : Int32} (h9 : T.1 a = some (cEntry p v s wh mk ag cm bl kp)) : tgi T a 11 7 = some bl := tgi_o h9 rfl
theorem Eg8 {p v wh mk ag cm bl kp : Int32} (h9 : T.1 a = some (cEntry p v s wh mk ag cm bl kp)) : tgi T a 11 8 = some kp := tgi_o h9 rfl
theorem Er2 {p v wh mk ag cm bl kp : Int32} (h9 : T.1 a = some (cEntry p v s wh mk ag cm bl kp)) : tgr T a 11 2 = some (some s) := tgr_o (x := some s) h9 rfl
theorem Tg0 {p : Int32} (h9 : T.1 a = some (cTold p g)) : tgi T a 13 0 = some p := tgi_o h9 rfl
theorem Tg1 {p : Int32} (h9 : T.1 a = some (cTold p g)) : tgi T a 13 1 = some (g 0) := tgi_o h9 rfl
theorem Tg2 {p : Int32} (h9 : T.1 a = some (cTold p g)) : tgi T a 13 2 = some (g 1) := tgi_o h9 rfl
theorem Tg3 {p : Int32} (h9 : T.1 a = some (cTold p g)) : tgi T a 13 3 = some (g 2) := tgi_o h9 rfl
theorem Tg4 {p : Int32} (h9 : T.1 a = some (cTold p g)) : tgi T a 13 4 = some (g 3) := tgi_o h9 rfl
theorem Tg5 {p : Int32} (h9 : T.1 a = some (cTold p g)) : tgi T a 13 5 = some (g 4) := tgi_o h9 rfl
theorem Tg6 {p : Int32} (h9 : T.1 a = some (cTold p g)) : tgi T a 13 6 = some (g 5) := tgi_o h9 rfl
theorem Tg7 {p : Int32} (h9 : T.1 a = some (cTold p g)) : tgi T a 13 7 = some (g 6) := tgi_o h9 rfl
theorem Tg8 {p : Int32} (h9 : T.1 a = some (cTold p g)) : tgi T a 13 8 = some (g 7) := tgi_o h9 rfl
theorem Tg9 {p : Int32} (h9 : T.1 a = some (cTold p g)) : tgi T a 13 9 = some (g 8) := tgi_o h9 rfl
end
theorem tset_at {T : tT} {a : Nat} {c : tC} : (tset T a c).1 a = some c := if_pos rfl
theorem tset_o {T : tT} {a b : Nat} {c d : tC} (hb : T.1 b = some d) (h : ¬ b = a) : (tset T a c).1 b = some d := by rw [tset_1, if_neg h]; exact hb
/-! close -/
section
variable {T : tT} {S : mS} {F a s : Nat} {g x9 : Nat → Int32} {x : Int32}
theorem c_close (h1 : T.1 512 = some (house x9)) (h2 : T.1 a = some (cReply g s)) : D_c_EdgeHouse_close F 512 (some a) x T = some (tset (tset T a (cReply (fup (fup g 1 x) 12 (x9 36)) s)) 512 (house (fup x9 71 (x9 71 + 1)))) := by
  have hne : ¬ 512 = a := kd_ne h1 h2 (show ¬ (0 : Nat) = 8 by decide)
  have k1 : (tset T a (cReply (fup g 1 x) s)).1 512 = some (house x9) := tset_o h1 hne
  have k2 : (tset T a (cReply (fup (fup g 1 x) 12 (x9 36)) s)).1 512 = some (house x9) := tset_o h1 hne
  simp only [D_c_EdgeHouse_close, Option.bind_some, Rp1 h2, Hg14 k1, Rp12 (tset_at (T := T) (a := a) (c := cReply (fup g 1 x) s)), tset_tset, Hg10 k2, Hp10 k2]
/-- a row of answers -/
def aRow (r : Nat) (q : Nat) : Prop := 9 * r ≤ q ∧ q < 9 * r + 9
theorem m_close {r : Nat} {st how fr : Int32} (hr : r < 300) (hf : flag fr) : ∃ S', D_m_close F (Int32.ofNat r) st how fr S = some S' ∧ (∀ i, S'.1 i = if i = 71 then S.1 71 + 1 else S.1 i) ∧ (∀ a q, ¬ a = 621 → ¬ a = 627 → rd S' a q = rd S a q) ∧ (∀ q, rd S' 621 q = if q = r then 0 else rd S 621 q) ∧ (∀ q, ¬ aRow r q → rd S' 627 q = rd S 627 q) ∧ rd S' 627 (9 * r) = st ∧ rd S' 627 (9 * r + 1) = (if fr = 1 then rd S 626 0 else 0) ∧ rd S' 627 (9 * r + 2) = (if fr = 1 then S.1 85 else 0) ∧ rd S' 627 (9 * r + 3) = (if fr = 1 then rd S 626 1 else 0) ∧ rd S' 627 (9 * r + 4) = (if fr = 1 then how else 0) ∧ rd S' 627 (9 * r + 5) = S.1 36 ∧ rd S' 627 (9 * r + 6) = rd S 627 (9 * r + 6) ∧ rd S' 627 (9 * r + 7) = (if fr = 1 then S.1 87 else 0) ∧ rd S' 627 (9 * r + 8) = (if fr = 1 then rd S 626 8 else 0) := by
  have n0 : ∀ (S : mS), aget 0 9 S 626 (0 : Int32) = some (rd S 626 0) := fun S => aget_n (k := 0) (Or.inl rfl) (by decide) (by decide)
  have n1 : ∀ (S : mS), aget 0 9 S 626 (1 : Int32) = some (rd S 626 1) := fun S => aget_n (k := 1) (Or.inl rfl) (by decide) (by decide)
  have n8 : ∀ (S : mS), aget 0 9 S 626 (8 : Int32) = some (rd S 626 8) := fun S => aget_n (k := 8) (Or.inl rfl) (by decide) (by decide)
  have w : ∀ (S : mS) (k : Nat) (x : Int32), k < 9 → aput 2700 S 627 (Int32.ofNat (9 * r + k)) x = some (up2 S 627 (9 * r + k) x) := fun S k x hk => aput_n (by omega) (by decide)
  have c1 : ∀ y : Int32, (cond (m_c2 .ne fr (1 : Int32)) (some (0 : Int32)) (some y)) = some (if fr = 1 then y else 0) := by
    intro y
    rcases hf with rfl | rfl <;> rfl
  have e : D_m_close F (Int32.ofNat r) st how fr S = some (up2 (up2 (up2 (up2 (up2 (up2 (up2 (up2 (up1 (up2 S 621 r 0) 71 (S.1 71 + 1)) 627 (9 * r) st) 627 (9 * r + 1) (if fr = 1 then rd S 626 0 else 0)) 627 (9 * r + 2) (if fr = 1 then S.1 85 else 0)) 627 (9 * r + 3) (if fr = 1 then rd S 626 1 else 0)) 627 (9 * r + 4) (if fr = 1 then how else 0)) 627 (9 * r + 5) (S.1 36)) 627 (9 * r + 7) (if fr = 1 then S.1 87 else 0)) 627 (9 * r + 8) (if fr = 1 then rd S 626 8 else 0)) := by
    unfold D_m_close
    rw [bput_n (by omega) (by decide) (Or.inl rfl), Option.bind_some]
    simp only [fput, Option.bind_some, k9, p1, p2, p3, p4, p5, p7, p8, n0, n1, n8, c1, w _ 1 _ (by decide), w _ 2 _ (by decide), w _ 3 _ (by decide), w _ 4 _ (by decide), w _ 5 _ (by decide), w _ 7 _ (by decide), w _ 8 _ (by decide), aput_n (S := up1 (up2 S 621 r 0) 71 ((up2 S 621 r 0).1 71 + 1)) (N := 2700) (a := 627) (k := 9 * r) (x := st) (by omega) (by decide)]
    simp only [rd_up2, rd_up1, up2_1, up1_1, show ¬ (626 = 627) by decide, show ¬ (626 = 621) by decide, false_and, if_false, show ¬ (85 = 71) by decide, show ¬ (36 = 71) by decide, show ¬ (87 = 71) by decide]
  refine ⟨_, e, fun i => ?_, fun a q h1 h2 => ?_, fun q => ?_, fun q hq => ?_, ?_, ?_, ?_, ?_, ?_, ?_, ?_, ?_, ?_⟩
  · simp only [up2_1, up1_1]
  · simp only [rd_up2, rd_up1, h1, h2, false_and, if_false]
  · simp only [rd_up2, rd_up1, show ¬ (621 = 627) by decide, false_and, if_false, true_and]
  · unfold aRow at hq
    simp only [rd_up2, rd_up1, true_and]
    rw [if_neg (by omega), if_neg (by omega), if_neg (by omega), if_neg (by omega), if_neg (by omega), if_neg (by omega), if_neg (by omega), if_neg (by omega), if_neg (by omega)]
  all_goals simp [rd_up2, rd_up1]
end
