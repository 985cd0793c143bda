/-! purge on a fresh object. Written by wip/tool/purge.py. -/
theorem a_624 : m_at w_1 624 = some (.inl (0, 2200, [])) := rfl
theorem a_625 : m_at w_1 625 = some (.inl (0, 22, [])) := rfl
theorem q_304 : m_mt[304]? = some M_304 := by rfl
theorem q_305 : m_mt[305]? = some M_305 := by rfl
theorem d_150_0 : m_dn M_150 0 (.iload_n 1) 1 1 := by decide +kernel
theorem d_150_1 : m_dn M_150 1 (.ifCond .ne 10) 3 4 := by decide +kernel
theorem d_150_11 : m_dn M_150 11 (.iload_n 1) 1 12 := by decide +kernel
theorem d_150_12 : m_dn M_150 12 (.iconst 1) 1 13 := by decide +kernel
theorem d_150_13 : m_dn M_150 13 (.if_icmp .ne 17) 3 16 := by decide +kernel
theorem d_150_16 : m_dn M_150 16 (.iload_n 2) 1 17 := by decide +kernel
theorem d_150_17 : m_dn M_150 17 (.ifCond .lt 13) 3 20 := by decide +kernel
theorem d_150_20 : m_dn M_150 20 (.iload_n 2) 1 21 := by decide +kernel
theorem d_150_21 : m_dn M_150 21 (.bipush 8) 2 23 := by decide +kernel
theorem d_150_23 : m_dn M_150 23 (.if_icmp .ge 7) 3 26 := by decide +kernel
theorem d_150_30 : m_dn M_150 30 (.iconst 0) 1 31 := by decide +kernel
theorem d_150_31 : m_dn M_150 31 (.istore_n 3) 1 32 := by decide +kernel
theorem d_150_32 : m_dn M_150 32 (.iload_n 3) 1 33 := by decide +kernel
theorem d_150_33 : m_dn M_150 33 (.ifCond .eq 12) 3 36 := by decide +kernel
theorem d_150_4 : m_dn M_150 4 (.iload_n 2) 1 5 := by decide +kernel
theorem d_150_45 : m_dn M_150 45 (.iconst (-1)) 1 46 := by decide +kernel
theorem d_150_46 : m_dn M_150 46 (.ireturn) 1 47 := by decide +kernel
theorem d_150_5 : m_dn M_150 5 (.invokestatic 80) 3 8 := by decide +kernel
theorem d_150_8 : m_dn M_150 8 (.ifCond .ne 18) 3 11 := by decide +kernel
theorem d_304_0 : m_dn M_304 0 (.iconst 0) 1 1 := by decide +kernel
theorem d_304_1 : m_dn M_304 1 (.istore 6) 2 3 := by decide +kernel
theorem d_304_10 : m_dn M_304 10 (.aload_n 0) 1 11 := by decide +kernel
theorem d_304_11 : m_dn M_304 11 (.getfield 140) 3 14 := by decide +kernel
theorem d_304_14 : m_dn M_304 14 (.iload 6) 2 16 := by decide +kernel
theorem d_304_16 : m_dn M_304 16 (.iconst 0) 1 17 := by decide +kernel
theorem d_304_17 : m_dn M_304 17 (.iastore) 1 18 := by decide +kernel
theorem d_304_18 : m_dn M_304 18 (.iinc 6 1) 3 21 := by decide +kernel
theorem d_304_21 : m_dn M_304 21 (.goto (-18)) 3 24 := by decide +kernel
theorem d_304_24 : m_dn M_304 24 (.aload_n 0) 1 25 := by decide +kernel
theorem d_304_25 : m_dn M_304 25 (.getfield 140) 3 28 := by decide +kernel
theorem d_304_28 : m_dn M_304 28 (.iconst 0) 1 29 := by decide +kernel
theorem d_304_29 : m_dn M_304 29 (.iload_n 1) 1 30 := by decide +kernel
theorem d_304_3 : m_dn M_304 3 (.iload 6) 2 5 := by decide +kernel
theorem d_304_30 : m_dn M_304 30 (.iastore) 1 31 := by decide +kernel
theorem d_304_31 : m_dn M_304 31 (.aload_n 0) 1 32 := by decide +kernel
theorem d_304_32 : m_dn M_304 32 (.getfield 140) 3 35 := by decide +kernel
theorem d_304_35 : m_dn M_304 35 (.iconst 1) 1 36 := by decide +kernel
theorem d_304_36 : m_dn M_304 36 (.iload_n 2) 1 37 := by decide +kernel
theorem d_304_37 : m_dn M_304 37 (.iastore) 1 38 := by decide +kernel
theorem d_304_38 : m_dn M_304 38 (.aload_n 0) 1 39 := by decide +kernel
theorem d_304_39 : m_dn M_304 39 (.getfield 140) 3 42 := by decide +kernel
theorem d_304_42 : m_dn M_304 42 (.iconst 2) 1 43 := by decide +kernel
theorem d_304_43 : m_dn M_304 43 (.iload_n 3) 1 44 := by decide +kernel
theorem d_304_44 : m_dn M_304 44 (.iastore) 1 45 := by decide +kernel
theorem d_304_45 : m_dn M_304 45 (.aload_n 0) 1 46 := by decide +kernel
theorem d_304_46 : m_dn M_304 46 (.getfield 140) 3 49 := by decide +kernel
theorem d_304_49 : m_dn M_304 49 (.iconst 3) 1 50 := by decide +kernel
theorem d_304_5 : m_dn M_304 5 (.bipush 22) 2 7 := by decide +kernel
theorem d_304_50 : m_dn M_304 50 (.iload 4) 2 52 := by decide +kernel
theorem d_304_52 : m_dn M_304 52 (.iastore) 1 53 := by decide +kernel
theorem d_304_53 : m_dn M_304 53 (.aload_n 0) 1 54 := by decide +kernel
theorem d_304_54 : m_dn M_304 54 (.getfield 140) 3 57 := by decide +kernel
theorem d_304_57 : m_dn M_304 57 (.iconst 4) 1 58 := by decide +kernel
theorem d_304_58 : m_dn M_304 58 (.iload 5) 2 60 := by decide +kernel
theorem d_304_60 : m_dn M_304 60 (.iconst 4) 1 61 := by decide +kernel
theorem d_304_61 : m_dn M_304 61 (.idiv) 1 62 := by decide +kernel
theorem d_304_62 : m_dn M_304 62 (.iastore) 1 63 := by decide +kernel
theorem d_304_63 : m_dn M_304 63 (.aload_n 0) 1 64 := by decide +kernel
theorem d_304_64 : m_dn M_304 64 (.getfield 140) 3 67 := by decide +kernel
theorem d_304_67 : m_dn M_304 67 (.iconst 5) 1 68 := by decide +kernel
theorem d_304_68 : m_dn M_304 68 (.iload 5) 2 70 := by decide +kernel
theorem d_304_7 : m_dn M_304 7 (.if_icmp .ge 17) 3 10 := by decide +kernel
theorem d_304_70 : m_dn M_304 70 (.iconst 4) 1 71 := by decide +kernel
theorem d_304_71 : m_dn M_304 71 (.irem) 1 72 := by decide +kernel
theorem d_304_72 : m_dn M_304 72 (.iastore) 1 73 := by decide +kernel
theorem d_304_73 : m_dn M_304 73 (.return_) 1 74 := by decide +kernel
theorem d_305_0 : m_dn M_305 0 (.aload_n 0) 1 1 := by decide +kernel
theorem d_305_1 : m_dn M_305 1 (.getfield 533) 3 4 := by decide +kernel
theorem d_305_20 : m_dn M_305 20 (.iconst 0) 1 21 := by decide +kernel
theorem d_305_21 : m_dn M_305 21 (.istore_n 1) 1 22 := by decide +kernel
theorem d_305_22 : m_dn M_305 22 (.iload_n 1) 1 23 := by decide +kernel
theorem d_305_23 : m_dn M_305 23 (.bipush 22) 2 25 := by decide +kernel
theorem d_305_25 : m_dn M_305 25 (.if_icmp .ge 29) 3 28 := by decide +kernel
theorem d_305_28 : m_dn M_305 28 (.aload_n 0) 1 29 := by decide +kernel
theorem d_305_29 : m_dn M_305 29 (.getfield 137) 3 32 := by decide +kernel
theorem d_305_32 : m_dn M_305 32 (.bipush 22) 2 34 := by decide +kernel
theorem d_305_34 : m_dn M_305 34 (.aload_n 0) 1 35 := by decide +kernel
theorem d_305_35 : m_dn M_305 35 (.getfield 533) 3 38 := by decide +kernel
theorem d_305_38 : m_dn M_305 38 (.imul) 1 39 := by decide +kernel
theorem d_305_39 : m_dn M_305 39 (.iload_n 1) 1 40 := by decide +kernel
theorem d_305_4 : m_dn M_305 4 (.bipush 100) 2 6 := by decide +kernel
theorem d_305_40 : m_dn M_305 40 (.iadd) 1 41 := by decide +kernel
theorem d_305_41 : m_dn M_305 41 (.aload_n 0) 1 42 := by decide +kernel
theorem d_305_42 : m_dn M_305 42 (.getfield 140) 3 45 := by decide +kernel
theorem d_305_45 : m_dn M_305 45 (.iload_n 1) 1 46 := by decide +kernel
theorem d_305_46 : m_dn M_305 46 (.iaload) 1 47 := by decide +kernel
theorem d_305_47 : m_dn M_305 47 (.iastore) 1 48 := by decide +kernel
theorem d_305_48 : m_dn M_305 48 (.iinc 1 1) 3 51 := by decide +kernel
theorem d_305_51 : m_dn M_305 51 (.goto (-29)) 3 54 := by decide +kernel
theorem d_305_54 : m_dn M_305 54 (.aload_n 0) 1 55 := by decide +kernel
theorem d_305_55 : m_dn M_305 55 (.dup) 1 56 := by decide +kernel
theorem d_305_56 : m_dn M_305 56 (.getfield 533) 3 59 := by decide +kernel
theorem d_305_59 : m_dn M_305 59 (.iconst 1) 1 60 := by decide +kernel
theorem d_305_6 : m_dn M_305 6 (.if_icmp .ne 14) 3 9 := by decide +kernel
theorem d_305_60 : m_dn M_305 60 (.iadd) 1 61 := by decide +kernel
theorem d_305_61 : m_dn M_305 61 (.putfield 533) 3 64 := by decide +kernel
theorem d_305_64 : m_dn M_305 64 (.return_) 1 65 := by decide +kernel
theorem d_328_0 : m_dn M_328 0 (.aload_n 0) 1 1 := by decide +kernel
theorem d_328_1 : m_dn M_328 1 (.iconst 0) 1 2 := by decide +kernel
theorem d_328_10 : m_dn M_328 10 (.iconst 1) 1 11 := by decide +kernel
theorem d_328_102 : m_dn M_328 102 (.iconst 5) 1 103 := by decide +kernel
theorem d_328_103 : m_dn M_328 103 (.iload_n 1) 1 104 := by decide +kernel
theorem d_328_104 : m_dn M_328 104 (.iastore) 1 105 := by decide +kernel
theorem d_328_105 : m_dn M_328 105 (.aload_n 0) 1 106 := by decide +kernel
theorem d_328_106 : m_dn M_328 106 (.invokevirtual 530) 3 109 := by decide +kernel
theorem d_328_109 : m_dn M_328 109 (.iinc 3 1) 3 112 := by decide +kernel
theorem d_328_11 : m_dn M_328 11 (.if_icmp .gt 31) 3 14 := by decide +kernel
theorem d_328_112 : m_dn M_328 112 (.goto (-51)) 3 115 := by decide +kernel
theorem d_328_115 : m_dn M_328 115 (.aload_n 0) 1 116 := by decide +kernel
theorem d_328_116 : m_dn M_328 116 (.getfield 581) 3 119 := by decide +kernel
theorem d_328_119 : m_dn M_328 119 (.ireturn) 1 120 := by decide +kernel
theorem d_328_14 : m_dn M_328 14 (.iload_n 2) 1 15 := by decide +kernel
theorem d_328_15 : m_dn M_328 15 (.ifCond .lt 27) 3 18 := by decide +kernel
theorem d_328_18 : m_dn M_328 18 (.iload_n 2) 1 19 := by decide +kernel
theorem d_328_19 : m_dn M_328 19 (.iload_n 1) 1 20 := by decide +kernel
theorem d_328_2 : m_dn M_328 2 (.putfield 155) 3 5 := by decide +kernel
theorem d_328_20 : m_dn M_328 20 (.ifCond .ne 8) 3 23 := by decide +kernel
theorem d_328_23 : m_dn M_328 23 (.bipush 31) 2 25 := by decide +kernel
theorem d_328_25 : m_dn M_328 25 (.goto 5) 3 28 := by decide +kernel
theorem d_328_28 : m_dn M_328 28 (.bipush 7) 2 30 := by decide +kernel
theorem d_328_30 : m_dn M_328 30 (.if_icmp .gt 12) 3 33 := by decide +kernel
theorem d_328_33 : m_dn M_328 33 (.aload_n 0) 1 34 := by decide +kernel
theorem d_328_34 : m_dn M_328 34 (.getfield 581) 3 37 := by decide +kernel
theorem d_328_37 : m_dn M_328 37 (.bipush 60) 2 39 := by decide +kernel
theorem d_328_39 : m_dn M_328 39 (.if_icmp .ne 5) 3 42 := by decide +kernel
theorem d_328_42 : m_dn M_328 42 (.iconst (-1)) 1 43 := by decide +kernel
theorem d_328_43 : m_dn M_328 43 (.ireturn) 1 44 := by decide +kernel
theorem d_328_44 : m_dn M_328 44 (.aload_n 0) 1 45 := by decide +kernel
theorem d_328_45 : m_dn M_328 45 (.dup) 1 46 := by decide +kernel
theorem d_328_46 : m_dn M_328 46 (.getfield 581) 3 49 := by decide +kernel
theorem d_328_49 : m_dn M_328 49 (.iconst 1) 1 50 := by decide +kernel
theorem d_328_5 : m_dn M_328 5 (.iload_n 1) 1 6 := by decide +kernel
theorem d_328_50 : m_dn M_328 50 (.iadd) 1 51 := by decide +kernel
theorem d_328_51 : m_dn M_328 51 (.putfield 581) 3 54 := by decide +kernel
theorem d_328_54 : m_dn M_328 54 (.aload_n 0) 1 55 := by decide +kernel
theorem d_328_55 : m_dn M_328 55 (.iconst 0) 1 56 := by decide +kernel
theorem d_328_56 : m_dn M_328 56 (.putfield 578) 3 59 := by decide +kernel
theorem d_328_59 : m_dn M_328 59 (.iconst 1) 1 60 := by decide +kernel
theorem d_328_6 : m_dn M_328 6 (.ifCond .lt 36) 3 9 := by decide +kernel
theorem d_328_60 : m_dn M_328 60 (.istore_n 3) 1 61 := by decide +kernel
theorem d_328_61 : m_dn M_328 61 (.iload_n 3) 1 62 := by decide +kernel
theorem d_328_62 : m_dn M_328 62 (.bipush 7) 2 64 := by decide +kernel
theorem d_328_64 : m_dn M_328 64 (.if_icmp .ge 51) 3 67 := by decide +kernel
theorem d_328_67 : m_dn M_328 67 (.aload_n 0) 1 68 := by decide +kernel
theorem d_328_68 : m_dn M_328 68 (.getfield 35) 3 71 := by decide +kernel
theorem d_328_71 : m_dn M_328 71 (.iload_n 3) 1 72 := by decide +kernel
theorem d_328_72 : m_dn M_328 72 (.baload) 1 73 := by decide +kernel
theorem d_328_73 : m_dn M_328 73 (.ifCond .ne 6) 3 76 := by decide +kernel
theorem d_328_79 : m_dn M_328 79 (.aload_n 0) 1 80 := by decide +kernel
theorem d_328_80 : m_dn M_328 80 (.iconst 2) 1 81 := by decide +kernel
theorem d_328_81 : m_dn M_328 81 (.iconst 0) 1 82 := by decide +kernel
theorem d_328_82 : m_dn M_328 82 (.iload_n 3) 1 83 := by decide +kernel
theorem d_328_83 : m_dn M_328 83 (.aload_n 0) 1 84 := by decide +kernel
theorem d_328_84 : m_dn M_328 84 (.getfield 581) 3 87 := by decide +kernel
theorem d_328_87 : m_dn M_328 87 (.iconst 0) 1 88 := by decide +kernel
theorem d_328_88 : m_dn M_328 88 (.invokevirtual 526) 3 91 := by decide +kernel
theorem d_328_9 : m_dn M_328 9 (.iload_n 1) 1 10 := by decide +kernel
theorem d_328_91 : m_dn M_328 91 (.aload_n 0) 1 92 := by decide +kernel
theorem d_328_92 : m_dn M_328 92 (.getfield 140) 3 95 := by decide +kernel
theorem d_328_95 : m_dn M_328 95 (.iconst 4) 1 96 := by decide +kernel
theorem d_328_96 : m_dn M_328 96 (.iload_n 2) 1 97 := by decide +kernel
theorem d_328_97 : m_dn M_328 97 (.iastore) 1 98 := by decide +kernel
theorem d_328_98 : m_dn M_328 98 (.aload_n 0) 1 99 := by decide +kernel
theorem d_328_99 : m_dn M_328 99 (.getfield 140) 3 102 := by decide +kernel
def f_q (a b : Int32) : List Value := [.int 0, .ref 584, .int 0, .int (-1), .int 0, .int 0, .int 0, .int 0, .int 0, .int 0, .int 0, .int 0, .int 0, .int 0, .int 0, .int 0, .int 0, .int 0, .int 0, .int 0, .int 0, .ref 585, .ref 586, .int 0, .int 0, .int 0, .int 0, .int 0, .int 0, .int 0, .int 0, .int 0, .ref 587, .ref 588, .ref 589, .ref 590, .int 0, .int a, .int 0, .int 0, .ref 591, .ref 592, .ref 593, .ref 594, .ref 595, .ref 596, .ref 597, .ref 598, .ref 599, .ref 600, .ref 601, .ref 602, .ref 603, .ref 604, .ref 605, .ref 606, .ref 607, .ref 608, .int 0, .ref 609, .ref 610, .ref 611, .ref 612, .ref 613, .ref 614, .ref 615, .ref 616, .ref 617, .ref 618, .ref 619, .int 0, .int 0, .ref 620, .ref 621, .int 0, .ref 622, .ref 623, .int b, .ref 624, .ref 625, .int 0, .int 0, .int 0, .ref 626, .int 0, .int 0, .int 0, .int 0, .ref 627, .ref 628, .ref 629, .int 0]
def l_Q : List (Nat × Nat × Nat) := [(625, 0, 22), (624, 0, 2200)]
def g_Q : List (Nat × mM) := [(591, .inl (4, 7, [(6, .int 1), (5, .int 1), (4, .int 1), (3, .int 1), (2, .int 1), (1, .int 1)]))]
theorem wfQ : m_wf 583 l_Q g_Q = true := by decide
theorem l_blank {a b t u v n k : Int32} : ∀ (d e : Nat) (w : List mM), m_FW 583 14 (f_q a b) l_Q g_Q w → e + d = 22 → m_Rq M_304 (3, [(6, .int (Int32.ofNat e)), (0, .ref 583), (1, .int t), (2, .int u), (3, .int v), (4, .int n), (5, .int k)], [], w) (fun v w => v = none ∧ m_FW 583 14 (f_q a b) l_Q g_Q w) 0 0 0 0 := by
  intro d
  induction d with
  | zero =>
    intro e w h he
    refine m_Rq.n0 (x_iload d_304_3 rfl) ?_
    refine m_Rq.n0 (x_bipush (z := 22) d_304_5 (by decide)) ?_
    refine m_Rq.n0 (x_ict d_304_7 rfl (m_c2n (a := e) (b := 22) (by omega) (by omega) (decide_eq_true (by omega)))) ?_
    refine m_Rq.n0 (x_aload_n d_304_24 rfl) ?_
    refine m_Rq.n0 (x_getf d_304_25 rfl h.2.1 rfl) ?_
    refine m_Rq.n0 (x_iconst (z := 0) d_304_28 (by decide)) ?_
    refine m_Rq.n0 (x_iload_n d_304_29 rfl) ?_
    refine m_Rq.fwI (j := 0) d_304_30 wfQ h 0 rfl (by decide) (by decide) (by decide) (fun w h => ?_)
    refine m_Rq.n0 (x_aload_n d_304_31 rfl) ?_
    refine m_Rq.n0 (x_getf d_304_32 rfl h.2.1 rfl) ?_
    refine m_Rq.n0 (x_iconst (z := 1) d_304_35 (by decide)) ?_
    refine m_Rq.n0 (x_iload_n d_304_36 rfl) ?_
    refine m_Rq.fwI (j := 1) d_304_37 wfQ h 0 rfl (by decide) (by decide) (by decide) (fun w h => ?_)
    refine m_Rq.n0 (x_aload_n d_304_38 rfl) ?_
    refine m_Rq.n0 (x_getf d_304_39 rfl h.2.1 rfl) ?_
    refine m_Rq.n0 (x_iconst (z := 2) d_304_42 (by decide)) ?_
    refine m_Rq.n0 (x_iload_n d_304_43 rfl) ?_
    refine m_Rq.fwI (j := 2) d_304_44 wfQ h 0 rfl (by decide) (by decide) (by decide) (fun w h => ?_)
    refine m_Rq.n0 (x_aload_n d_304_45 rfl) ?_
    refine m_Rq.n0 (x_getf d_304_46 rfl h.2.1 rfl) ?_
    refine m_Rq.n0 (x_iconst (z := 3) d_304_49 (by decide)) ?_
    refine m_Rq.n0 (x_iload d_304_50 rfl) ?_
    refine m_Rq.fwI (j := 3) d_304_52 wfQ h 0 rfl (by decide) (by decide) (by decide) (fun w h => ?_)
    refine m_Rq.n0 (x_aload_n d_304_53 rfl) ?_
    refine m_Rq.n0 (x_getf d_304_54 rfl h.2.1 rfl) ?_
    refine m_Rq.n0 (x_iconst (z := 4) d_304_57 (by decide)) ?_
    refine m_Rq.n0 (x_iload d_304_58 rfl) ?_
    refine m_Rq.n0 (x_iconst (z := 4) d_304_60 (by decide)) ?_
    refine m_Rq.n0 (x_idiv d_304_61 (by decide) rfl) ?_
    refine m_Rq.fwI (j := 4) d_304_62 wfQ h 0 rfl (by decide) (by decide) (by decide) (fun w h => ?_)
    refine m_Rq.n0 (x_aload_n d_304_63 rfl) ?_
    refine m_Rq.n0 (x_getf d_304_64 rfl h.2.1 rfl) ?_
    refine m_Rq.n0 (x_iconst (z := 5) d_304_67 (by decide)) ?_
    refine m_Rq.n0 (x_iload d_304_68 rfl) ?_
    refine m_Rq.n0 (x_iconst (z := 4) d_304_70 (by decide)) ?_
    refine m_Rq.n0 (x_irem d_304_71 (by decide) rfl) ?_
    refine m_Rq.fwI (j := 5) d_304_72 wfQ h 0 rfl (by decide) (by decide) (by decide) (fun w h => ?_)
    refine m_Rq.vr d_304_73 rfl ?_
    exact ⟨rfl, h⟩
  | succ d ih =>
    intro e w h he
    refine m_Rq.n0 (x_iload d_304_3 rfl) ?_
    refine m_Rq.n0 (x_bipush (z := 22) d_304_5 (by decide)) ?_
    refine m_Rq.n0 (x_icf d_304_7 rfl (m_c2n (a := e) (b := 22) (by omega) (by omega) (decide_eq_false (by omega)))) ?_
    refine m_Rq.n0 (x_aload_n d_304_10 rfl) ?_
    refine m_Rq.n0 (x_getf d_304_11 rfl h.2.1 rfl) ?_
    refine m_Rq.n0 (x_iload d_304_14 rfl) ?_
    refine m_Rq.n0 (x_iconst (z := 0) d_304_16 (by decide)) ?_
    refine m_Rq.fwI d_304_17 wfQ h 0 rfl (m_n_neg (by omega)) (m_n_cl (by omega)) (by omega) (fun w h => ?_)
    refine m_Rq.n0 (x_iinc (z := Int32.ofNat (e + 1)) d_304_18 rfl rfl (m_n_inc _) (show m_put1 _ _ _ = [(6, _), (0, _), (1, _), (2, _), (3, _), (4, _), (5, _)] from rfl)) ?_
    refine m_Rq.n0 (x_goto d_304_21 rfl) ?_
    exact ih (e + 1) w h (by omega)
theorem s_blank {a b t u v n k : Int32} {w : List mM} (h : m_FW 583 14 (f_q a b) l_Q g_Q w) : m_Rq M_304 (m_ent M_304 [.ref 583, .int t, .int u, .int v, .int n, .int k] w) (fun v w => v = none ∧ m_FW 583 14 (f_q a b) l_Q g_Q w) 0 0 0 0 := by
  show m_Rq M_304 (0, [(0, .ref 583), (1, .int t), (2, .int u), (3, .int v), (4, .int n), (5, .int k)], [], w) _ 0 0 0 0
  refine m_Rq.n0 (x_iconst (z := 0) d_304_0 (by decide)) ?_
  refine m_Rq.n0 (x_istore d_304_1 rfl (show m_put1 _ _ _ = [(6, _), (0, _), (1, _), (2, _), (3, _), (4, _), (5, _)] from rfl)) ?_
  exact l_blank 22 0 w h rfl
theorem l_post {a : Int32} {m : Nat} (hm : m < 100) : ∀ (d e : Nat) (w : List mM), m_FW 583 14 (f_q a (Int32.ofNat m)) l_Q g_Q w → e + d = 22 → m_Rq M_305 (22, [(1, .int (Int32.ofNat e)), (0, .ref 583)], [], w) (fun v w => v = none ∧ m_FW 583 14 (f_q a (Int32.ofNat (m + 1))) l_Q g_Q w) 0 0 0 0 := by
  intro d
  induction d with
  | zero =>
    intro e w h he
    refine m_Rq.n0 (x_iload_n d_305_22 rfl) ?_
    refine m_Rq.n0 (x_bipush (z := 22) d_305_23 (by decide)) ?_
    refine m_Rq.n0 (x_ict d_305_25 rfl (m_c2n (a := e) (b := 22) (by omega) (by omega) (decide_eq_true (by omega)))) ?_
    refine m_Rq.n0 (x_aload_n d_305_54 rfl) ?_
    refine m_Rq.n0 (x_dup d_305_55 rfl) ?_
    refine m_Rq.n0 (x_getf d_305_56 rfl h.2.1 rfl) ?_
    refine m_Rq.n0 (x_iconst (z := 1) d_305_59 (by decide)) ?_
    refine m_Rq.n0 (x_iadd (z := Int32.ofNat (m + 1)) d_305_60 (m_n_add _ _)) ?_
    refine m_Rq.fwP (fs' := f_q a (Int32.ofNat (m + 1))) d_305_61 wfQ h rfl rfl (by decide) rfl rfl rfl rfl (fun w h => ?_)
    refine m_Rq.vr d_305_64 rfl ?_
    exact ⟨rfl, h⟩
  | succ d ih =>
    intro e w h he
    refine m_Rq.n0 (x_iload_n d_305_22 rfl) ?_
    refine m_Rq.n0 (x_bipush (z := 22) d_305_23 (by decide)) ?_
    refine m_Rq.n0 (x_icf d_305_25 rfl (m_c2n (a := e) (b := 22) (by omega) (by omega) (decide_eq_false (by omega)))) ?_
    refine m_Rq.n0 (x_aload_n d_305_28 rfl) ?_
    refine m_Rq.n0 (x_getf d_305_29 rfl h.2.1 rfl) ?_
    refine m_Rq.n0 (x_bipush (z := 22) d_305_32 (by decide)) ?_
    refine m_Rq.n0 (x_aload_n d_305_34 rfl) ?_
    refine m_Rq.n0 (x_getf d_305_35 rfl h.2.1 rfl) ?_
    refine m_Rq.n0 (x_imul (z := Int32.ofNat (22 * m)) d_305_38 (m_n_mul _ _)) ?_
    refine m_Rq.n0 (x_iload_n d_305_39 rfl) ?_
    refine m_Rq.n0 (x_iadd (z := Int32.ofNat ((22 * m) + e)) d_305_40 (m_n_add _ _)) ?_
    refine m_Rq.n0 (x_aload_n d_305_41 rfl) ?_
    refine m_Rq.n0 (x_getf d_305_42 rfl h.2.1 rfl) ?_
    refine m_Rq.n0 (x_iload_n d_305_45 rfl) ?_
    refine m_Rq.fwL d_305_46 h 0 rfl (m_n_neg (by omega)) (m_n_cl (by omega)) (by omega) (fun z => ?_)
    refine m_Rq.fwI d_305_47 wfQ h 1 rfl (m_n_neg (by omega)) (m_n_cl (by omega)) (by omega) (fun w h => ?_)
    refine m_Rq.n0 (x_iinc (z := Int32.ofNat (e + 1)) d_305_48 rfl rfl (m_n_inc _) (show m_put1 _ _ _ = [(1, _), (0, _)] from rfl)) ?_
    refine m_Rq.n0 (x_goto d_305_51 rfl) ?_
    exact ih (e + 1) w h (by omega)
theorem s_post {a : Int32} {m : Nat} (hm : m < 100) {w : List mM} (h : m_FW 583 14 (f_q a (Int32.ofNat m)) l_Q g_Q w) : m_Rq M_305 (m_ent M_305 [.ref 583] w) (fun v w => v = none ∧ m_FW 583 14 (f_q a (Int32.ofNat (m + 1))) l_Q g_Q w) 0 0 0 0 := by
  show m_Rq M_305 (0, [(0, .ref 583)], [], w) _ 0 0 0 0
  refine m_Rq.n0 (x_aload_n d_305_0 rfl) ?_
  refine m_Rq.n0 (x_getf d_305_1 rfl h.2.1 rfl) ?_
  refine m_Rq.n0 (x_bipush (z := 100) d_305_4 (by decide)) ?_
  refine m_Rq.n0 (x_ict d_305_6 rfl (m_c2n (a := m) (b := 100) (by omega) (by omega) (decide_eq_true (by omega)))) ?_
  refine m_Rq.n0 (x_iconst (z := 0) d_305_20 (by decide)) ?_
  refine m_Rq.n0 (x_istore_n d_305_21 rfl (show m_put1 _ _ _ = [(1, _), (0, _)] from rfl)) ?_
  exact l_post hm 22 0 w h rfl
theorem e_purge_0 {p : Int32} (h0 : ¬ p < 0) (h1 : ¬ 31 < p) {w : List mM} (h : m_FW 583 14 (f_q 0 0) l_Q g_Q w) : m_Rq M_328 (m_ent M_328 [.ref 583, .int 0, .int p] w) (fun v _ => v = some (.int 1)) 0 0 10 1000 := by
  show m_Rq M_328 (0, [(0, .ref 583), (1, .int 0), (2, .int p)], [], w) _ 0 0 10 1000
  refine m_Rq.n0 (x_aload_n d_328_0 rfl) ?_
  refine m_Rq.n0 (x_iconst (z := 0) d_328_1 (by decide)) ?_
  refine m_Rq.n0 (x_putfs d_328_2 rfl h.2.1 rfl rfl (by decide) rfl rfl rfl) ?_
  refine m_Rq.n0 (x_iload_n d_328_5 rfl) ?_
  refine m_Rq.n0 (x_iff d_328_6 rfl (by decide)) ?_
  refine m_Rq.n0 (x_iload_n d_328_9 rfl) ?_
  refine m_Rq.n0 (x_iconst (z := 1) d_328_10 (by decide)) ?_
  refine m_Rq.n0 (x_icf d_328_11 rfl (by decide)) ?_
  refine m_Rq.n0 (x_iload_n d_328_14 rfl) ?_
  refine m_Rq.n0 (x_iff d_328_15 rfl (decide_eq_false h0)) ?_
  refine m_Rq.n0 (x_iload_n d_328_18 rfl) ?_
  refine m_Rq.n0 (x_iload_n d_328_19 rfl) ?_
  refine m_Rq.n0 (x_iff d_328_20 rfl (by decide)) ?_
  refine m_Rq.n0 (x_bipush (z := 31) d_328_23 (by decide)) ?_
  refine m_Rq.n0 (x_goto d_328_25 rfl) ?_
  refine m_Rq.n0 (x_icf d_328_30 rfl (decide_eq_false h1)) ?_
  refine m_Rq.n0 (x_aload_n d_328_33 rfl) ?_
  refine m_Rq.n0 (x_getf d_328_34 rfl h.2.1 rfl) ?_
  refine m_Rq.n0 (x_bipush (z := 60) d_328_37 (by decide)) ?_
  refine m_Rq.n0 (x_ict d_328_39 rfl (by decide)) ?_
  refine m_Rq.n0 (x_aload_n d_328_44 rfl) ?_
  refine m_Rq.n0 (x_dup d_328_45 rfl) ?_
  refine m_Rq.n0 (x_getf d_328_46 rfl h.2.1 rfl) ?_
  refine m_Rq.n0 (x_iconst (z := 1) d_328_49 (by decide)) ?_
  refine m_Rq.n0 (x_iadd (z := 1) d_328_50 (by decide)) ?_
  refine m_Rq.fwP (fs' := f_q 1 0) d_328_51 wfQ h rfl rfl (by decide) rfl rfl rfl rfl (fun w h => ?_)
  refine m_Rq.n0 (x_aload_n d_328_54 rfl) ?_
  refine m_Rq.n0 (x_iconst (z := 0) d_328_55 (by decide)) ?_
  refine m_Rq.n0 (x_putfs d_328_56 rfl h.2.1 rfl rfl (by decide) rfl rfl rfl) ?_
  refine m_Rq.n0 (x_iconst (z := 1) d_328_59 (by decide)) ?_
  refine m_Rq.n0 (x_istore_n d_328_60 rfl (show m_put1 _ _ _ = [(3, _), (0, _), (1, _), (2, _)] from rfl)) ?_
  refine m_Rq.n0 (x_iload_n d_328_61 rfl) ?_
  refine m_Rq.n0 (x_bipush (z := 7) d_328_62 (by decide)) ?_
  refine m_Rq.n0 (x_icf d_328_64 rfl (by decide)) ?_
  refine m_Rq.n0 (x_aload_n d_328_67 rfl) ?_
  refine m_Rq.n0 (x_getf d_328_68 rfl h.2.1 rfl) ?_
  refine m_Rq.n0 (x_iload_n d_328_71 rfl) ?_
  refine m_Rq.n0 (x_baload (j := 1) d_328_72 (h.g 0 rfl) rfl (by decide) (by decide) (by decide) rfl) ?_
  refine m_Rq.n0 (x_ift d_328_73 rfl (by decide)) ?_
  refine m_Rq.n0 (x_aload_n d_328_79 rfl) ?_
  refine m_Rq.n0 (x_iconst (z := 2) d_328_80 (by decide)) ?_
  refine m_Rq.n0 (x_iconst (z := 0) d_328_81 (by decide)) ?_
  refine m_Rq.n0 (x_iload_n d_328_82 rfl) ?_
  refine m_Rq.n0 (x_aload_n d_328_83 rfl) ?_
  refine m_Rq.n0 (x_getf d_328_84 rfl h.2.1 rfl) ?_
  refine m_Rq.n0 (x_iconst (z := 0) d_328_87 (by decide)) ?_
  refine m_Rq.callQ (x_cv (n := 119) d_328_88 rfl q_304 (m_isRecv_of rfl h.2.1) rfl rfl h.1 rfl) (s_blank h) rfl (fun w h => ?_) (by decide) (by decide)
  refine m_Rq.n0 (x_aload_n d_328_91 rfl) ?_
  refine m_Rq.n0 (x_getf d_328_92 rfl h.2.1 rfl) ?_
  refine m_Rq.n0 (x_iconst (z := 4) d_328_95 (by decide)) ?_
  refine m_Rq.n0 (x_iload_n d_328_96 rfl) ?_
  refine m_Rq.fwI (j := 4) d_328_97 wfQ h 0 rfl (by decide) (by decide) (by decide) (fun w h => ?_)
  refine m_Rq.n0 (x_aload_n d_328_98 rfl) ?_
  refine m_Rq.n0 (x_getf d_328_99 rfl h.2.1 rfl) ?_
  refine m_Rq.n0 (x_iconst (z := 5) d_328_102 (by decide)) ?_
  refine m_Rq.n0 (x_iload_n d_328_103 rfl) ?_
  refine m_Rq.fwI (j := 5) d_328_104 wfQ h 0 rfl (by decide) (by decide) (by decide) (fun w h => ?_)
  refine m_Rq.n0 (x_aload_n d_328_105 rfl) ?_
  refine m_Rq.callQ (x_cv (n := 119) d_328_106 rfl q_305 (m_isRecv_of rfl h.2.1) rfl rfl h.1 rfl) (s_post (m := 0) (by decide) h) rfl (fun w h => ?_) (by decide) (by decide)
  refine m_Rq.n0 (x_iinc (z := 2) d_328_109 rfl rfl (by decide) (show m_put1 _ _ _ = [(3, _), (0, _), (1, _), (2, _)] from rfl)) ?_
  refine m_Rq.n0 (x_goto d_328_112 rfl) ?_
  refine m_Rq.n0 (x_iload_n d_328_61 rfl) ?_
  refine m_Rq.n0 (x_bipush (z := 7) d_328_62 (by decide)) ?_
  refine m_Rq.n0 (x_icf d_328_64 rfl (by decide)) ?_
  refine m_Rq.n0 (x_aload_n d_328_67 rfl) ?_
  refine m_Rq.n0 (x_getf d_328_68 rfl h.2.1 rfl) ?_
  refine m_Rq.n0 (x_iload_n d_328_71 rfl) ?_
  refine m_Rq.n0 (x_baload (j := 2) d_328_72 (h.g 0 rfl) rfl (by decide) (by decide) (by decide) rfl) ?_
  refine m_Rq.n0 (x_ift d_328_73 rfl (by decide)) ?_
  refine m_Rq.n0 (x_aload_n d_328_79 rfl) ?_
  refine m_Rq.n0 (x_iconst (z := 2) d_328_80 (by decide)) ?_
  refine m_Rq.n0 (x_iconst (z := 0) d_328_81 (by decide)) ?_
  refine m_Rq.n0 (x_iload_n d_328_82 rfl) ?_
  refine m_Rq.n0 (x_aload_n d_328_83 rfl) ?_
  refine m_Rq.n0 (x_getf d_328_84 rfl h.2.1 rfl) ?_
  refine m_Rq.n0 (x_iconst (z := 0) d_328_87 (by decide)) ?_
  refine m_Rq.callQ (x_cv (n := 119) d_328_88 rfl q_304 (m_isRecv_of rfl h.2.1) rfl rfl h.1 rfl) (s_blank h) rfl (fun w h => ?_) (by decide) (by decide)
  refine m_Rq.n0 (x_aload_n d_328_91 rfl) ?_
  refine m_Rq.n0 (x_getf d_328_92 rfl h.2.1 rfl) ?_
  refine m_Rq.n0 (x_iconst (z := 4) d_328_95 (by decide)) ?_
  refine m_Rq.n0 (x_iload_n d_328_96 rfl) ?_
  refine m_Rq.fwI (j := 4) d_328_97 wfQ h 0 rfl (by decide) (by decide) (by decide) (fun w h => ?_)
  refine m_Rq.n0 (x_aload_n d_328_98 rfl) ?_
  refine m_Rq.n0 (x_getf d_328_99 rfl h.2.1 rfl) ?_
  refine m_Rq.n0 (x_iconst (z := 5) d_328_102 (by decide)) ?_
  refine m_Rq.n0 (x_iload_n d_328_103 rfl) ?_
  refine m_Rq.fwI (j := 5) d_328_104 wfQ h 0 rfl (by decide) (by decide) (by decide) (fun w h => ?_)
  refine m_Rq.n0 (x_aload_n d_328_105 rfl) ?_
  refine m_Rq.callQ (x_cv (n := 119) d_328_106 rfl q_305 (m_isRecv_of rfl h.2.1) rfl rfl h.1 rfl) (s_post (m := 1) (by decide) h) rfl (fun w h => ?_) (by decide) (by decide)
  refine m_Rq.n0 (x_iinc (z := 3) d_328_109 rfl rfl (by decide) (show m_put1 _ _ _ = [(3, _), (0, _), (1, _), (2, _)] from rfl)) ?_
  refine m_Rq.n0 (x_goto d_328_112 rfl) ?_
  refine m_Rq.n0 (x_iload_n d_328_61 rfl) ?_
  refine m_Rq.n0 (x_bipush (z := 7) d_328_62 (by decide)) ?_
  refine m_Rq.n0 (x_icf d_328_64 rfl (by decide)) ?_
  refine m_Rq.n0 (x_aload_n d_328_67 rfl) ?_
  refine m_Rq.n0 (x_getf d_328_68 rfl h.2.1 rfl) ?_
  refine m_Rq.n0 (x_iload_n d_328_71 rfl) ?_
  refine m_Rq.n0 (x_baload (j := 3) d_328_72 (h.g 0 rfl) rfl (by decide) (by decide) (by decide) rfl) ?_
  refine m_Rq.n0 (x_ift d_328_73 rfl (by decide)) ?_
  refine m_Rq.n0 (x_aload_n d_328_79 rfl) ?_
  refine m_Rq.n0 (x_iconst (z := 2) d_328_80 (by decide)) ?_
  refine m_Rq.n0 (x_iconst (z := 0) d_328_81 (by decide)) ?_
  refine m_Rq.n0 (x_iload_n d_328_82 rfl) ?_
  refine m_Rq.n0 (x_aload_n d_328_83 rfl) ?_
  refine m_Rq.n0 (x_getf d_328_84 rfl h.2.1 rfl) ?_
  refine m_Rq.n0 (x_iconst (z := 0) d_328_87 (by decide)) ?_
  refine m_Rq.callQ (x_cv (n := 119) d_328_88 rfl q_304 (m_isRecv_of rfl h.2.1) rfl rfl h.1 rfl) (s_blank h) rfl (fun w h => ?_) (by decide) (by decide)
  refine m_Rq.n0 (x_aload_n d_328_91 rfl) ?_
  refine m_Rq.n0 (x_getf d_328_92 rfl h.2.1 rfl) ?_
  refine m_Rq.n0 (x_iconst (z := 4) d_328_95 (by decide)) ?_
  refine m_Rq.n0 (x_iload_n d_328_96 rfl) ?_
  refine m_Rq.fwI (j := 4) d_328_97 wfQ h 0 rfl (by decide) (by decide) (by decide) (fun w h => ?_)
  refine m_Rq.n0 (x_aload_n d_328_98 rfl) ?_
  refine m_Rq.n0 (x_getf d_328_99 rfl h.2.1 rfl) ?_
  refine m_Rq.n0 (x_iconst (z := 5) d_328_102 (by decide)) ?_
  refine m_Rq.n0 (x_iload_n d_328_103 rfl) ?_
  refine m_Rq.fwI (j := 5) d_328_104 wfQ h 0 rfl (by decide) (by decide) (by decide) (fun w h => ?_)
  refine m_Rq.n0 (x_aload_n d_328_105 rfl) ?_
  refine m_Rq.callQ (x_cv (n := 119) d_328_106 rfl q_305 (m_isRecv_of rfl h.2.1) rfl rfl h.1 rfl) (s_post (m := 2) (by decide) h) rfl (fun w h => ?_) (by decide) (by decide)
  refine m_Rq.n0 (x_iinc (z := 4) d_328_109 rfl rfl (by decide) (show m_put1 _ _ _ = [(3, _), (0, _), (1, _), (2, _)] from rfl)) ?_
  refine m_Rq.n0 (x_goto d_328_112 rfl) ?_
  refine m_Rq.n0 (x_iload_n d_328_61 rfl) ?_
  refine m_Rq.n0 (x_bipush (z := 7) d_328_62 (by decide)) ?_
  refine m_Rq.n0 (x_icf d_328_64 rfl (by decide)) ?_
  refine m_Rq.n0 (x_aload_n d_328_67 rfl) ?_
  refine m_Rq.n0 (x_getf d_328_68 rfl h.2.1 rfl) ?_
  refine m_Rq.n0 (x_iload_n d_328_71 rfl) ?_
  refine m_Rq.n0 (x_baload (j := 4) d_328_72 (h.g 0 rfl) rfl (by decide) (by decide) (by decide) rfl) ?_
  refine m_Rq.n0 (x_ift d_328_73 rfl (by decide)) ?_
  refine m_Rq.n0 (x_aload_n d_328_79 rfl) ?_
  refine m_Rq.n0 (x_iconst (z := 2) d_328_80 (by decide)) ?_
  refine m_Rq.n0 (x_iconst (z := 0) d_328_81 (by decide)) ?_
  refine m_Rq.n0 (x_iload_n d_328_82 rfl) ?_
  refine m_Rq.n0 (x_aload_n d_328_83 rfl) ?_
  refine m_Rq.n0 (x_getf d_328_84 rfl h.2.1 rfl) ?_
  refine m_Rq.n0 (x_iconst (z := 0) d_328_87 (by decide)) ?_
  refine m_Rq.callQ (x_cv (n := 119) d_328_88 rfl q_304 (m_isRecv_of rfl h.2.1) rfl rfl h.1 rfl) (s_blank h) rfl (fun w h => ?_) (by decide) (by decide)
  refine m_Rq.n0 (x_aload_n d_328_91 rfl) ?_
  refine m_Rq.n0 (x_getf d_328_92 rfl h.2.1 rfl) ?_
  refine m_Rq.n0 (x_iconst (z := 4) d_328_95 (by decide)) ?_
  refine m_Rq.n0 (x_iload_n d_328_96 rfl) ?_
  refine m_Rq.fwI (j := 4) d_328_97 wfQ h 0 rfl (by decide) (by decide) (by decide) (fun w h => ?_)
  refine m_Rq.n0 (x_aload_n d_328_98 rfl) ?_
  refine m_Rq.n0 (x_getf d_328_99 rfl h.2.1 rfl) ?_
  refine m_Rq.n0 (x_iconst (z := 5) d_328_102 (by decide)) ?_
  refine m_Rq.n0 (x_iload_n d_328_103 rfl) ?_
  refine m_Rq.fwI (j := 5) d_328_104 wfQ h 0 rfl (by decide) (by decide) (by decide) (fun w h => ?_)
  refine m_Rq.n0 (x_aload_n d_328_105 rfl) ?_
  refine m_Rq.callQ (x_cv (n := 119) d_328_106 rfl q_305 (m_isRecv_of rfl h.2.1) rfl rfl h.1 rfl) (s_post (m := 3) (by decide) h) rfl (fun w h => ?_) (by decide) (by decide)
  refine m_Rq.n0 (x_iinc (z := 5) d_328_109 rfl rfl (by decide) (show m_put1 _ _ _ = [(3, _), (0, _), (1, _), (2, _)] from rfl)) ?_
  refine m_Rq.n0 (x_goto d_328_112 rfl) ?_
  refine m_Rq.n0 (x_iload_n d_328_61 rfl) ?_
  refine m_Rq.n0 (x_bipush (z := 7) d_328_62 (by decide)) ?_
  refine m_Rq.n0 (x_icf d_328_64 rfl (by decide)) ?_
  refine m_Rq.n0 (x_aload_n d_328_67 rfl) ?_
  refine m_Rq.n0 (x_getf d_328_68 rfl h.2.1 rfl) ?_
  refine m_Rq.n0 (x_iload_n d_328_71 rfl) ?_
  refine m_Rq.n0 (x_baload (j := 5) d_328_72 (h.g 0 rfl) rfl (by decide) (by decide) (by decide) rfl) ?_
  refine m_Rq.n0 (x_ift d_328_73 rfl (by decide)) ?_
  refine m_Rq.n0 (x_aload_n d_328_79 rfl) ?_
  refine m_Rq.n0 (x_iconst (z := 2) d_328_80 (by decide)) ?_
  refine m_Rq.n0 (x_iconst (z := 0) d_328_81 (by decide)) ?_
  refine m_Rq.n0 (x_iload_n d_328_82 rfl) ?_
  refine m_Rq.n0 (x_aload_n d_328_83 rfl) ?_
  refine m_Rq.n0 (x_getf d_328_84 rfl h.2.1 rfl) ?_
  refine m_Rq.n0 (x_iconst (z := 0) d_328_87 (by decide)) ?_
  refine m_Rq.callQ (x_cv (n := 119) d_328_88 rfl q_304 (m_isRecv_of rfl h.2.1) rfl rfl h.1 rfl) (s_blank h) rfl (fun w h => ?_) (by decide) (by decide)
  refine m_Rq.n0 (x_aload_n d_328_91 rfl) ?_
  refine m_Rq.n0 (x_getf d_328_92 rfl h.2.1 rfl) ?_
  refine m_Rq.n0 (x_iconst (z := 4) d_328_95 (by decide)) ?_
  refine m_Rq.n0 (x_iload_n d_328_96 rfl) ?_
  refine m_Rq.fwI (j := 4) d_328_97 wfQ h 0 rfl (by decide) (by decide) (by decide) (fun w h => ?_)
  refine m_Rq.n0 (x_aload_n d_328_98 rfl) ?_
  refine m_Rq.n0 (x_getf d_328_99 rfl h.2.1 rfl) ?_
  refine m_Rq.n0 (x_iconst (z := 5) d_328_102 (by decide)) ?_
  refine m_Rq.n0 (x_iload_n d_328_103 rfl) ?_
  refine m_Rq.fwI (j := 5) d_328_104 wfQ h 0 rfl (by decide) (by decide) (by decide) (fun w h => ?_)
  refine m_Rq.n0 (x_aload_n d_328_105 rfl) ?_
  refine m_Rq.callQ (x_cv (n := 119) d_328_106 rfl q_305 (m_isRecv_of rfl h.2.1) rfl rfl h.1 rfl) (s_post (m := 4) (by decide) h) rfl (fun w h => ?_) (by decide) (by decide)
  refine m_Rq.n0 (x_iinc (z := 6) d_328_109 rfl rfl (by decide) (show m_put1 _ _ _ = [(3, _), (0, _), (1, _), (2, _)] from rfl)) ?_
  refine m_Rq.n0 (x_goto d_328_112 rfl) ?_
  refine m_Rq.n0 (x_iload_n d_328_61 rfl) ?_
  refine m_Rq.n0 (x_bipush (z := 7) d_328_62 (by decide)) ?_
  refine m_Rq.n0 (x_icf d_328_64 rfl (by decide)) ?_
  refine m_Rq.n0 (x_aload_n d_328_67 rfl) ?_
  refine m_Rq.n0 (x_getf d_328_68 rfl h.2.1 rfl) ?_
  refine m_Rq.n0 (x_iload_n d_328_71 rfl) ?_
  refine m_Rq.n0 (x_baload (j := 6) d_328_72 (h.g 0 rfl) rfl (by decide) (by decide) (by decide) rfl) ?_
  refine m_Rq.n0 (x_ift d_328_73 rfl (by decide)) ?_
  refine m_Rq.n0 (x_aload_n d_328_79 rfl) ?_
  refine m_Rq.n0 (x_iconst (z := 2) d_328_80 (by decide)) ?_
  refine m_Rq.n0 (x_iconst (z := 0) d_328_81 (by decide)) ?_
  refine m_Rq.n0 (x_iload_n d_328_82 rfl) ?_
  refine m_Rq.n0 (x_aload_n d_328_83 rfl) ?_
  refine m_Rq.n0 (x_getf d_328_84 rfl h.2.1 rfl) ?_
  refine m_Rq.n0 (x_iconst (z := 0) d_328_87 (by decide)) ?_
  refine m_Rq.callQ (x_cv (n := 119) d_328_88 rfl q_304 (m_isRecv_of rfl h.2.1) rfl rfl h.1 rfl) (s_blank h) rfl (fun w h => ?_) (by decide) (by decide)
  refine m_Rq.n0 (x_aload_n d_328_91 rfl) ?_
  refine m_Rq.n0 (x_getf d_328_92 rfl h.2.1 rfl) ?_
  refine m_Rq.n0 (x_iconst (z := 4) d_328_95 (by decide)) ?_
  refine m_Rq.n0 (x_iload_n d_328_96 rfl) ?_
  refine m_Rq.fwI (j := 4) d_328_97 wfQ h 0 rfl (by decide) (by decide) (by decide) (fun w h => ?_)
  refine m_Rq.n0 (x_aload_n d_328_98 rfl) ?_
  refine m_Rq.n0 (x_getf d_328_99 rfl h.2.1 rfl) ?_
  refine m_Rq.n0 (x_iconst (z := 5) d_328_102 (by decide)) ?_
  refine m_Rq.n0 (x_iload_n d_328_103 rfl) ?_
  refine m_Rq.fwI (j := 5) d_328_104 wfQ h 0 rfl (by decide) (by decide) (by decide) (fun w h => ?_)
  refine m_Rq.n0 (x_aload_n d_328_105 rfl) ?_
  refine m_Rq.callQ (x_cv (n := 119) d_328_106 rfl q_305 (m_isRecv_of rfl h.2.1) rfl rfl h.1 rfl) (s_post (m := 5) (by decide) h) rfl (fun w h => ?_) (by decide) (by decide)
  refine m_Rq.n0 (x_iinc (z := 7) d_328_109 rfl rfl (by decide) (show m_put1 _ _ _ = [(3, _), (0, _), (1, _), (2, _)] from rfl)) ?_
  refine m_Rq.n0 (x_goto d_328_112 rfl) ?_
  refine m_Rq.n0 (x_iload_n d_328_61 rfl) ?_
  refine m_Rq.n0 (x_bipush (z := 7) d_328_62 (by decide)) ?_
  refine m_Rq.n0 (x_ict d_328_64 rfl (by decide)) ?_
  refine m_Rq.n0 (x_aload_n d_328_115 rfl) ?_
  refine m_Rq.n0 (x_getf d_328_116 rfl h.2.1 rfl) ?_
  refine m_Rq.ir d_328_119 rfl rfl ?_
  exact rfl
theorem e_purge_1 {p : Int32} (h0 : ¬ p < 0) (h1 : ¬ 7 < p) {w : List mM} (h : m_FW 583 14 (f_q 0 0) l_Q g_Q w) : m_Rq M_328 (m_ent M_328 [.ref 583, .int 1, .int p] w) (fun v _ => v = some (.int 1)) 0 0 10 1000 := by
  show m_Rq M_328 (0, [(0, .ref 583), (1, .int 1), (2, .int p)], [], w) _ 0 0 10 1000
  refine m_Rq.n0 (x_aload_n d_328_0 rfl) ?_
  refine m_Rq.n0 (x_iconst (z := 0) d_328_1 (by decide)) ?_
  refine m_Rq.n0 (x_putfs d_328_2 rfl h.2.1 rfl rfl (by decide) rfl rfl rfl) ?_
  refine m_Rq.n0 (x_iload_n d_328_5 rfl) ?_
  refine m_Rq.n0 (x_iff d_328_6 rfl (by decide)) ?_
  refine m_Rq.n0 (x_iload_n d_328_9 rfl) ?_
  refine m_Rq.n0 (x_iconst (z := 1) d_328_10 (by decide)) ?_
  refine m_Rq.n0 (x_icf d_328_11 rfl (by decide)) ?_
  refine m_Rq.n0 (x_iload_n d_328_14 rfl) ?_
  refine m_Rq.n0 (x_iff d_328_15 rfl (decide_eq_false h0)) ?_
  refine m_Rq.n0 (x_iload_n d_328_18 rfl) ?_
  refine m_Rq.n0 (x_iload_n d_328_19 rfl) ?_
  refine m_Rq.n0 (x_ift d_328_20 rfl (by decide)) ?_
  refine m_Rq.n0 (x_bipush (z := 7) d_328_28 (by decide)) ?_
  refine m_Rq.n0 (x_icf d_328_30 rfl (decide_eq_false h1)) ?_
  refine m_Rq.n0 (x_aload_n d_328_33 rfl) ?_
  refine m_Rq.n0 (x_getf d_328_34 rfl h.2.1 rfl) ?_
  refine m_Rq.n0 (x_bipush (z := 60) d_328_37 (by decide)) ?_
  refine m_Rq.n0 (x_ict d_328_39 rfl (by decide)) ?_
  refine m_Rq.n0 (x_aload_n d_328_44 rfl) ?_
  refine m_Rq.n0 (x_dup d_328_45 rfl) ?_
  refine m_Rq.n0 (x_getf d_328_46 rfl h.2.1 rfl) ?_
  refine m_Rq.n0 (x_iconst (z := 1) d_328_49 (by decide)) ?_
  refine m_Rq.n0 (x_iadd (z := 1) d_328_50 (by decide)) ?_
  refine m_Rq.fwP (fs' := f_q 1 0) d_328_51 wfQ h rfl rfl (by decide) rfl rfl rfl rfl (fun w h => ?_)
  refine m_Rq.n0 (x_aload_n d_328_54 rfl) ?_
  refine m_Rq.n0 (x_iconst (z := 0) d_328_55 (by decide)) ?_
  refine m_Rq.n0 (x_putfs d_328_56 rfl h.2.1 rfl rfl (by decide) rfl rfl rfl) ?_
  refine m_Rq.n0 (x_iconst (z := 1) d_328_59 (by decide)) ?_
  refine m_Rq.n0 (x_istore_n d_328_60 rfl (show m_put1 _ _ _ = [(3, _), (0, _), (1, _), (2, _)] from rfl)) ?_
  refine m_Rq.n0 (x_iload_n d_328_61 rfl) ?_
  refine m_Rq.n0 (x_bipush (z := 7) d_328_62 (by decide)) ?_
  refine m_Rq.n0 (x_icf d_328_64 rfl (by decide)) ?_
  refine m_Rq.n0 (x_aload_n d_328_67 rfl) ?_
  refine m_Rq.n0 (x_getf d_328_68 rfl h.2.1 rfl) ?_
  refine m_Rq.n0 (x_iload_n d_328_71 rfl) ?_
  refine m_Rq.n0 (x_baload (j := 1) d_328_72 (h.g 0 rfl) rfl (by decide) (by decide) (by decide) rfl) ?_
  refine m_Rq.n0 (x_ift d_328_73 rfl (by decide)) ?_
  refine m_Rq.n0 (x_aload_n d_328_79 rfl) ?_
  refine m_Rq.n0 (x_iconst (z := 2) d_328_80 (by decide)) ?_
  refine m_Rq.n0 (x_iconst (z := 0) d_328_81 (by decide)) ?_
  refine m_Rq.n0 (x_iload_n d_328_82 rfl) ?_
  refine m_Rq.n0 (x_aload_n d_328_83 rfl) ?_
  refine m_Rq.n0 (x_getf d_328_84 rfl h.2.1 rfl) ?_
  refine m_Rq.n0 (x_iconst (z := 0) d_328_87 (by decide)) ?_
  refine m_Rq.callQ (x_cv (n := 119) d_328_88 rfl q_304 (m_isRecv_of rfl h.2.1) rfl rfl h.1 rfl) (s_blank h) rfl (fun w h => ?_) (by decide) (by decide)
  refine m_Rq.n0 (x_aload_n d_328_91 rfl) ?_
  refine m_Rq.n0 (x_getf d_328_92 rfl h.2.1 rfl) ?_
  refine m_Rq.n0 (x_iconst (z := 4) d_328_95 (by decide)) ?_
  refine m_Rq.n0 (x_iload_n d_328_96 rfl) ?_
  refine m_Rq.fwI (j := 4) d_328_97 wfQ h 0 rfl (by decide) (by decide) (by decide) (fun w h => ?_)
  refine m_Rq.n0 (x_aload_n d_328_98 rfl) ?_
  refine m_Rq.n0 (x_getf d_328_99 rfl h.2.1 rfl) ?_
  refine m_Rq.n0 (x_iconst (z := 5) d_328_102 (by decide)) ?_
  refine m_Rq.n0 (x_iload_n d_328_103 rfl) ?_
  refine m_Rq.fwI (j := 5) d_328_104 wfQ h 0 rfl (by decide) (by decide) (by decide) (fun w h => ?_)
  refine m_Rq.n0 (x_aload_n d_328_105 rfl) ?_
  refine m_Rq.callQ (x_cv (n := 119) d_328_106 rfl q_305 (m_isRecv_of rfl h.2.1) rfl rfl h.1 rfl) (s_post (m := 0) (by decide) h) rfl (fun w h => ?_) (by decide) (by decide)
  refine m_Rq.n0 (x_iinc (z := 2) d_328_109 rfl rfl (by decide) (show m_put1 _ _ _ = [(3, _), (0, _), (1, _), (2, _)] from rfl)) ?_
  refine m_Rq.n0 (x_goto d_328_112 rfl) ?_
  refine m_Rq.n0 (x_iload_n d_328_61 rfl) ?_
  refine m_Rq.n0 (x_bipush (z := 7) d_328_62 (by decide)) ?_
  refine m_Rq.n0 (x_icf d_328_64 rfl (by decide)) ?_
  refine m_Rq.n0 (x_aload_n d_328_67 rfl) ?_
  refine m_Rq.n0 (x_getf d_328_68 rfl h.2.1 rfl) ?_
  refine m_Rq.n0 (x_iload_n d_328_71 rfl) ?_
  refine m_Rq.n0 (x_baload (j := 2) d_328_72 (h.g 0 rfl) rfl (by decide) (by decide) (by decide) rfl) ?_
  refine m_Rq.n0 (x_ift d_328_73 rfl (by decide)) ?_
  refine m_Rq.n0 (x_aload_n d_328_79 rfl) ?_
  refine m_Rq.n0 (x_iconst (z := 2) d_328_80 (by decide)) ?_
  refine m_Rq.n0 (x_iconst (z := 0) d_328_81 (by decide)) ?_
  refine m_Rq.n0 (x_iload_n d_328_82 rfl) ?_
  refine m_Rq.n0 (x_aload_n d_328_83 rfl) ?_
  refine m_Rq.n0 (x_getf d_328_84 rfl h.2.1 rfl) ?_
  refine m_Rq.n0 (x_iconst (z := 0) d_328_87 (by decide)) ?_
  refine m_Rq.callQ (x_cv (n := 119) d_328_88 rfl q_304 (m_isRecv_of rfl h.2.1) rfl rfl h.1 rfl) (s_blank h) rfl (fun w h => ?_) (by decide) (by decide)
  refine m_Rq.n0 (x_aload_n d_328_91 rfl) ?_
  refine m_Rq.n0 (x_getf d_328_92 rfl h.2.1 rfl) ?_
  refine m_Rq.n0 (x_iconst (z := 4) d_328_95 (by decide)) ?_
  refine m_Rq.n0 (x_iload_n d_328_96 rfl) ?_
  refine m_Rq.fwI (j := 4) d_328_97 wfQ h 0 rfl (by decide) (by decide) (by decide) (fun w h => ?_)
  refine m_Rq.n0 (x_aload_n d_328_98 rfl) ?_
  refine m_Rq.n0 (x_getf d_328_99 rfl h.2.1 rfl) ?_
  refine m_Rq.n0 (x_iconst (z := 5) d_328_102 (by decide)) ?_
  refine m_Rq.n0 (x_iload_n d_328_103 rfl) ?_
  refine m_Rq.fwI (j := 5) d_328_104 wfQ h 0 rfl (by decide) (by decide) (by decide) (fun w h => ?_)
  refine m_Rq.n0 (x_aload_n d_328_105 rfl) ?_
  refine m_Rq.callQ (x_cv (n := 119) d_328_106 rfl q_305 (m_isRecv_of rfl h.2.1) rfl rfl h.1 rfl) (s_post (m := 1) (by decide) h) rfl (fun w h => ?_) (by decide) (by decide)
  refine m_Rq.n0 (x_iinc (z := 3) d_328_109 rfl rfl (by decide) (show m_put1 _ _ _ = [(3, _), (0, _), (1, _), (2, _)] from rfl)) ?_
  refine m_Rq.n0 (x_goto d_328_112 rfl) ?_
  refine m_Rq.n0 (x_iload_n d_328_61 rfl) ?_
  refine m_Rq.n0 (x_bipush (z := 7) d_328_62 (by decide)) ?_
  refine m_Rq.n0 (x_icf d_328_64 rfl (by decide)) ?_
  refine m_Rq.n0 (x_aload_n d_328_67 rfl) ?_
  refine m_Rq.n0 (x_getf d_328_68 rfl h.2.1 rfl) ?_
  refine m_Rq.n0 (x_iload_n d_328_71 rfl) ?_
  refine m_Rq.n0 (x_baload (j := 3) d_328_72 (h.g 0 rfl) rfl (by decide) (by decide) (by decide) rfl) ?_
  refine m_Rq.n0 (x_ift d_328_73 rfl (by decide)) ?_
  refine m_Rq.n0 (x_aload_n d_328_79 rfl) ?_
  refine m_Rq.n0 (x_iconst (z := 2) d_328_80 (by decide)) ?_
  refine m_Rq.n0 (x_iconst (z := 0) d_328_81 (by decide)) ?_
  refine m_Rq.n0 (x_iload_n d_328_82 rfl) ?_
  refine m_Rq.n0 (x_aload_n d_328_83 rfl) ?_
  refine m_Rq.n0 (x_getf d_328_84 rfl h.2.1 rfl) ?_
  refine m_Rq.n0 (x_iconst (z := 0) d_328_87 (by decide)) ?_
  refine m_Rq.callQ (x_cv (n := 119) d_328_88 rfl q_304 (m_isRecv_of rfl h.2.1) rfl rfl h.1 rfl) (s_blank h) rfl (fun w h => ?_) (by decide) (by decide)
  refine m_Rq.n0 (x_aload_n d_328_91 rfl) ?_
  refine m_Rq.n0 (x_getf d_328_92 rfl h.2.1 rfl) ?_
  refine m_Rq.n0 (x_iconst (z := 4) d_328_95 (by decide)) ?_
  refine m_Rq.n0 (x_iload_n d_328_96 rfl) ?_
  refine m_Rq.fwI (j := 4) d_328_97 wfQ h 0 rfl (by decide) (by decide) (by decide) (fun w h => ?_)
  refine m_Rq.n0 (x_aload_n d_328_98 rfl) ?_
  refine m_Rq.n0 (x_getf d_328_99 rfl h.2.1 rfl) ?_
  refine m_Rq.n0 (x_iconst (z := 5) d_328_102 (by decide)) ?_
  refine m_Rq.n0 (x_iload_n d_328_103 rfl) ?_
  refine m_Rq.fwI (j := 5) d_328_104 wfQ h 0 rfl (by decide) (by decide) (by decide) (fun w h => ?_)
  refine m_Rq.n0 (x_aload_n d_328_105 rfl) ?_
  refine m_Rq.callQ (x_cv (n := 119) d_328_106 rfl q_305 (m_isRecv_of rfl h.2.1) rfl rfl h.1 rfl) (s_post (m := 2) (by decide) h) rfl (fun w h => ?_) (by decide) (by decide)
  refine m_Rq.n0 (x_iinc (z := 4) d_328_109 rfl rfl (by decide) (show m_put1 _ _ _ = [(3, _), (0, _), (1, _), (2, _)] from rfl)) ?_
  refine m_Rq.n0 (x_goto d_328_112 rfl) ?_
  refine m_Rq.n0 (x_iload_n d_328_61 rfl) ?_
  refine m_Rq.n0 (x_bipush (z := 7) d_328_62 (by decide)) ?_
  refine m_Rq.n0 (x_icf d_328_64 rfl (by decide)) ?_
  refine m_Rq.n0 (x_aload_n d_328_67 rfl) ?_
  refine m_Rq.n0 (x_getf d_328_68 rfl h.2.1 rfl) ?_
  refine m_Rq.n0 (x_iload_n d_328_71 rfl) ?_
  refine m_Rq.n0 (x_baload (j := 4) d_328_72 (h.g 0 rfl) rfl (by decide) (by decide) (by decide) rfl) ?_
  refine m_Rq.n0 (x_ift d_328_73 rfl (by decide)) ?_
  refine m_Rq.n0 (x_aload_n d_328_79 rfl) ?_
  refine m_Rq.n0 (x_iconst (z := 2) d_328_80 (by decide)) ?_
  refine m_Rq.n0 (x_iconst (z := 0) d_328_81 (by decide)) ?_
  refine m_Rq.n0 (x_iload_n d_328_82 rfl) ?_
  refine m_Rq.n0 (x_aload_n d_328_83 rfl) ?_
  refine m_Rq.n0 (x_getf d_328_84 rfl h.2.1 rfl) ?_
  refine m_Rq.n0 (x_iconst (z := 0) d_328_87 (by decide)) ?_
  refine m_Rq.callQ (x_cv (n := 119) d_328_88 rfl q_304 (m_isRecv_of rfl h.2.1) rfl rfl h.1 rfl) (s_blank h) rfl (fun w h => ?_) (by decide) (by decide)
  refine m_Rq.n0 (x_aload_n d_328_91 rfl) ?_
  refine m_Rq.n0 (x_getf d_328_92 rfl h.2.1 rfl) ?_
  refine m_Rq.n0 (x_iconst (z := 4) d_328_95 (by decide)) ?_
  refine m_Rq.n0 (x_iload_n d_328_96 rfl) ?_
  refine m_Rq.fwI (j := 4) d_328_97 wfQ h 0 rfl (by decide) (by decide) (by decide) (fun w h => ?_)
  refine m_Rq.n0 (x_aload_n d_328_98 rfl) ?_
  refine m_Rq.n0 (x_getf d_328_99 rfl h.2.1 rfl) ?_
  refine m_Rq.n0 (x_iconst (z := 5) d_328_102 (by decide)) ?_
  refine m_Rq.n0 (x_iload_n d_328_103 rfl) ?_
  refine m_Rq.fwI (j := 5) d_328_104 wfQ h 0 rfl (by decide) (by decide) (by decide) (fun w h => ?_)
  refine m_Rq.n0 (x_aload_n d_328_105 rfl) ?_
  refine m_Rq.callQ (x_cv (n := 119) d_328_106 rfl q_305 (m_isRecv_of rfl h.2.1) rfl rfl h.1 rfl) (s_post (m := 3) (by decide) h) rfl (fun w h => ?_) (by decide) (by decide)
  refine m_Rq.n0 (x_iinc (z := 5) d_328_109 rfl rfl (by decide) (show m_put1 _ _ _ = [(3, _), (0, _), (1, _), (2, _)] from rfl)) ?_
  refine m_Rq.n0 (x_goto d_328_112 rfl) ?_
  refine m_Rq.n0 (x_iload_n d_328_61 rfl) ?_
  refine m_Rq.n0 (x_bipush (z := 7) d_328_62 (by decide)) ?_
  refine m_Rq.n0 (x_icf d_328_64 rfl (by decide)) ?_
  refine m_Rq.n0 (x_aload_n d_328_67 rfl) ?_
  refine m_Rq.n0 (x_getf d_328_68 rfl h.2.1 rfl) ?_
  refine m_Rq.n0 (x_iload_n d_328_71 rfl) ?_
  refine m_Rq.n0 (x_baload (j := 5) d_328_72 (h.g 0 rfl) rfl (by decide) (by decide) (by decide) rfl) ?_
  refine m_Rq.n0 (x_ift d_328_73 rfl (by decide)) ?_
  refine m_Rq.n0 (x_aload_n d_328_79 rfl) ?_
  refine m_Rq.n0 (x_iconst (z := 2) d_328_80 (by decide)) ?_
  refine m_Rq.n0 (x_iconst (z := 0) d_328_81 (by decide)) ?_
  refine m_Rq.n0 (x_iload_n d_328_82 rfl) ?_
  refine m_Rq.n0 (x_aload_n d_328_83 rfl) ?_
  refine m_Rq.n0 (x_getf d_328_84 rfl h.2.1 rfl) ?_
  refine m_Rq.n0 (x_iconst (z := 0) d_328_87 (by decide)) ?_
  refine m_Rq.callQ (x_cv (n := 119) d_328_88 rfl q_304 (m_isRecv_of rfl h.2.1) rfl rfl h.1 rfl) (s_blank h) rfl (fun w h => ?_) (by decide) (by decide)
  refine m_Rq.n0 (x_aload_n d_328_91 rfl) ?_
  refine m_Rq.n0 (x_getf d_328_92 rfl h.2.1 rfl) ?_
  refine m_Rq.n0 (x_iconst (z := 4) d_328_95 (by decide)) ?_
  refine m_Rq.n0 (x_iload_n d_328_96 rfl) ?_
  refine m_Rq.fwI (j := 4) d_328_97 wfQ h 0 rfl (by decide) (by decide) (by decide) (fun w h => ?_)
  refine m_Rq.n0 (x_aload_n d_328_98 rfl) ?_
  refine m_Rq.n0 (x_getf d_328_99 rfl h.2.1 rfl) ?_
  refine m_Rq.n0 (x_iconst (z := 5) d_328_102 (by decide)) ?_
  refine m_Rq.n0 (x_iload_n d_328_103 rfl) ?_
  refine m_Rq.fwI (j := 5) d_328_104 wfQ h 0 rfl (by decide) (by decide) (by decide) (fun w h => ?_)
  refine m_Rq.n0 (x_aload_n d_328_105 rfl) ?_
  refine m_Rq.callQ (x_cv (n := 119) d_328_106 rfl q_305 (m_isRecv_of rfl h.2.1) rfl rfl h.1 rfl) (s_post (m := 4) (by decide) h) rfl (fun w h => ?_) (by decide) (by decide)
  refine m_Rq.n0 (x_iinc (z := 6) d_328_109 rfl rfl (by decide) (show m_put1 _ _ _ = [(3, _), (0, _), (1, _), (2, _)] from rfl)) ?_
  refine m_Rq.n0 (x_goto d_328_112 rfl) ?_
  refine m_Rq.n0 (x_iload_n d_328_61 rfl) ?_
  refine m_Rq.n0 (x_bipush (z := 7) d_328_62 (by decide)) ?_
  refine m_Rq.n0 (x_icf d_328_64 rfl (by decide)) ?_
  refine m_Rq.n0 (x_aload_n d_328_67 rfl) ?_
  refine m_Rq.n0 (x_getf d_328_68 rfl h.2.1 rfl) ?_
  refine m_Rq.n0 (x_iload_n d_328_71 rfl) ?_
  refine m_Rq.n0 (x_baload (j := 6) d_328_72 (h.g 0 rfl) rfl (by decide) (by decide) (by decide) rfl) ?_
  refine m_Rq.n0 (x_ift d_328_73 rfl (by decide)) ?_
  refine m_Rq.n0 (x_aload_n d_328_79 rfl) ?_
  refine m_Rq.n0 (x_iconst (z := 2) d_328_80 (by decide)) ?_
  refine m_Rq.n0 (x_iconst (z := 0) d_328_81 (by decide)) ?_
  refine m_Rq.n0 (x_iload_n d_328_82 rfl) ?_
  refine m_Rq.n0 (x_aload_n d_328_83 rfl) ?_
  refine m_Rq.n0 (x_getf d_328_84 rfl h.2.1 rfl) ?_
  refine m_Rq.n0 (x_iconst (z := 0) d_328_87 (by decide)) ?_
  refine m_Rq.callQ (x_cv (n := 119) d_328_88 rfl q_304 (m_isRecv_of rfl h.2.1) rfl rfl h.1 rfl) (s_blank h) rfl (fun w h => ?_) (by decide) (by decide)
  refine m_Rq.n0 (x_aload_n d_328_91 rfl) ?_
  refine m_Rq.n0 (x_getf d_328_92 rfl h.2.1 rfl) ?_
  refine m_Rq.n0 (x_iconst (z := 4) d_328_95 (by decide)) ?_
  refine m_Rq.n0 (x_iload_n d_328_96 rfl) ?_
  refine m_Rq.fwI (j := 4) d_328_97 wfQ h 0 rfl (by decide) (by decide) (by decide) (fun w h => ?_)
  refine m_Rq.n0 (x_aload_n d_328_98 rfl) ?_
  refine m_Rq.n0 (x_getf d_328_99 rfl h.2.1 rfl) ?_
  refine m_Rq.n0 (x_iconst (z := 5) d_328_102 (by decide)) ?_
  refine m_Rq.n0 (x_iload_n d_328_103 rfl) ?_
  refine m_Rq.fwI (j := 5) d_328_104 wfQ h 0 rfl (by decide) (by decide) (by decide) (fun w h => ?_)
  refine m_Rq.n0 (x_aload_n d_328_105 rfl) ?_
  refine m_Rq.callQ (x_cv (n := 119) d_328_106 rfl q_305 (m_isRecv_of rfl h.2.1) rfl rfl h.1 rfl) (s_post (m := 5) (by decide) h) rfl (fun w h => ?_) (by decide) (by decide)
  refine m_Rq.n0 (x_iinc (z := 7) d_328_109 rfl rfl (by decide) (show m_put1 _ _ _ = [(3, _), (0, _), (1, _), (2, _)] from rfl)) ?_
  refine m_Rq.n0 (x_goto d_328_112 rfl) ?_
  refine m_Rq.n0 (x_iload_n d_328_61 rfl) ?_
  refine m_Rq.n0 (x_bipush (z := 7) d_328_62 (by decide)) ?_
  refine m_Rq.n0 (x_ict d_328_64 rfl (by decide)) ?_
  refine m_Rq.n0 (x_aload_n d_328_115 rfl) ?_
  refine m_Rq.n0 (x_getf d_328_116 rfl h.2.1 rfl) ?_
  refine m_Rq.ir d_328_119 rfl rfl ?_
  exact rfl
theorem e_purge_0a {p : Int32} (h0 : p < 0) : m_Rq M_328 (m_ent M_328 [.ref 583, .int 0, .int p] w_1) (fun v w' => v = some (.int (-1)) ∧ w' = w_1) 0 0 10 1000 := by
  show m_Rq M_328 (0, [(0, .ref 583), (1, .int 0), (2, .int p)], [], w_1) _ 0 0 10 1000
  refine m_Rq.n0 (x_aload_n d_328_0 rfl) ?_
  refine m_Rq.n0 (x_iconst (z := 0) d_328_1 (by decide)) ?_
  refine m_Rq.n0 (x_putfs d_328_2 rfl a_583 rfl rfl (by decide) rfl rfl rfl) ?_
  refine m_Rq.n0 (x_iload_n d_328_5 rfl) ?_
  refine m_Rq.n0 (x_iff d_328_6 rfl (by decide)) ?_
  refine m_Rq.n0 (x_iload_n d_328_9 rfl) ?_
  refine m_Rq.n0 (x_iconst (z := 1) d_328_10 (by decide)) ?_
  refine m_Rq.n0 (x_icf d_328_11 rfl (by decide)) ?_
  refine m_Rq.n0 (x_iload_n d_328_14 rfl) ?_
  refine m_Rq.n0 (x_ift d_328_15 rfl (decide_eq_true h0)) ?_
  refine m_Rq.n0 (x_iconst (z := (-1)) d_328_42 (by decide)) ?_
  refine m_Rq.ir d_328_43 rfl rfl ?_
  exact ⟨rfl, rfl⟩
theorem e_purge_0b {p : Int32} (h0 : ¬ p < 0) (h1 : 31 < p) : m_Rq M_328 (m_ent M_328 [.ref 583, .int 0, .int p] w_1) (fun v w' => v = some (.int (-1)) ∧ w' = w_1) 0 0 10 1000 := by
  show m_Rq M_328 (0, [(0, .ref 583), (1, .int 0), (2, .int p)], [], w_1) _ 0 0 10 1000
  refine m_Rq.n0 (x_aload_n d_328_0 rfl) ?_
  refine m_Rq.n0 (x_iconst (z := 0) d_328_1 (by decide)) ?_
  refine m_Rq.n0 (x_putfs d_328_2 rfl a_583 rfl rfl (by decide) rfl rfl rfl) ?_
  refine m_Rq.n0 (x_iload_n d_328_5 rfl) ?_
  refine m_Rq.n0 (x_iff d_328_6 rfl (by decide)) ?_
  refine m_Rq.n0 (x_iload_n d_328_9 rfl) ?_
  refine m_Rq.n0 (x_iconst (z := 1) d_328_10 (by decide)) ?_
  refine m_Rq.n0 (x_icf d_328_11 rfl (by decide)) ?_
  refine m_Rq.n0 (x_iload_n d_328_14 rfl) ?_
  refine m_Rq.n0 (x_iff d_328_15 rfl (decide_eq_false h0)) ?_
  refine m_Rq.n0 (x_iload_n d_328_18 rfl) ?_
  refine m_Rq.n0 (x_iload_n d_328_19 rfl) ?_
  refine m_Rq.n0 (x_iff d_328_20 rfl (by decide)) ?_
  refine m_Rq.n0 (x_bipush (z := 31) d_328_23 (by decide)) ?_
  refine m_Rq.n0 (x_goto d_328_25 rfl) ?_
  refine m_Rq.n0 (x_ict d_328_30 rfl (decide_eq_true h1)) ?_
  refine m_Rq.n0 (x_iconst (z := (-1)) d_328_42 (by decide)) ?_
  refine m_Rq.ir d_328_43 rfl rfl ?_
  exact ⟨rfl, rfl⟩
theorem e_purge_1a {p : Int32} (h0 : p < 0) : m_Rq M_328 (m_ent M_328 [.ref 583, .int 1, .int p] w_1) (fun v w' => v = some (.int (-1)) ∧ w' = w_1) 0 0 10 1000 := by
  show m_Rq M_328 (0, [(0, .ref 583), (1, .int 1), (2, .int p)], [], w_1) _ 0 0 10 1000
  refine m_Rq.n0 (x_aload_n d_328_0 rfl) ?_
  refine m_Rq.n0 (x_iconst (z := 0) d_328_1 (by decide)) ?_
  refine m_Rq.n0 (x_putfs d_328_2 rfl a_583 rfl rfl (by decide) rfl rfl rfl) ?_
  refine m_Rq.n0 (x_iload_n d_328_5 rfl) ?_
  refine m_Rq.n0 (x_iff d_328_6 rfl (by decide)) ?_
  refine m_Rq.n0 (x_iload_n d_328_9 rfl) ?_
  refine m_Rq.n0 (x_iconst (z := 1) d_328_10 (by decide)) ?_
  refine m_Rq.n0 (x_icf d_328_11 rfl (by decide)) ?_
  refine m_Rq.n0 (x_iload_n d_328_14 rfl) ?_
  refine m_Rq.n0 (x_ift d_328_15 rfl (decide_eq_true h0)) ?_
  refine m_Rq.n0 (x_iconst (z := (-1)) d_328_42 (by decide)) ?_
  refine m_Rq.ir d_328_43 rfl rfl ?_
  exact ⟨rfl, rfl⟩
theorem e_purge_1b {p : Int32} (h0 : ¬ p < 0) (h1 : 7 < p) : m_Rq M_328 (m_ent M_328 [.ref 583, .int 1, .int p] w_1) (fun v w' => v = some (.int (-1)) ∧ w' = w_1) 0 0 10 1000 := by
  show m_Rq M_328 (0, [(0, .ref 583), (1, .int 1), (2, .int p)], [], w_1) _ 0 0 10 1000
  refine m_Rq.n0 (x_aload_n d_328_0 rfl) ?_
  refine m_Rq.n0 (x_iconst (z := 0) d_328_1 (by decide)) ?_
  refine m_Rq.n0 (x_putfs d_328_2 rfl a_583 rfl rfl (by decide) rfl rfl rfl) ?_
  refine m_Rq.n0 (x_iload_n d_328_5 rfl) ?_
  refine m_Rq.n0 (x_iff d_328_6 rfl (by decide)) ?_
  refine m_Rq.n0 (x_iload_n d_328_9 rfl) ?_
  refine m_Rq.n0 (x_iconst (z := 1) d_328_10 (by decide)) ?_
  refine m_Rq.n0 (x_icf d_328_11 rfl (by decide)) ?_
  refine m_Rq.n0 (x_iload_n d_328_14 rfl) ?_
  refine m_Rq.n0 (x_iff d_328_15 rfl (decide_eq_false h0)) ?_
  refine m_Rq.n0 (x_iload_n d_328_18 rfl) ?_
  refine m_Rq.n0 (x_iload_n d_328_19 rfl) ?_
  refine m_Rq.n0 (x_ift d_328_20 rfl (by decide)) ?_
  refine m_Rq.n0 (x_bipush (z := 7) d_328_28 (by decide)) ?_
  refine m_Rq.n0 (x_ict d_328_30 rfl (decide_eq_true h1)) ?_
  refine m_Rq.n0 (x_iconst (z := (-1)) d_328_42 (by decide)) ?_
  refine m_Rq.ir d_328_43 rfl rfl ?_
  exact ⟨rfl, rfl⟩
theorem e_purge_l {b p : Int32} (h0 : b < 0) : m_Rq M_328 (m_ent M_328 [.ref 583, .int b, .int p] w_1) (fun v w' => v = some (.int (-1)) ∧ w' = w_1) 0 0 10 1000 := by
  show m_Rq M_328 (0, [(0, .ref 583), (1, .int b), (2, .int p)], [], w_1) _ 0 0 10 1000
  refine m_Rq.n0 (x_aload_n d_328_0 rfl) ?_
  refine m_Rq.n0 (x_iconst (z := 0) d_328_1 (by decide)) ?_
  refine m_Rq.n0 (x_putfs d_328_2 rfl a_583 rfl rfl (by decide) rfl rfl rfl) ?_
  refine m_Rq.n0 (x_iload_n d_328_5 rfl) ?_
  refine m_Rq.n0 (x_ift d_328_6 rfl (decide_eq_true h0)) ?_
  refine m_Rq.n0 (x_iconst (z := (-1)) d_328_42 (by decide)) ?_
  refine m_Rq.ir d_328_43 rfl rfl ?_
  exact ⟨rfl, rfl⟩
theorem e_purge_g {b p : Int32} (h0 : ¬ b < 0) (h1 : 1 < b) : m_Rq M_328 (m_ent M_328 [.ref 583, .int b, .int p] w_1) (fun v w' => v = some (.int (-1)) ∧ w' = w_1) 0 0 10 1000 := by
  show m_Rq M_328 (0, [(0, .ref 583), (1, .int b), (2, .int p)], [], w_1) _ 0 0 10 1000
  refine m_Rq.n0 (x_aload_n d_328_0 rfl) ?_
  refine m_Rq.n0 (x_iconst (z := 0) d_328_1 (by decide)) ?_
  refine m_Rq.n0 (x_putfs d_328_2 rfl a_583 rfl rfl (by decide) rfl rfl rfl) ?_
  refine m_Rq.n0 (x_iload_n d_328_5 rfl) ?_
  refine m_Rq.n0 (x_iff d_328_6 rfl (decide_eq_false h0)) ?_
  refine m_Rq.n0 (x_iload_n d_328_9 rfl) ?_
  refine m_Rq.n0 (x_iconst (z := 1) d_328_10 (by decide)) ?_
  refine m_Rq.n0 (x_ict d_328_11 rfl (decide_eq_true h1)) ?_
  refine m_Rq.n0 (x_iconst (z := (-1)) d_328_42 (by decide)) ?_
  refine m_Rq.ir d_328_43 rfl rfl ?_
  exact ⟨rfl, rfl⟩
theorem c_purge_0a {p : Int32} (h0 : p < 0) : m_Rq M_150 (m_ent M_150 [.ref 512, .int 0, .int p] w_1) (fun v w' => v = some (.int (-1)) ∧ w' = w_1) 0 0 10 1000 := by
  show m_Rq M_150 (0, [(0, .ref 512), (1, .int 0), (2, .int p)], [], w_1) _ 0 0 10 1000
  refine m_Rq.n0 (x_iload_n d_150_0 rfl) ?_
  refine m_Rq.n0 (x_iff d_150_1 rfl (by decide)) ?_
  refine m_Rq.n0 (x_iload_n d_150_4 rfl) ?_
  refine m_Rq.callE (x_cs (n := 119) d_150_5 rfl q_15 rfl rfl m_hn1 rfl rfl) (s_isPath0a h0) rfl ?_ (by decide) (by decide)
  refine m_Rq.n0 (x_iff d_150_8 rfl (by decide)) ?_
  refine m_Rq.n0 (x_iload_n d_150_11 rfl) ?_
  refine m_Rq.n0 (x_iconst (z := 1) d_150_12 (by decide)) ?_
  refine m_Rq.n0 (x_ict d_150_13 rfl (by decide)) ?_
  refine m_Rq.n0 (x_iconst (z := 0) d_150_30 (by decide)) ?_
  refine m_Rq.n0 (x_istore_n d_150_31 rfl (show m_put1 _ _ _ = [(3, _), (0, _), (1, _), (2, _)] from rfl)) ?_
  refine m_Rq.n0 (x_iload_n d_150_32 rfl) ?_
  refine m_Rq.n0 (x_ift d_150_33 rfl (by decide)) ?_
  refine m_Rq.n0 (x_iconst (z := (-1)) d_150_45 (by decide)) ?_
  refine m_Rq.ir d_150_46 rfl rfl ?_
  exact ⟨rfl, rfl⟩
theorem c_purge_0b {p : Int32} (h0 : ¬ p < 0) (h1 : ¬ p < 32) : m_Rq M_150 (m_ent M_150 [.ref 512, .int 0, .int p] w_1) (fun v w' => v = some (.int (-1)) ∧ w' = w_1) 0 0 10 1000 := by
  show m_Rq M_150 (0, [(0, .ref 512), (1, .int 0), (2, .int p)], [], w_1) _ 0 0 10 1000
  refine m_Rq.n0 (x_iload_n d_150_0 rfl) ?_
  refine m_Rq.n0 (x_iff d_150_1 rfl (by decide)) ?_
  refine m_Rq.n0 (x_iload_n d_150_4 rfl) ?_
  refine m_Rq.callE (x_cs (n := 119) d_150_5 rfl q_15 rfl rfl m_hn1 rfl rfl) (s_isPath0b h0 h1) rfl ?_ (by decide) (by decide)
  refine m_Rq.n0 (x_iff d_150_8 rfl (by decide)) ?_
  refine m_Rq.n0 (x_iload_n d_150_11 rfl) ?_
  refine m_Rq.n0 (x_iconst (z := 1) d_150_12 (by decide)) ?_
  refine m_Rq.n0 (x_ict d_150_13 rfl (by decide)) ?_
  refine m_Rq.n0 (x_iconst (z := 0) d_150_30 (by decide)) ?_
  refine m_Rq.n0 (x_istore_n d_150_31 rfl (show m_put1 _ _ _ = [(3, _), (0, _), (1, _), (2, _)] from rfl)) ?_
  refine m_Rq.n0 (x_iload_n d_150_32 rfl) ?_
  refine m_Rq.n0 (x_ift d_150_33 rfl (by decide)) ?_
  refine m_Rq.n0 (x_iconst (z := (-1)) d_150_45 (by decide)) ?_
  refine m_Rq.ir d_150_46 rfl rfl ?_
  exact ⟨rfl, rfl⟩
theorem c_purge_1a {p : Int32} (h0 : p < 0) : m_Rq M_150 (m_ent M_150 [.ref 512, .int 1, .int p] w_1) (fun v w' => v = some (.int (-1)) ∧ w' = w_1) 0 0 10 1000 := by
  show m_Rq M_150 (0, [(0, .ref 512), (1, .int 1), (2, .int p)], [], w_1) _ 0 0 10 1000
  refine m_Rq.n0 (x_iload_n d_150_0 rfl) ?_
  refine m_Rq.n0 (x_ift d_150_1 rfl (by decide)) ?_
  refine m_Rq.n0 (x_iload_n d_150_11 rfl) ?_
  refine m_Rq.n0 (x_iconst (z := 1) d_150_12 (by decide)) ?_
  refine m_Rq.n0 (x_icf d_150_13 rfl (by decide)) ?_
  refine m_Rq.n0 (x_iload_n d_150_16 rfl) ?_
  refine m_Rq.n0 (x_ift d_150_17 rfl (decide_eq_true h0)) ?_
  refine m_Rq.n0 (x_iconst (z := 0) d_150_30 (by decide)) ?_
  refine m_Rq.n0 (x_istore_n d_150_31 rfl (show m_put1 _ _ _ = [(3, _), (0, _), (1, _), (2, _)] from rfl)) ?_
  refine m_Rq.n0 (x_iload_n d_150_32 rfl) ?_
  refine m_Rq.n0 (x_ift d_150_33 rfl (by decide)) ?_
  refine m_Rq.n0 (x_iconst (z := (-1)) d_150_45 (by decide)) ?_
  refine m_Rq.ir d_150_46 rfl rfl ?_
  exact ⟨rfl, rfl⟩
theorem c_purge_1b {p : Int32} (h0 : ¬ p < 0) (h1 : ¬ p < 8) : m_Rq M_150 (m_ent M_150 [.ref 512, .int 1, .int p] w_1) (fun v w' => v = some (.int (-1)) ∧ w' = w_1) 0 0 10 1000 := by
  show m_Rq M_150 (0, [(0, .ref 512), (1, .int 1), (2, .int p)], [], w_1) _ 0 0 10 1000
  refine m_Rq.n0 (x_iload_n d_150_0 rfl) ?_
  refine m_Rq.n0 (x_ift d_150_1 rfl (by decide)) ?_
  refine m_Rq.n0 (x_iload_n d_150_11 rfl) ?_
  refine m_Rq.n0 (x_iconst (z := 1) d_150_12 (by decide)) ?_
  refine m_Rq.n0 (x_icf d_150_13 rfl (by decide)) ?_
  refine m_Rq.n0 (x_iload_n d_150_16 rfl) ?_
  refine m_Rq.n0 (x_iff d_150_17 rfl (decide_eq_false h0)) ?_
  refine m_Rq.n0 (x_iload_n d_150_20 rfl) ?_
  refine m_Rq.n0 (x_bipush (z := 8) d_150_21 (by decide)) ?_
  refine m_Rq.n0 (x_ict d_150_23 rfl (decide_eq_true (m_not_lt h1))) ?_
  refine m_Rq.n0 (x_iconst (z := 0) d_150_30 (by decide)) ?_
  refine m_Rq.n0 (x_istore_n d_150_31 rfl (show m_put1 _ _ _ = [(3, _), (0, _), (1, _), (2, _)] from rfl)) ?_
  refine m_Rq.n0 (x_iload_n d_150_32 rfl) ?_
  refine m_Rq.n0 (x_ift d_150_33 rfl (by decide)) ?_
  refine m_Rq.n0 (x_iconst (z := (-1)) d_150_45 (by decide)) ?_
  refine m_Rq.ir d_150_46 rfl rfl ?_
  exact ⟨rfl, rfl⟩
theorem c_purge_x {b p : Int32} (h0 : ¬ b = 0) (h1 : ¬ b = 1) : m_Rq M_150 (m_ent M_150 [.ref 512, .int b, .int p] w_1) (fun v w' => v = some (.int (-1)) ∧ w' = w_1) 0 0 10 1000 := by
  show m_Rq M_150 (0, [(0, .ref 512), (1, .int b), (2, .int p)], [], w_1) _ 0 0 10 1000
  refine m_Rq.n0 (x_iload_n d_150_0 rfl) ?_
  refine m_Rq.n0 (x_ift d_150_1 rfl (decide_eq_true h0)) ?_
  refine m_Rq.n0 (x_iload_n d_150_11 rfl) ?_
  refine m_Rq.n0 (x_iconst (z := 1) d_150_12 (by decide)) ?_
  refine m_Rq.n0 (x_ict d_150_13 rfl (decide_eq_true h1)) ?_
  refine m_Rq.n0 (x_iconst (z := 0) d_150_30 (by decide)) ?_
  refine m_Rq.n0 (x_istore_n d_150_31 rfl (show m_put1 _ _ _ = [(3, _), (0, _), (1, _), (2, _)] from rfl)) ?_
  refine m_Rq.n0 (x_iload_n d_150_32 rfl) ?_
  refine m_Rq.n0 (x_ift d_150_33 rfl (by decide)) ?_
  refine m_Rq.n0 (x_iconst (z := (-1)) d_150_45 (by decide)) ?_
  refine m_Rq.ir d_150_46 rfl rfl ?_
  exact ⟨rfl, rfl⟩
theorem m_FW_Q {w : List mM} (h : m_mwb w = true) : m_FW 583 14 (f_q 0 0) l_Q g_Q w := by
  obtain ⟨h1, h2⟩ := m_mwb_at h
  refine ⟨h1, (h2 583 (by decide) (by decide)).trans a_583, ?_, ?_⟩
  · unfold l_Q
    simp only [List.forall_mem_cons]
    exact ⟨⟨_, (h2 625 (by decide) (by decide)).trans a_625⟩, ⟨_, (h2 624 (by decide) (by decide)).trans a_624⟩, fun q hq => absurd hq List.not_mem_nil⟩
  · unfold g_Q
    simp only [List.forall_mem_cons]
    exact ⟨(h2 591 (by decide) (by decide)).trans a_591, fun q hq => absurd hq List.not_mem_nil⟩
theorem c_purge_0 {j : Nat} (hj : j < 32) : m_Rq M_150 (m_ent M_150 [.ref 512, .int 0, .int (Int32.ofNat j)] w_1) (fun v w => v = some (.int 1) ∧ m_mwb w = true) 400 400000 100 20000 := by
  match j, hj with
  | 0, _ => exact m_ck2_rq k_purge_0_0
  | 1, _ => exact m_ck2_rq k_purge_0_1
  | 2, _ => exact m_ck2_rq k_purge_0_2
  | 3, _ => exact m_ck2_rq k_purge_0_3
  | 4, _ => exact m_ck2_rq k_purge_0_4
  | 5, _ => exact m_ck2_rq k_purge_0_5
  | 6, _ => exact m_ck2_rq k_purge_0_6
  | 7, _ => exact m_ck2_rq k_purge_0_7
  | 8, _ => exact m_ck2_rq k_purge_0_8
  | 9, _ => exact m_ck2_rq k_purge_0_9
  | 10, _ => exact m_ck2_rq k_purge_0_10
  | 11, _ => exact m_ck2_rq k_purge_0_11
  | 12, _ => exact m_ck2_rq k_purge_0_12
  | 13, _ => exact m_ck2_rq k_purge_0_13
  | 14, _ => exact m_ck2_rq k_purge_0_14
  | 15, _ => exact m_ck2_rq k_purge_0_15
  | 16, _ => exact m_ck2_rq k_purge_0_16
  | 17, _ => exact m_ck2_rq k_purge_0_17
  | 18, _ => exact m_ck2_rq k_purge_0_18
  | 19, _ => exact m_ck2_rq k_purge_0_19
  | 20, _ => exact m_ck2_rq k_purge_0_20
  | 21, _ => exact m_ck2_rq k_purge_0_21
  | 22, _ => exact m_ck2_rq k_purge_0_22
  | 23, _ => exact m_ck2_rq k_purge_0_23
  | 24, _ => exact m_ck2_rq k_purge_0_24
  | 25, _ => exact m_ck2_rq k_purge_0_25
  | 26, _ => exact m_ck2_rq k_purge_0_26
  | 27, _ => exact m_ck2_rq k_purge_0_27
  | 28, _ => exact m_ck2_rq k_purge_0_28
  | 29, _ => exact m_ck2_rq k_purge_0_29
  | 30, _ => exact m_ck2_rq k_purge_0_30
  | 31, _ => exact m_ck2_rq k_purge_0_31
  | j + 32, hj => omega
theorem c_purge_1 {j : Nat} (hj : j < 8) : m_Rq M_150 (m_ent M_150 [.ref 512, .int 1, .int (Int32.ofNat j)] w_1) (fun v w => v = some (.int 1) ∧ m_mwb w = true) 400 400000 100 20000 := by
  match j, hj with
  | 0, _ => exact m_ck2_rq k_purge_1_0
  | 1, _ => exact m_ck2_rq k_purge_1_1
  | 2, _ => exact m_ck2_rq k_purge_1_2
  | 3, _ => exact m_ck2_rq k_purge_1_3
  | 4, _ => exact m_ck2_rq k_purge_1_4
  | 5, _ => exact m_ck2_rq k_purge_1_5
  | 6, _ => exact m_ck2_rq k_purge_1_6
  | 7, _ => exact m_ck2_rq k_purge_1_7
  | j + 8, hj => omega
theorem m_gt_of_nlt {p : Int32} {k : Nat} (hk : k + 1 < 2147483648) (h : ¬ p < Int32.ofNat (k + 1)) : Int32.ofNat k < p := by
  rw [Int32.lt_iff_toInt_lt, Int32.toInt_ofNat_of_lt hk] at h
  rw [Int32.lt_iff_toInt_lt, Int32.toInt_ofNat_of_lt (by omega)]
  omega
theorem m_ngt_of {i k : Nat} (hk : k < 2147483648) (h : i < k + 1) (hi : i < 2147483648) : ¬ Int32.ofNat k < Int32.ofNat i := by
  rw [m_n_lt hk hi]
  omega
theorem t_purge (b p : Int32) : m_Two M_150 M_328 [.ref 512, .int b, .int p] [.ref 583, .int b, .int p] := by
  by_cases b0 : b = 0
  · subst b0
    by_cases h0 : p < 0
    · exact m_Two.same2 (-1) (c_purge_0a h0) (e_purge_0a h0) rfl
    · by_cases h1 : p < 32
      · obtain ⟨j, hj, rfl⟩ := m_n_in (N := 32) (by decide) h0 h1
        exact m_Two.gen 1 (c_purge_0 hj) (fun w hw => m_mwb_mdl hw) (c' := 0) (s' := 0) (f' := 10) (l' := 1000) (fun w hw => e_purge_0 h0 (m_ngt_of (k := 31) (by decide) hj (by omega)) (m_FW_Q hw)) rfl
      · exact m_Two.same2 (-1) (c_purge_0b h0 h1) (e_purge_0b h0 (m_gt_of_nlt (k := 31) (by decide) h1)) rfl
  · by_cases b1 : b = 1
    · subst b1
      by_cases h0 : p < 0
      · exact m_Two.same2 (-1) (c_purge_1a h0) (e_purge_1a h0) rfl
      · by_cases h1 : p < 8
        · obtain ⟨j, hj, rfl⟩ := m_n_in (N := 8) (by decide) h0 h1
          exact m_Two.gen 1 (c_purge_1 hj) (fun w hw => m_mwb_mdl hw) (c' := 0) (s' := 0) (f' := 10) (l' := 1000) (fun w hw => e_purge_1 h0 (m_ngt_of (k := 7) (by decide) hj (by omega)) (m_FW_Q hw)) rfl
        · exact m_Two.same2 (-1) (c_purge_1b h0 h1) (e_purge_1b h0 (m_gt_of_nlt (k := 7) (by decide) h1)) rfl
    · by_cases h0 : b < 0
      · exact m_Two.same2 (-1) (c_purge_x b0 b1) (e_purge_l h0) rfl
      · by_cases h1 : 1 < b
        · exact m_Two.same2 (-1) (c_purge_x b0 b1) (e_purge_g h0 h1) rfl
        · exfalso
          obtain ⟨j, hj, rfl⟩ := m_lt_of (k := 1) (by decide) rfl h0 h1
          match j, hj with
          | 0, _ => exact b0 rfl
          | 1, _ => exact b1 rfl
          | j + 2, hj => omega
