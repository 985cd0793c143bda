/-! Switches over what is told. Written by wip/tool/tells.py. -/
theorem m_tsw_0 {pc t n : Nat} {d hi : Int} {offs : Array Int} {x : Int32} {r : List Value} (hn : hi = (n : Int) - 1) (h : ∀ k, k < n → ¬ x = Int32.ofNat k) (hj : m_jmp pc d = some t) : m_tsw pc d 0 hi offs (.int x :: r) = some (t, r) := by
  have h9 : x.toInt < 0 ∨ hi < x.toInt := by
    by_cases h1 : x.toInt < 0
    · exact Or.inl h1
    · refine Or.inr ?_
      apply Int.not_le.mp
      intro h2
      have h3 : x.toInt.toNat < n := by omega
      refine h _ h3 ?_
      have h4 := x.toInt_lt
      apply Int32.toInt_inj.mp
      rw [Int32.toInt_ofNat_of_lt (by omega)]
      omega
  unfold m_tsw
  simp only [if_pos h9, hj, Option.map_some]
theorem q_239 : m_mt[239]? = some M_239 := by rfl
theorem q_224 : m_mt[224]? = some M_224 := by rfl
theorem b_239 : m_bOk M_239 := (m_mt_ok M_239 (List.mem_of_getElem? q_239)).body
theorem b_224 : m_bOk M_224 := (m_mt_ok M_224 (List.mem_of_getElem? q_224)).body
theorem d_224_0 : m_dn M_224 0 (.iload_n 1) 1 1 := by decide +kernel
theorem d_224_1 : m_dn M_224 1 (.bipush 16) 2 3 := by decide +kernel
theorem d_224_102 : m_dn M_224 102 (.iconst 1) 1 103 := by decide +kernel
theorem d_224_103 : m_dn M_224 103 (.goto 4) 3 106 := by decide +kernel
theorem d_224_106 : m_dn M_224 106 (.iconst 0) 1 107 := by decide +kernel
theorem d_224_107 : m_dn M_224 107 (.ireturn) 1 108 := by decide +kernel
theorem d_224_108 : m_dn M_224 108 (.aload_n 0) 1 109 := by decide +kernel
theorem d_224_109 : m_dn M_224 109 (.getfield 18) 3 112 := by decide +kernel
theorem d_224_112 : m_dn M_224 112 (.getfield 84) 3 115 := by decide +kernel
theorem d_224_115 : m_dn M_224 115 (.ireturn) 1 116 := by decide +kernel
theorem d_224_116 : m_dn M_224 116 (.iconst (-1)) 1 117 := by decide +kernel
theorem d_224_117 : m_dn M_224 117 (.ireturn) 1 118 := by decide +kernel
theorem d_224_12 : m_dn M_224 12 (.aload_n 0) 1 13 := by decide +kernel
theorem d_224_13 : m_dn M_224 13 (.getfield 68) 3 16 := by decide +kernel
theorem d_224_16 : m_dn M_224 16 (.iload_n 1) 1 17 := by decide +kernel
theorem d_224_17 : m_dn M_224 17 (.bipush 16) 2 19 := by decide +kernel
theorem d_224_19 : m_dn M_224 19 (.isub) 1 20 := by decide +kernel
theorem d_224_20 : m_dn M_224 20 (.ishr) 1 21 := by decide +kernel
theorem d_224_21 : m_dn M_224 21 (.iconst 1) 1 22 := by decide +kernel
theorem d_224_22 : m_dn M_224 22 (.iand) 1 23 := by decide +kernel
theorem d_224_23 : m_dn M_224 23 (.ireturn) 1 24 := by decide +kernel
theorem d_224_24 : m_dn M_224 24 (.iload_n 1) 1 25 := by decide +kernel
theorem d_224_25 : m_dn M_224 25 (.tableswitch 91 0 6 #[43, 51, 57, 65, 70, 91, 83]) 43 68 := by decide +kernel
theorem d_224_3 : m_dn M_224 3 (.if_icmp .lt 21) 3 6 := by decide +kernel
theorem d_224_6 : m_dn M_224 6 (.iload_n 1) 1 7 := by decide +kernel
theorem d_224_68 : m_dn M_224 68 (.aload_n 0) 1 69 := by decide +kernel
theorem d_224_69 : m_dn M_224 69 (.getfield 18) 3 72 := by decide +kernel
theorem d_224_7 : m_dn M_224 7 (.bipush 32) 2 9 := by decide +kernel
theorem d_224_72 : m_dn M_224 72 (.getfield 59) 3 75 := by decide +kernel
theorem d_224_75 : m_dn M_224 75 (.ireturn) 1 76 := by decide +kernel
theorem d_224_76 : m_dn M_224 76 (.aload_n 0) 1 77 := by decide +kernel
theorem d_224_77 : m_dn M_224 77 (.iload_n 2) 1 78 := by decide +kernel
theorem d_224_78 : m_dn M_224 78 (.invokevirtual 77) 3 81 := by decide +kernel
theorem d_224_81 : m_dn M_224 81 (.ireturn) 1 82 := by decide +kernel
theorem d_224_82 : m_dn M_224 82 (.aload_n 0) 1 83 := by decide +kernel
theorem d_224_83 : m_dn M_224 83 (.getfield 68) 3 86 := by decide +kernel
theorem d_224_86 : m_dn M_224 86 (.invokestatic 71) 3 89 := by decide +kernel
theorem d_224_89 : m_dn M_224 89 (.ireturn) 1 90 := by decide +kernel
theorem d_224_9 : m_dn M_224 9 (.if_icmp .ge 15) 3 12 := by decide +kernel
theorem d_224_90 : m_dn M_224 90 (.aload_n 0) 1 91 := by decide +kernel
theorem d_224_91 : m_dn M_224 91 (.getfield 49) 3 94 := by decide +kernel
theorem d_224_94 : m_dn M_224 94 (.ireturn) 1 95 := by decide +kernel
theorem d_224_95 : m_dn M_224 95 (.aload_n 0) 1 96 := by decide +kernel
theorem d_224_96 : m_dn M_224 96 (.getfield 80) 3 99 := by decide +kernel
theorem d_224_99 : m_dn M_224 99 (.ifCond .eq 7) 3 102 := by decide +kernel
theorem d_239_0 : m_dn M_239 0 (.iload_n 1) 1 1 := by decide +kernel
theorem d_239_1 : m_dn M_239 1 (.tableswitch 91 0 8 #[51, 56, 61, 66, 71, 91, 76, 81, 86]) 51 52 := by decide +kernel
theorem d_239_52 : m_dn M_239 52 (.aload_n 0) 1 53 := by decide +kernel
theorem d_239_53 : m_dn M_239 53 (.getfield 84) 3 56 := by decide +kernel
theorem d_239_56 : m_dn M_239 56 (.ireturn) 1 57 := by decide +kernel
theorem d_239_57 : m_dn M_239 57 (.aload_n 0) 1 58 := by decide +kernel
theorem d_239_58 : m_dn M_239 58 (.getfield 40) 3 61 := by decide +kernel
theorem d_239_61 : m_dn M_239 61 (.ireturn) 1 62 := by decide +kernel
theorem d_239_62 : m_dn M_239 62 (.aload_n 0) 1 63 := by decide +kernel
theorem d_239_63 : m_dn M_239 63 (.getfield 90) 3 66 := by decide +kernel
theorem d_239_66 : m_dn M_239 66 (.ireturn) 1 67 := by decide +kernel
theorem d_239_67 : m_dn M_239 67 (.aload_n 0) 1 68 := by decide +kernel
theorem d_239_68 : m_dn M_239 68 (.getfield 87) 3 71 := by decide +kernel
theorem d_239_71 : m_dn M_239 71 (.ireturn) 1 72 := by decide +kernel
theorem d_239_72 : m_dn M_239 72 (.aload_n 0) 1 73 := by decide +kernel
theorem d_239_73 : m_dn M_239 73 (.getfield 93) 3 76 := by decide +kernel
theorem d_239_76 : m_dn M_239 76 (.ireturn) 1 77 := by decide +kernel
theorem d_239_77 : m_dn M_239 77 (.aload_n 0) 1 78 := by decide +kernel
theorem d_239_78 : m_dn M_239 78 (.getfield 96) 3 81 := by decide +kernel
theorem d_239_81 : m_dn M_239 81 (.ireturn) 1 82 := by decide +kernel
theorem d_239_82 : m_dn M_239 82 (.aload_n 0) 1 83 := by decide +kernel
theorem d_239_83 : m_dn M_239 83 (.getfield 99) 3 86 := by decide +kernel
theorem d_239_86 : m_dn M_239 86 (.ireturn) 1 87 := by decide +kernel
theorem d_239_87 : m_dn M_239 87 (.aload_n 0) 1 88 := by decide +kernel
theorem d_239_88 : m_dn M_239 88 (.getfield 44) 3 91 := by decide +kernel
theorem d_239_91 : m_dn M_239 91 (.ireturn) 1 92 := by decide +kernel
theorem d_239_92 : m_dn M_239 92 (.iconst (-1)) 1 93 := by decide +kernel
theorem d_239_93 : m_dn M_239 93 (.ireturn) 1 94 := by decide +kernel
def F_rtell (y_edge y_status y_version y_which y_age y_how y_count y_tick what : Int32) : Int32 := (cond (decide (what = (0 : Int32))) y_status (cond (decide (what = (1 : Int32))) y_version (cond (decide (what = (2 : Int32))) y_age (cond (decide (what = (3 : Int32))) y_count (cond (decide (what = (4 : Int32))) y_how (cond (decide (what = (5 : Int32))) ((-1) : Int32) (cond (decide (what = (6 : Int32))) y_tick (cond (decide (what = (7 : Int32))) y_edge (cond (decide (what = (8 : Int32))) y_which ((-1) : Int32))))))))))
theorem P_rtell {l : Launch} {w : List mM} {y : Nat} {y_edge y_status y_head y_version y_which y_vary y_age y_how y_length y_from y_count y_seed y_tick what : Int32} {y_text : Value} (h_y : m_at w y = some (.inr (8, [.int y_edge, .int y_status, .int y_head, .int y_version, .int y_which, .int y_vary, .int y_age, .int y_how, .int y_length, .int y_from, .int y_count, .int y_seed, .int y_tick, y_text]))) : m_Rs l M_239 (m_ent M_239 [.ref y, .int what] w) (fun v w' => v = some (.int (F_rtell y_edge y_status y_version y_which y_age y_how y_count y_tick what)) ∧ w' = w) 0 0 0 0 := by
  show m_Rs l M_239 (0, [(0, .ref y), (1, .int what)], [], w) _ 0 0 0 0
  refine m_Rs.n0 b_239 (x_iload_n d_239_0 rfl) ?_
  cases hc1 : decide (what = (0 : Int32)) with
  | true =>
    refine m_Rs.n0 b_239 (x_tsw (t := 52) d_239_1 (by rw [of_decide_eq_true hc1]; rfl)) ?_
    refine m_Rs.n0 b_239 (x_aload_n d_239_52 rfl) ?_
    refine m_Rs.n0 b_239 (x_getf d_239_53 rfl h_y rfl) ?_
    refine m_Rs.ret b_239 (m_rt_ir d_239_56 rfl rfl) ?_
    exact ⟨by simp only [F_rtell, hc1, cond_true, cond_false], rfl⟩
  | false =>
    cases hc2 : decide (what = (1 : Int32)) with
    | true =>
      refine m_Rs.n0 b_239 (x_tsw (t := 57) d_239_1 (by rw [of_decide_eq_true hc2]; rfl)) ?_
      refine m_Rs.n0 b_239 (x_aload_n d_239_57 rfl) ?_
      refine m_Rs.n0 b_239 (x_getf d_239_58 rfl h_y rfl) ?_
      refine m_Rs.ret b_239 (m_rt_ir d_239_61 rfl rfl) ?_
      exact ⟨by simp only [F_rtell, hc1, hc2, cond_true, cond_false], rfl⟩
    | false =>
      cases hc3 : decide (what = (2 : Int32)) with
      | true =>
        refine m_Rs.n0 b_239 (x_tsw (t := 62) d_239_1 (by rw [of_decide_eq_true hc3]; rfl)) ?_
        refine m_Rs.n0 b_239 (x_aload_n d_239_62 rfl) ?_
        refine m_Rs.n0 b_239 (x_getf d_239_63 rfl h_y rfl) ?_
        refine m_Rs.ret b_239 (m_rt_ir d_239_66 rfl rfl) ?_
        exact ⟨by simp only [F_rtell, hc1, hc2, hc3, cond_true, cond_false], rfl⟩
      | false =>
        cases hc4 : decide (what = (3 : Int32)) with
        | true =>
          refine m_Rs.n0 b_239 (x_tsw (t := 67) d_239_1 (by rw [of_decide_eq_true hc4]; rfl)) ?_
          refine m_Rs.n0 b_239 (x_aload_n d_239_67 rfl) ?_
          refine m_Rs.n0 b_239 (x_getf d_239_68 rfl h_y rfl) ?_
          refine m_Rs.ret b_239 (m_rt_ir d_239_71 rfl rfl) ?_
          exact ⟨by simp only [F_rtell, hc1, hc2, hc3, hc4, cond_true, cond_false], rfl⟩
        | false =>
          cases hc5 : decide (what = (4 : Int32)) with
          | true =>
            refine m_Rs.n0 b_239 (x_tsw (t := 72) d_239_1 (by rw [of_decide_eq_true hc5]; rfl)) ?_
            refine m_Rs.n0 b_239 (x_aload_n d_239_72 rfl) ?_
            refine m_Rs.n0 b_239 (x_getf d_239_73 rfl h_y rfl) ?_
            refine m_Rs.ret b_239 (m_rt_ir d_239_76 rfl rfl) ?_
            exact ⟨by simp only [F_rtell, hc1, hc2, hc3, hc4, hc5, cond_true, cond_false], rfl⟩
          | false =>
            cases hc6 : decide (what = (5 : Int32)) with
            | true =>
              refine m_Rs.n0 b_239 (x_tsw (t := 92) d_239_1 (by rw [of_decide_eq_true hc6]; rfl)) ?_
              refine m_Rs.n0 b_239 (x_iconst (z := (-1)) d_239_92 (by decide)) ?_
              refine m_Rs.ret b_239 (m_rt_ir d_239_93 rfl rfl) ?_
              exact ⟨by simp only [F_rtell, hc1, hc2, hc3, hc4, hc5, hc6, cond_true, cond_false], rfl⟩
            | false =>
              cases hc7 : decide (what = (6 : Int32)) with
              | true =>
                refine m_Rs.n0 b_239 (x_tsw (t := 77) d_239_1 (by rw [of_decide_eq_true hc7]; rfl)) ?_
                refine m_Rs.n0 b_239 (x_aload_n d_239_77 rfl) ?_
                refine m_Rs.n0 b_239 (x_getf d_239_78 rfl h_y rfl) ?_
                refine m_Rs.ret b_239 (m_rt_ir d_239_81 rfl rfl) ?_
                exact ⟨by simp only [F_rtell, hc1, hc2, hc3, hc4, hc5, hc6, hc7, cond_true, cond_false], rfl⟩
              | false =>
                cases hc8 : decide (what = (7 : Int32)) with
                | true =>
                  refine m_Rs.n0 b_239 (x_tsw (t := 82) d_239_1 (by rw [of_decide_eq_true hc8]; rfl)) ?_
                  refine m_Rs.n0 b_239 (x_aload_n d_239_82 rfl) ?_
                  refine m_Rs.n0 b_239 (x_getf d_239_83 rfl h_y rfl) ?_
                  refine m_Rs.ret b_239 (m_rt_ir d_239_86 rfl rfl) ?_
                  exact ⟨by simp only [F_rtell, hc1, hc2, hc3, hc4, hc5, hc6, hc7, hc8, cond_true, cond_false], rfl⟩
                | false =>
                  cases hc9 : decide (what = (8 : Int32)) with
                  | true =>
                    refine m_Rs.n0 b_239 (x_tsw (t := 87) d_239_1 (by rw [of_decide_eq_true hc9]; rfl)) ?_
                    refine m_Rs.n0 b_239 (x_aload_n d_239_87 rfl) ?_
                    refine m_Rs.n0 b_239 (x_getf d_239_88 rfl h_y rfl) ?_
                    refine m_Rs.ret b_239 (m_rt_ir d_239_91 rfl rfl) ?_
                    exact ⟨by simp only [F_rtell, hc1, hc2, hc3, hc4, hc5, hc6, hc7, hc8, hc9, cond_true, cond_false], rfl⟩
                  | false =>
                    refine m_Rs.n0 b_239 (x_tsw (t := 92) d_239_1 (m_tsw_0 (n := 9) rfl (fun k hk => by match k, hk with | 0, _ => exact of_decide_eq_false hc1 | 1, _ => exact of_decide_eq_false hc2 | 2, _ => exact of_decide_eq_false hc3 | 3, _ => exact of_decide_eq_false hc4 | 4, _ => exact of_decide_eq_false hc5 | 5, _ => exact of_decide_eq_false hc6 | 6, _ => exact of_decide_eq_false hc7 | 7, _ => exact of_decide_eq_false hc8 | 8, _ => exact of_decide_eq_false hc9 | k + 9, hk => omega) rfl)) ?_
                    refine m_Rs.n0 b_239 (x_iconst (z := (-1)) d_239_92 (by decide)) ?_
                    refine m_Rs.ret b_239 (m_rt_ir d_239_93 rfl rfl) ?_
                    exact ⟨by simp only [F_rtell, hc1, hc2, hc3, hc4, hc5, hc6, hc7, hc8, hc9, cond_true, cond_false], rfl⟩
def F_etell (t_version t_vary e_mark e_age e_came e_blocks e_kept what now : Int32) : Int32 := (cond (m_c2 .lt what (16 : Int32)) (cond (decide (what = (0 : Int32))) t_version (cond (decide (what = (1 : Int32))) (F_ageAt e_age e_came now) (cond (decide (what = (2 : Int32))) (F_bc e_blocks) (cond (decide (what = (3 : Int32))) e_mark (cond (decide (what = (4 : Int32))) (cond (m_c1 .eq e_kept) (0 : Int32) (1 : Int32)) (cond (decide (what = (5 : Int32))) ((-1) : Int32) (cond (decide (what = (6 : Int32))) t_vary ((-1) : Int32)))))))) (cond (m_c2 .ge what (32 : Int32)) (cond (decide (what = (0 : Int32))) t_version (cond (decide (what = (1 : Int32))) (F_ageAt e_age e_came now) (cond (decide (what = (2 : Int32))) (F_bc e_blocks) (cond (decide (what = (3 : Int32))) e_mark (cond (decide (what = (4 : Int32))) (cond (m_c1 .eq e_kept) (0 : Int32) (1 : Int32)) (cond (decide (what = (5 : Int32))) ((-1) : Int32) (cond (decide (what = (6 : Int32))) t_vary ((-1) : Int32)))))))) ((e_blocks >>> ((what - (16 : Int32)) &&& 31)) &&& (1 : Int32))))
theorem P_etell {l : Launch} {w : List mM} {e t : Nat} {e_path e_variant t_path t_version t_length t_maxAge t_staleIfError t_staleWhile t_noStore t_noCache t_keys t_vary e_which e_mark e_age e_came e_blocks e_kept what now : Int32} (h_e : m_at w e = some (.inr (11, [.int e_path, .int e_variant, .ref t, .int e_which, .int e_mark, .int e_age, .int e_came, .int e_blocks, .int e_kept]))) (h_t : m_at w t = some (.inr (13, [.int t_path, .int t_version, .int t_length, .int t_maxAge, .int t_staleIfError, .int t_staleWhile, .int t_noStore, .int t_noCache, .int t_keys, .int t_vary]))) : m_Rs l M_224 (m_ent M_224 [.ref e, .int what, .int now] w) (fun v w' => v = some (.int (F_etell t_version t_vary e_mark e_age e_came e_blocks e_kept what now)) ∧ w' = w) 0 0 1 100 := by
  show m_Rs l M_224 (0, [(0, .ref e), (1, .int what), (2, .int now)], [], w) _ 0 0 1 100
  refine m_Rs.n0 b_224 (x_iload_n d_224_0 rfl) ?_
  refine m_Rs.n0 b_224 (x_bipush (z := 16) d_224_1 (by decide)) ?_
  cases hc1 : m_c2 .lt what (16 : Int32) with
  | true =>
    refine m_Rs.n0 b_224 (x_ict d_224_3 rfl hc1) ?_
    refine m_Rs.n0 b_224 (x_iload_n d_224_24 rfl) ?_
    cases hc2 : decide (what = (0 : Int32)) with
    | true =>
      refine m_Rs.n0 b_224 (x_tsw (t := 68) d_224_25 (by rw [of_decide_eq_true hc2]; rfl)) ?_
      refine m_Rs.n0 b_224 (x_aload_n d_224_68 rfl) ?_
      refine m_Rs.n0 b_224 (x_getf d_224_69 rfl h_e rfl) ?_
      refine m_Rs.n0 b_224 (x_getf d_224_72 rfl h_t rfl) ?_
      refine m_Rs.ret b_224 (m_rt_ir d_224_75 rfl rfl) ?_
      exact ⟨by simp only [F_etell, hc1, hc2, cond_true, cond_false], rfl⟩
    | false =>
      cases hc3 : decide (what = (1 : Int32)) with
      | true =>
        refine m_Rs.n0 b_224 (x_tsw (t := 76) d_224_25 (by rw [of_decide_eq_true hc3]; rfl)) ?_
        refine m_Rs.n0 b_224 (x_aload_n d_224_76 rfl) ?_
        refine m_Rs.n0 b_224 (x_iload_n d_224_77 rfl) ?_
        refine m_Rs.callE b_224 (y_cv d_224_78 rfl q_83 (m_isRecv_of rfl h_e) (show m_takeI _ _ = some (_, [_, _], []) from rfl) (by simp only [m_okf, List.all_cons, List.all_nil, Bool.and_true, Bool.and_self, m_okv_i, m_okv_l, m_okv_0, m_okv_t, m_okv_at h_e]) rfl) (P_ageAt h_e) rfl ?_ (by decide) (by decide)
        refine m_Rs.ret b_224 (m_rt_ir d_224_81 rfl rfl) ?_
        exact ⟨by simp only [F_etell, hc1, hc2, hc3, cond_true, cond_false], rfl⟩
      | false =>
        cases hc4 : decide (what = (2 : Int32)) with
        | true =>
          refine m_Rs.n0 b_224 (x_tsw (t := 82) d_224_25 (by rw [of_decide_eq_true hc4]; rfl)) ?_
          refine m_Rs.n0 b_224 (x_aload_n d_224_82 rfl) ?_
          refine m_Rs.n0 b_224 (x_getf d_224_83 rfl h_e rfl) ?_
          refine m_Rs.callE b_224 (y_cs d_224_86 rfl q_100 (show m_takeS _ _ = some (_, [_], []) from rfl) (by simp only [m_okf, List.all_cons, List.all_nil, Bool.and_true, Bool.and_self, m_okv_i, m_okv_l, m_okv_0, m_okv_t, m_okv_at h_e]) rfl) (P_bc) rfl ?_ (by decide) (by decide)
          refine m_Rs.ret b_224 (m_rt_ir d_224_89 rfl rfl) ?_
          exact ⟨by simp only [F_etell, hc1, hc2, hc3, hc4, cond_true, cond_false], rfl⟩
        | false =>
          cases hc5 : decide (what = (3 : Int32)) with
          | true =>
            refine m_Rs.n0 b_224 (x_tsw (t := 90) d_224_25 (by rw [of_decide_eq_true hc5]; rfl)) ?_
            refine m_Rs.n0 b_224 (x_aload_n d_224_90 rfl) ?_
            refine m_Rs.n0 b_224 (x_getf d_224_91 rfl h_e rfl) ?_
            refine m_Rs.ret b_224 (m_rt_ir d_224_94 rfl rfl) ?_
            exact ⟨by simp only [F_etell, hc1, hc2, hc3, hc4, hc5, cond_true, cond_false], rfl⟩
          | false =>
            cases hc6 : decide (what = (4 : Int32)) with
            | true =>
              refine m_Rs.n0 b_224 (x_tsw (t := 95) d_224_25 (by rw [of_decide_eq_true hc6]; rfl)) ?_
              refine m_Rs.n0 b_224 (x_aload_n d_224_95 rfl) ?_
              refine m_Rs.n0 b_224 (x_getf d_224_96 rfl h_e rfl) ?_
              cases hc7 : m_c1 .eq e_kept with
              | true =>
                refine m_Rs.n0 b_224 (x_ift d_224_99 rfl hc7) ?_
                refine m_Rs.n0 b_224 (x_iconst (z := 0) d_224_106 (by decide)) ?_
                refine m_Rs.ret b_224 (m_rt_ir d_224_107 rfl rfl) ?_
                exact ⟨by simp only [F_etell, hc1, hc2, hc3, hc4, hc5, hc6, hc7, cond_true, cond_false], rfl⟩
              | false =>
                refine m_Rs.n0 b_224 (x_iff d_224_99 rfl hc7) ?_
                refine m_Rs.n0 b_224 (x_iconst (z := 1) d_224_102 (by decide)) ?_
                refine m_Rs.n0 b_224 (x_goto d_224_103 rfl) ?_
                refine m_Rs.ret b_224 (m_rt_ir d_224_107 rfl rfl) ?_
                exact ⟨by simp only [F_etell, hc1, hc2, hc3, hc4, hc5, hc6, hc7, cond_true, cond_false], rfl⟩
            | false =>
              cases hc8 : decide (what = (5 : Int32)) with
              | true =>
                refine m_Rs.n0 b_224 (x_tsw (t := 116) d_224_25 (by rw [of_decide_eq_true hc8]; rfl)) ?_
                refine m_Rs.n0 b_224 (x_iconst (z := (-1)) d_224_116 (by decide)) ?_
                refine m_Rs.ret b_224 (m_rt_ir d_224_117 rfl rfl) ?_
                exact ⟨by simp only [F_etell, hc1, hc2, hc3, hc4, hc5, hc6, hc8, cond_true, cond_false], rfl⟩
              | false =>
                cases hc9 : decide (what = (6 : Int32)) with
                | true =>
                  refine m_Rs.n0 b_224 (x_tsw (t := 108) d_224_25 (by rw [of_decide_eq_true hc9]; rfl)) ?_
                  refine m_Rs.n0 b_224 (x_aload_n d_224_108 rfl) ?_
                  refine m_Rs.n0 b_224 (x_getf d_224_109 rfl h_e rfl) ?_
                  refine m_Rs.n0 b_224 (x_getf d_224_112 rfl h_t rfl) ?_
                  refine m_Rs.ret b_224 (m_rt_ir d_224_115 rfl rfl) ?_
                  exact ⟨by simp only [F_etell, hc1, hc2, hc3, hc4, hc5, hc6, hc8, hc9, cond_true, cond_false], rfl⟩
                | false =>
                  refine m_Rs.n0 b_224 (x_tsw (t := 116) d_224_25 (m_tsw_0 (n := 7) rfl (fun k hk => by match k, hk with | 0, _ => exact of_decide_eq_false hc2 | 1, _ => exact of_decide_eq_false hc3 | 2, _ => exact of_decide_eq_false hc4 | 3, _ => exact of_decide_eq_false hc5 | 4, _ => exact of_decide_eq_false hc6 | 5, _ => exact of_decide_eq_false hc8 | 6, _ => exact of_decide_eq_false hc9 | k + 7, hk => omega) rfl)) ?_
                  refine m_Rs.n0 b_224 (x_iconst (z := (-1)) d_224_116 (by decide)) ?_
                  refine m_Rs.ret b_224 (m_rt_ir d_224_117 rfl rfl) ?_
                  exact ⟨by simp only [F_etell, hc1, hc2, hc3, hc4, hc5, hc6, hc8, hc9, cond_true, cond_false], rfl⟩
  | false =>
    refine m_Rs.n0 b_224 (x_icf d_224_3 rfl hc1) ?_
    refine m_Rs.n0 b_224 (x_iload_n d_224_6 rfl) ?_
    refine m_Rs.n0 b_224 (x_bipush (z := 32) d_224_7 (by decide)) ?_
    cases hc10 : m_c2 .ge what (32 : Int32) with
    | true =>
      refine m_Rs.n0 b_224 (x_ict d_224_9 rfl hc10) ?_
      refine m_Rs.n0 b_224 (x_iload_n d_224_24 rfl) ?_
      cases hc11 : decide (what = (0 : Int32)) with
      | true =>
        refine m_Rs.n0 b_224 (x_tsw (t := 68) d_224_25 (by rw [of_decide_eq_true hc11]; rfl)) ?_
        refine m_Rs.n0 b_224 (x_aload_n d_224_68 rfl) ?_
        refine m_Rs.n0 b_224 (x_getf d_224_69 rfl h_e rfl) ?_
        refine m_Rs.n0 b_224 (x_getf d_224_72 rfl h_t rfl) ?_
        refine m_Rs.ret b_224 (m_rt_ir d_224_75 rfl rfl) ?_
        exact ⟨by simp only [F_etell, hc1, hc10, hc11, cond_true, cond_false], rfl⟩
      | false =>
        cases hc12 : decide (what = (1 : Int32)) with
        | true =>
          refine m_Rs.n0 b_224 (x_tsw (t := 76) d_224_25 (by rw [of_decide_eq_true hc12]; rfl)) ?_
          refine m_Rs.n0 b_224 (x_aload_n d_224_76 rfl) ?_
          refine m_Rs.n0 b_224 (x_iload_n d_224_77 rfl) ?_
          refine m_Rs.callE b_224 (y_cv d_224_78 rfl q_83 (m_isRecv_of rfl h_e) (show m_takeI _ _ = some (_, [_, _], []) from rfl) (by simp only [m_okf, List.all_cons, List.all_nil, Bool.and_true, Bool.and_self, m_okv_i, m_okv_l, m_okv_0, m_okv_t, m_okv_at h_e]) rfl) (P_ageAt h_e) rfl ?_ (by decide) (by decide)
          refine m_Rs.ret b_224 (m_rt_ir d_224_81 rfl rfl) ?_
          exact ⟨by simp only [F_etell, hc1, hc10, hc11, hc12, cond_true, cond_false], rfl⟩
        | false =>
          cases hc13 : decide (what = (2 : Int32)) with
          | true =>
            refine m_Rs.n0 b_224 (x_tsw (t := 82) d_224_25 (by rw [of_decide_eq_true hc13]; rfl)) ?_
            refine m_Rs.n0 b_224 (x_aload_n d_224_82 rfl) ?_
            refine m_Rs.n0 b_224 (x_getf d_224_83 rfl h_e rfl) ?_
            refine m_Rs.callE b_224 (y_cs d_224_86 rfl q_100 (show m_takeS _ _ = some (_, [_], []) from rfl) (by simp only [m_okf, List.all_cons, List.all_nil, Bool.and_true, Bool.and_self, m_okv_i, m_okv_l, m_okv_0, m_okv_t, m_okv_at h_e]) rfl) (P_bc) rfl ?_ (by decide) (by decide)
            refine m_Rs.ret b_224 (m_rt_ir d_224_89 rfl rfl) ?_
            exact ⟨by simp only [F_etell, hc1, hc10, hc11, hc12, hc13, cond_true, cond_false], rfl⟩
          | false =>
            cases hc14 : decide (what = (3 : Int32)) with
            | true =>
              refine m_Rs.n0 b_224 (x_tsw (t := 90) d_224_25 (by rw [of_decide_eq_true hc14]; rfl)) ?_
              refine m_Rs.n0 b_224 (x_aload_n d_224_90 rfl) ?_
              refine m_Rs.n0 b_224 (x_getf d_224_91 rfl h_e rfl) ?_
              refine m_Rs.ret b_224 (m_rt_ir d_224_94 rfl rfl) ?_
              exact ⟨by simp only [F_etell, hc1, hc10, hc11, hc12, hc13, hc14, cond_true, cond_false], rfl⟩
            | false =>
              cases hc15 : decide (what = (4 : Int32)) with
              | true =>
                refine m_Rs.n0 b_224 (x_tsw (t := 95) d_224_25 (by rw [of_decide_eq_true hc15]; rfl)) ?_
                refine m_Rs.n0 b_224 (x_aload_n d_224_95 rfl) ?_
                refine m_Rs.n0 b_224 (x_getf d_224_96 rfl h_e rfl) ?_
                cases hc16 : m_c1 .eq e_kept with
                | true =>
                  refine m_Rs.n0 b_224 (x_ift d_224_99 rfl hc16) ?_
                  refine m_Rs.n0 b_224 (x_iconst (z := 0) d_224_106 (by decide)) ?_
                  refine m_Rs.ret b_224 (m_rt_ir d_224_107 rfl rfl) ?_
                  exact ⟨by simp only [F_etell, hc1, hc10, hc11, hc12, hc13, hc14, hc15, hc16, cond_true, cond_false], rfl⟩
                | false =>
                  refine m_Rs.n0 b_224 (x_iff d_224_99 rfl hc16) ?_
                  refine m_Rs.n0 b_224 (x_iconst (z := 1) d_224_102 (by decide)) ?_
                  refine m_Rs.n0 b_224 (x_goto d_224_103 rfl) ?_
                  refine m_Rs.ret b_224 (m_rt_ir d_224_107 rfl rfl) ?_
                  exact ⟨by simp only [F_etell, hc1, hc10, hc11, hc12, hc13, hc14, hc15, hc16, cond_true, cond_false], rfl⟩
              | false =>
                cases hc17 : decide (what = (5 : Int32)) with
                | true =>
                  refine m_Rs.n0 b_224 (x_tsw (t := 116) d_224_25 (by rw [of_decide_eq_true hc17]; rfl)) ?_
                  refine m_Rs.n0 b_224 (x_iconst (z := (-1)) d_224_116 (by decide)) ?_
                  refine m_Rs.ret b_224 (m_rt_ir d_224_117 rfl rfl) ?_
                  exact ⟨by simp only [F_etell, hc1, hc10, hc11, hc12, hc13, hc14, hc15, hc17, cond_true, cond_false], rfl⟩
                | false =>
                  cases hc18 : decide (what = (6 : Int32)) with
                  | true =>
                    refine m_Rs.n0 b_224 (x_tsw (t := 108) d_224_25 (by rw [of_decide_eq_true hc18]; rfl)) ?_
                    refine m_Rs.n0 b_224 (x_aload_n d_224_108 rfl) ?_
                    refine m_Rs.n0 b_224 (x_getf d_224_109 rfl h_e rfl) ?_
                    refine m_Rs.n0 b_224 (x_getf d_224_112 rfl h_t rfl) ?_
                    refine m_Rs.ret b_224 (m_rt_ir d_224_115 rfl rfl) ?_
                    exact ⟨by simp only [F_etell, hc1, hc10, hc11, hc12, hc13, hc14, hc15, hc17, hc18, cond_true, cond_false], rfl⟩
                  | false =>
                    refine m_Rs.n0 b_224 (x_tsw (t := 116) d_224_25 (m_tsw_0 (n := 7) rfl (fun k hk => by match k, hk with | 0, _ => exact of_decide_eq_false hc11 | 1, _ => exact of_decide_eq_false hc12 | 2, _ => exact of_decide_eq_false hc13 | 3, _ => exact of_decide_eq_false hc14 | 4, _ => exact of_decide_eq_false hc15 | 5, _ => exact of_decide_eq_false hc17 | 6, _ => exact of_decide_eq_false hc18 | k + 7, hk => omega) rfl)) ?_
                    refine m_Rs.n0 b_224 (x_iconst (z := (-1)) d_224_116 (by decide)) ?_
                    refine m_Rs.ret b_224 (m_rt_ir d_224_117 rfl rfl) ?_
                    exact ⟨by simp only [F_etell, hc1, hc10, hc11, hc12, hc13, hc14, hc15, hc17, hc18, cond_true, cond_false], rfl⟩
    | false =>
      refine m_Rs.n0 b_224 (x_icf d_224_9 rfl hc10) ?_
      refine m_Rs.n0 b_224 (x_aload_n d_224_12 rfl) ?_
      refine m_Rs.n0 b_224 (x_getf d_224_13 rfl h_e rfl) ?_
      refine m_Rs.n0 b_224 (x_iload_n d_224_16 rfl) ?_
      refine m_Rs.n0 b_224 (x_bipush (z := 16) d_224_17 (by decide)) ?_
      refine m_Rs.n0 b_224 (x_isub d_224_19 rfl) ?_
      refine m_Rs.n0 b_224 (x_ishr d_224_20 rfl) ?_
      refine m_Rs.n0 b_224 (x_iconst (z := 1) d_224_21 (by decide)) ?_
      refine m_Rs.n0 b_224 (x_iand d_224_22 rfl) ?_
      refine m_Rs.ret b_224 (m_rt_ir d_224_23 rfl rfl) ?_
      exact ⟨by simp only [F_etell, hc1, hc10, cond_true, cond_false], rfl⟩
