/-! ===== law ===== -/
noncomputable def f_L_below (p1 : Int32) (p2 : Int32) : Option (Int32) :=
  (if p2 = 0 then
    none
  else
    some ((p1 &&& 2147483647) - (p1 &&& 2147483647) / p2 * p2))

noncomputable def f_L_cell (p2 : Int32) (xL : Nat) (xs : Nat → Int32) : Option (Int32) :=
  (if (Int32.ofNat xL) ≤ p2 then
    some (790386105 * (p2 + 3))
  else
    (rdc p2 xL
    (some (xs p2.toNatClampNeg))))

noncomputable def f_L_valueBefore_L8 (w_k_v : Nat → Int32) : Nat → Int32 → Option (Int32)
  | 0, _ => none
  | n + 1, x3_L8 =>
    (rdc x3_L8 40
    (if (w_k_v x3_L8.toNatClampNeg) = 6 then
      f_L_valueBefore_L8 w_k_v n (x3_L8 + (-1))
    else
      some x3_L8))

noncomputable def f_L_valueBefore (p2 : Int32) (p3 : Int32) (w_k_v : Nat → Int32) : Option (Int32) :=
  (Option.bind (f_L_valueBefore_L8 w_k_v 4000 (if (p2 - 1) < p3 then (p2 - 1) else p3)) fun v8 =>
    some v8)

noncomputable def f_L_build_L17 (xL : Nat) (xs : Nat → Int32) (p3 : Int32) (u8 : Int32) : Nat → Int32 → (Nat → Int32) → (Nat → Int32) → (Nat → Int32) → (Nat → Int32) → (Nat → Int32) → Int32 → Int32 → (Nat → Int32) → (Nat → Int32) → (Nat → Int32) → Option ((Nat → Int32) × (Nat → Int32) × (Nat → Int32) × (Nat → Int32) × (Nat → Int32) × Int32 × Int32 × (Nat → Int32) × (Nat → Int32) × (Nat → Int32))
  | 0, _, _, _, _, _, _, _, _, _, _, _ => none
  | n + 1, x7_L17, w_r_code_kinds_L17, w_r_code_firsts_L17, w_r_code_seconds_L17, w_r_code_ints_L17, w_r_code_counting_L17, w_r_code_length_L17, w_r_allocated_L17, w_k_v_L17, w_a_v_L17, w_b_v_L17 =>
    (if (3 + u8) ≤ x7_L17 then
      some (w_r_code_kinds_L17, w_r_code_firsts_L17, w_r_code_seconds_L17, w_r_code_ints_L17, w_r_code_counting_L17, w_r_code_length_L17, w_r_allocated_L17, w_k_v_L17, w_a_v_L17, w_b_v_L17)
    else
      (Option.bind (f_L_cell ((p3 + 1) + (x7_L17 - x7_L17 / 20 * 20)) xL xs) fun u34 =>
      (Option.bind ((if x7_L17 = 0 then
        some 0
      else
        (Option.bind (f_L_below (u34 + ((x7_L17 / 20) * 104729)) 10) fun u64 =>
        some u64)) : Option (Int32)) fun r53 =>
      (rdc x7_L17 40
      (rdc x7_L17 40
      (Option.bind ((if ((upd w_k_v_L17 x7_L17.toNatClampNeg r53) x7_L17.toNatClampNeg) ≤ 6 then
        some (upd w_k_v_L17 x7_L17.toNatClampNeg r53)
      else
        (Option.bind (f_L_below ((u34 + ((x7_L17 / 20) * 104729)) >>> (4 &&& 31)) 4) fun u86 =>
        (rdc x7_L17 40
        (some (upd (upd w_k_v_L17 x7_L17.toNatClampNeg r53) x7_L17.toNatClampNeg (1 + u86)))))) : Option ((Nat → Int32))) fun r74 =>
      (rdc x7_L17 40
      (Option.bind ((if (r74 x7_L17.toNatClampNeg) = 0 then
        some (((u34 + ((x7_L17 / 20) * 104729)) >>> (5 &&& 31)) - 5000)
      else
        (Option.bind (f_L_below ((u34 + ((x7_L17 / 20) * 104729)) >>> (7 &&& 31)) x7_L17) fun u123 =>
        (Option.bind (f_L_valueBefore x7_L17 u123 r74) fun u126 =>
        some u126))) : Option (Int32)) fun r99 =>
      (rdc x7_L17 40
      (rdc x7_L17 40
      (Option.bind ((if (r74 x7_L17.toNatClampNeg) < 1 then
        some (-1)
      else
        (rdc x7_L17 40
        (Option.bind ((if 4 < (r74 x7_L17.toNatClampNeg) then
          some (-1)
        else
          (Option.bind (f_L_below ((u34 + ((x7_L17 / 20) * 104729)) >>> (13 &&& 31)) x7_L17) fun u160 =>
          (Option.bind (f_L_valueBefore x7_L17 u160 r74) fun u163 =>
          some u163))) : Option (Int32)) fun r147 =>
        some r147))) : Option (Int32)) fun r139 =>
      (rdc x7_L17 40
      (rdc x7_L17 40
      (Option.bind ((if (r74 x7_L17.toNatClampNeg) = 0 then
        (rdc x7_L17 40
        (Option.bind (f_X4_constant ((upd w_a_v_L17 x7_L17.toNatClampNeg r99) x7_L17.toNatClampNeg) w_r_code_kinds_L17 w_r_code_firsts_L17 w_r_code_seconds_L17 w_r_code_ints_L17 w_r_code_counting_L17 w_r_code_length_L17) fun u184 =>
        some (u184.1, u184.2.1, u184.2.2.1, u184.2.2.2.1, u184.2.2.2.2.1, u184.2.2.2.2.2.1, u184.2.2.2.2.2.2.1, u184.2.2.2.2.2.2.2)))
      else
        (rdc x7_L17 40
        (Option.bind ((if 4 < (r74 x7_L17.toNatClampNeg) then
          (rdc x7_L17 40
          (rdc x7_L17 40
          (Option.bind (f_X4_pass (r74 x7_L17.toNatClampNeg) ((upd w_a_v_L17 x7_L17.toNatClampNeg r99) x7_L17.toNatClampNeg) w_r_code_kinds_L17 w_r_code_firsts_L17 w_r_code_seconds_L17 w_r_code_ints_L17 w_r_code_counting_L17 w_r_code_length_L17) fun u229 =>
          some (u229.1, u229.2.1, u229.2.2.1, u229.2.2.2.1, u229.2.2.2.2.1, u229.2.2.2.2.2.1, u229.2.2.2.2.2.2.1, u229.2.2.2.2.2.2.2))))
        else
          (rdc x7_L17 40
          (rdc x7_L17 40
          (rdc x7_L17 40
          (Option.bind (f_X4_operate (r74 x7_L17.toNatClampNeg) ((upd w_a_v_L17 x7_L17.toNatClampNeg r99) x7_L17.toNatClampNeg) ((upd w_b_v_L17 x7_L17.toNatClampNeg r139) x7_L17.toNatClampNeg) w_r_code_kinds_L17 w_r_code_firsts_L17 w_r_code_seconds_L17 w_r_code_ints_L17 w_r_code_counting_L17 w_r_code_length_L17) fun u213 =>
          some (u213.1, u213.2.1, u213.2.2.1, u213.2.2.2.1, u213.2.2.2.2.1, u213.2.2.2.2.2.1, u213.2.2.2.2.2.2.1, u213.2.2.2.2.2.2.2)))))) : Option (Int32 × (Nat → Int32) × (Nat → Int32) × (Nat → Int32) × (Nat → Int32) × (Nat → Int32) × Int32 × Int32)) fun r195 =>
        some (r195.1, r195.2.1, r195.2.2.1, r195.2.2.2.1, r195.2.2.2.2.1, r195.2.2.2.2.2.1, r195.2.2.2.2.2.2.1, r195.2.2.2.2.2.2.2)))) : Option (Int32 × (Nat → Int32) × (Nat → Int32) × (Nat → Int32) × (Nat → Int32) × (Nat → Int32) × Int32 × Int32)) fun r175 =>
      (if r175.1 = x7_L17 then
        (Option.bind (f_X4_kind x7_L17 r175.2.1 r175.2.2.2.2.2.2.1) fun u244 =>
        (rdc x7_L17 40
        (if u244 = (r74 x7_L17.toNatClampNeg) then
          f_L_build_L17 xL xs p3 u8 n (x7_L17 + 1) r175.2.1 r175.2.2.1 r175.2.2.2.1 r175.2.2.2.2.1 r175.2.2.2.2.2.1 r175.2.2.2.2.2.2.1 r175.2.2.2.2.2.2.2 r74 (upd w_a_v_L17 x7_L17.toNatClampNeg r99) (upd w_b_v_L17 x7_L17.toNatClampNeg r139)
        else
          none)))
      else
        none)))))))))))))))

noncomputable def f_L_build (p3 : Int32) (w_r_code_kinds : Nat → Int32) (w_r_code_firsts : Nat → Int32) (w_r_code_seconds : Nat → Int32) (w_r_code_ints : Nat → Int32) (w_r_code_counting : Nat → Int32) (w_r_code_length : Int32) (w_r_allocated : Int32) (w_k_v : Nat → Int32) (w_a_v : Nat → Int32) (w_b_v : Nat → Int32) (xL : Nat) (xs : Nat → Int32) : Option (Int32 × (Nat → Int32) × (Nat → Int32) × (Nat → Int32) × (Nat → Int32) × (Nat → Int32) × Int32 × Int32 × (Nat → Int32) × (Nat → Int32) × (Nat → Int32)) :=
  (Option.bind (f_L_cell p3 xL xs) fun u3 =>
  (Option.bind (f_L_below u3 30) fun u8 =>
  (Option.bind (f_L_build_L17 xL xs p3 u8 4000 0 w_r_code_kinds w_r_code_firsts w_r_code_seconds w_r_code_ints w_r_code_counting w_r_code_length w_r_allocated w_k_v w_a_v w_b_v) fun v17 =>
    (Option.bind (f_X4_size v17.2.2.2.2.2.1) fun u263 =>
    (if u263 = (3 + u8) then
      some ((3 + u8), v17.1, v17.2.1, v17.2.2.1, v17.2.2.2.1, v17.2.2.2.2.1, v17.2.2.2.2.2.1, v17.2.2.2.2.2.2.1, v17.2.2.2.2.2.2.2.1, v17.2.2.2.2.2.2.2.2.1, v17.2.2.2.2.2.2.2.2.2)
    else
      none)))))

noncomputable def f_L_uses (p4 : Int32) (p5 : Int32) (w_k_v : Nat → Int32) (w_a_v : Nat → Int32) (w_b_v : Nat → Int32) : Option (Int32) :=
  (rdc p4 40
  (if (w_k_v p4.toNatClampNeg) = 0 then
    some 0
  else
    (rdc p4 40
    (if (w_a_v p4.toNatClampNeg) = p5 then
      some 1
    else
      (rdc p4 40
      (if (w_b_v p4.toNatClampNeg) = p5 then
        some 1
      else
        some 0))))))

noncomputable def f_L_count_L35 (w_k_v : Nat → Int32) (w_a_v : Nat → Int32) (w_b_v : Nat → Int32) (p1 : Int32) (x5_L5 : Int32) : Nat → Int32 → (Nat → Int32) → Option ((Nat → Int32))
  | 0, _, _ => none
  | n + 1, x6_L35, w_c_v_L35 =>
    (if p1 ≤ x6_L35 then
      some w_c_v_L35
    else
      (rdc x5_L5 40
      (if (w_c_v_L35 x5_L5.toNatClampNeg) = 0 then
        (rdc x6_L35 40
        (if (w_c_v_L35 x6_L35.toNatClampNeg) = 0 then
          (rdc x5_L5 40
          (f_L_count_L35 w_k_v w_a_v w_b_v p1 x5_L5 n (x6_L35 + 1) (upd w_c_v_L35 x5_L5.toNatClampNeg 0)))
        else
          (Option.bind (f_L_uses x6_L35 x5_L5 w_k_v w_a_v w_b_v) fun u68 =>
          (if u68 = 0 then
            (rdc x5_L5 40
            (f_L_count_L35 w_k_v w_a_v w_b_v p1 x5_L5 n (x6_L35 + 1) (upd w_c_v_L35 x5_L5.toNatClampNeg 0)))
          else
            (rdc x5_L5 40
            (f_L_count_L35 w_k_v w_a_v w_b_v p1 x5_L5 n (x6_L35 + 1) (upd w_c_v_L35 x5_L5.toNatClampNeg 1)))))))
      else
        (rdc x5_L5 40
        (f_L_count_L35 w_k_v w_a_v w_b_v p1 x5_L5 n (x6_L35 + 1) (upd w_c_v_L35 x5_L5.toNatClampNeg 1))))))

noncomputable def f_L_count_L5 (w_k_v : Nat → Int32) (w_a_v : Nat → Int32) (w_b_v : Nat → Int32) (p1 : Int32) : Nat → Int32 → (Nat → Int32) → Option ((Nat → Int32))
  | 0, _, _ => none
  | n + 1, x5_L5, w_c_v_L5 =>
    (if x5_L5 < 0 then
      some w_c_v_L5
    else
      (rdc x5_L5 40
      (if (w_k_v x5_L5.toNatClampNeg) = 6 then
        (rdc x5_L5 40
        (Option.bind (f_L_count_L35 w_k_v w_a_v w_b_v p1 x5_L5 4000 (x5_L5 + 1) (upd w_c_v_L5 x5_L5.toNatClampNeg 1)) fun v35 =>
          f_L_count_L5 w_k_v w_a_v w_b_v p1 n (x5_L5 + (-1)) v35))
      else
        (rdc x5_L5 40
        (Option.bind (f_L_count_L35 w_k_v w_a_v w_b_v p1 x5_L5 4000 (x5_L5 + 1) (upd w_c_v_L5 x5_L5.toNatClampNeg 0)) fun v35 =>
          f_L_count_L5 w_k_v w_a_v w_b_v p1 n (x5_L5 + (-1)) v35)))))

noncomputable def f_L_count (p1 : Int32) (w_k_v : Nat → Int32) (w_a_v : Nat → Int32) (w_b_v : Nat → Int32) (w_c_v : Nat → Int32) : Option ((Nat → Int32)) :=
  (Option.bind (f_L_count_L5 w_k_v w_a_v w_b_v p1 4000 (p1 - 1) w_c_v) fun v5 =>
    some v5)

noncomputable def f_L_law_L120 (u84_0 : Int32) (u84_1 : Nat → Int32) (u84_2 : Int32) (u84_13 : Int32) : Nat → Int32 → Option (Int32)
  | 0, _ => none
  | n + 1, x10_L120 =>
    (if u84_0 ≤ x10_L120 then
      some x10_L120
    else
      (Option.bind (f_X4_step x10_L120 0 u84_1 u84_2 u84_13) fun u131 =>
      (if u131 = 0 then
        f_L_law_L120 u84_0 u84_1 u84_2 u84_13 n (x10_L120 + 1)
      else
        (Option.bind (f_X4_step x10_L120 0 u84_1 u84_2 u84_13) fun u141 =>
        (if u141 ≤ 6 then
          some x10_L120
        else
          f_L_law_L120 u84_0 u84_1 u84_2 u84_13 n (x10_L120 + 1))))))

noncomputable def f_L_law_L95 (w_k_v : Nat → Int32) (w_c_v : Nat → Int32) (p5 : Int32) (u84_0 : Int32) (u84_1 : Nat → Int32) (u84_2 : Int32) (u84_13 : Int32) : Nat → Int32 → Int32 → Option (Int32)
  | 0, _, _ => none
  | n + 1, x11_L95, x10_L95 =>
    (if p5 ≤ x11_L95 then
      some x10_L95
    else
      (rdc x11_L95 40
      (if (w_c_v x11_L95.toNatClampNeg) = 0 then
        f_L_law_L95 w_k_v w_c_v p5 u84_0 u84_1 u84_2 u84_13 n (x11_L95 + 1) x10_L95
      else
        (rdc x11_L95 40
        (if (w_k_v x11_L95.toNatClampNeg) = 0 then
          f_L_law_L95 w_k_v w_c_v p5 u84_0 u84_1 u84_2 u84_13 n (x11_L95 + 1) x10_L95
        else
          (Option.bind (f_L_law_L120 u84_0 u84_1 u84_2 u84_13 4000 x10_L95) fun v120 =>
            (if v120 = u84_0 then
              none
            else
              (Option.bind (f_X4_step v120 0 u84_1 u84_2 u84_13) fun u166 =>
              (rdc x11_L95 40
              (if u166 = (w_k_v x11_L95.toNatClampNeg) then
                f_L_law_L95 w_k_v w_c_v p5 u84_0 u84_1 u84_2 u84_13 n (x11_L95 + 1) (v120 + 1)
              else
                none))))))))))

noncomputable def f_L_law_L187 (u84_0 : Int32) (u84_1 : Nat → Int32) (u84_2 : Int32) (u84_13 : Int32) : Nat → Int32 → Option (Unit)
  | 0, _ => none
  | n + 1, x10_L187 =>
    (if u84_0 ≤ x10_L187 then
      some ()
    else
      (Option.bind (f_X4_step x10_L187 0 u84_1 u84_2 u84_13) fun u198 =>
      (if u198 ≤ 0 then
        f_L_law_L187 u84_0 u84_1 u84_2 u84_13 n (x10_L187 + 1)
      else
        (Option.bind (f_X4_step x10_L187 0 u84_1 u84_2 u84_13) fun u208 =>
        (if 7 ≤ u208 then
          f_L_law_L187 u84_0 u84_1 u84_2 u84_13 n (x10_L187 + 1)
        else
          none)))))

noncomputable def f_L_law_L295 (u84_1 : Nat → Int32) (u84_2 : Int32) (u84_3 : Nat → Int32) (u84_4 : Int32) (u84_13 : Int32) (x13_L239 : Int32) (u252 : Int32) : Nat → Int32 → (Nat → Int32) → Option ((Nat → Int32))
  | 0, _, _ => none
  | n + 1, x16_L295, e_q226_L295 =>
    (Option.bind (f_X4_piece x13_L239 3 u84_3 u84_4 u84_13) fun u301 =>
    (if u301 < x16_L295 then
      some e_q226_L295
    else
      (rdc u252 40
      (Option.bind (f_X4_step x16_L295 0 u84_1 u84_2 u84_13) fun u317 =>
      (if u317 = 8 then
        (Option.bind (f_X4_step x16_L295 1 u84_1 u84_2 u84_13) fun u329 =>
        (Option.bind (f_X4_piece x13_L239 1 u84_3 u84_4 u84_13) fun u336 =>
        (if u329 = u336 then
          (rdc u252 40
          (f_L_law_L295 u84_1 u84_2 u84_3 u84_4 u84_13 x13_L239 u252 n (x16_L295 + 1) (upd e_q226_L295 u252.toNatClampNeg ((e_q226_L295 u252.toNatClampNeg) + 1))))
        else
          (rdc u252 40
          (f_L_law_L295 u84_1 u84_2 u84_3 u84_4 u84_13 x13_L239 u252 n (x16_L295 + 1) (upd e_q226_L295 u252.toNatClampNeg ((e_q226_L295 u252.toNatClampNeg) + 0)))))))
      else
        (rdc u252 40
        (f_L_law_L295 u84_1 u84_2 u84_3 u84_4 u84_13 x13_L239 u252 n (x16_L295 + 1) (upd e_q226_L295 u252.toNatClampNeg ((e_q226_L295 u252.toNatClampNeg) + 0)))))))))

noncomputable def f_L_law_L239 (u84_1 : Nat → Int32) (u84_2 : Int32) (u84_3 : Nat → Int32) (u84_4 : Int32) (u84_13 : Int32) : Nat → Int32 → (Nat → Int32) → (Nat → Int32) → Option ((Nat → Int32) × (Nat → Int32))
  | 0, _, _, _ => none
  | n + 1, x13_L239, e_q226_L239, e_q232_L239 =>
    (Option.bind (f_X4_pieceCount u84_4 u84_13) fun u242 =>
    (if u242 ≤ x13_L239 then
      some (e_q226_L239, e_q232_L239)
    else
      (Option.bind (f_X4_piece x13_L239 0 u84_3 u84_4 u84_13) fun u252 =>
      (Option.bind (f_X4_piece x13_L239 2 u84_3 u84_4 u84_13) fun u261 =>
      (rdc u252 40
      (Option.bind (f_X4_step u261 0 u84_1 u84_2 u84_13) fun u276 =>
      (Option.bind ((if u276 = 7 then
        some 1
      else
        some 0) : Option (Int32)) fun r281 =>
      (rdc u252 40
      (Option.bind (f_L_law_L295 u84_1 u84_2 u84_3 u84_4 u84_13 x13_L239 u252 4000 u261 e_q226_L239) fun v295 =>
        f_L_law_L239 u84_1 u84_2 u84_3 u84_4 u84_13 n (x13_L239 + 1) v295 (upd e_q232_L239 u252.toNatClampNeg ((e_q232_L239 u252.toNatClampNeg) + r281)))))))))))

noncomputable def f_L_law_L383 (w_k_v : Nat → Int32) (w_a_v : Nat → Int32) (w_b_v : Nat → Int32) (w_c_v : Nat → Int32) (p5 : Int32) (x14_L367 : Int32) : Nat → Int32 → Int32 → Option (Int32)
  | 0, _, _ => none
  | n + 1, x16_L383, x15_L383 =>
    (if p5 ≤ x16_L383 then
      some x15_L383
    else
      (rdc x16_L383 40
      (if (w_c_v x16_L383.toNatClampNeg) = 0 then
        f_L_law_L383 w_k_v w_a_v w_b_v w_c_v p5 x14_L367 n (x16_L383 + 1) (x15_L383 + 0)
      else
        (Option.bind (f_L_uses x16_L383 x14_L367 w_k_v w_a_v w_b_v) fun u408 =>
        (if u408 = 0 then
          f_L_law_L383 w_k_v w_a_v w_b_v w_c_v p5 x14_L367 n (x16_L383 + 1) (x15_L383 + 0)
        else
          f_L_law_L383 w_k_v w_a_v w_b_v w_c_v p5 x14_L367 n (x16_L383 + 1) (x15_L383 + 1))))))

noncomputable def f_L_law_L367 (w_k_v : Nat → Int32) (w_a_v : Nat → Int32) (w_b_v : Nat → Int32) (w_c_v : Nat → Int32) (p5 : Int32) (v239_0 : Nat → Int32) (v239_1 : Nat → Int32) : Nat → Int32 → Int32 → Option (Int32)
  | 0, _, _ => none
  | n + 1, x14_L367, x13_L367 =>
    (if p5 ≤ x14_L367 then
      some x13_L367
    else
      (Option.bind (f_L_law_L383 w_k_v w_a_v w_b_v w_c_v p5 x14_L367 4000 (x14_L367 + 1) 0) fun v383 =>
        (rdc x14_L367 40
        (if 1 < (v239_0 x14_L367.toNatClampNeg) then
          none
        else
          (rdc x14_L367 40
          (if v383 < (v239_1 x14_L367.toNatClampNeg) then
            none
          else
            (rdc x14_L367 40
            (if (v239_1 x14_L367.toNatClampNeg) ≤ 0 then
              (rdc x14_L367 40
              (f_L_law_L367 w_k_v w_a_v w_b_v w_c_v p5 v239_0 v239_1 n (x14_L367 + 1) (x13_L367 + (v239_0 x14_L367.toNatClampNeg))))
            else
              (rdc x14_L367 40
              (if (v239_0 x14_L367.toNatClampNeg) = 1 then
                (rdc x14_L367 40
                (f_L_law_L367 w_k_v w_a_v w_b_v w_c_v p5 v239_0 v239_1 n (x14_L367 + 1) (x13_L367 + (v239_0 x14_L367.toNatClampNeg))))
              else
                none))))))))))

noncomputable def f_L_law_L513 (x8_L69 : Int32) (u505_0 : Int32) (u505_3 : Nat → Int32) (u505_4 : Int32) : Nat → Int32 → (Nat → Int32) → Option ((Nat → Int32))
  | 0, _, _ => none
  | n + 1, x15_L513, w_f_v_L513 =>
    (if u505_0 ≤ x15_L513 then
      some w_f_v_L513
    else
      (if x8_L69 ≤ 2 then
        (Option.bind (f_X4_output x15_L513 u505_3 u505_4) fun u549 =>
        (rdc x15_L513 40
        (f_L_law_L513 x8_L69 u505_0 u505_3 u505_4 n (x15_L513 + 1) (upd w_f_v_L513 x15_L513.toNatClampNeg u549))))
      else
        (Option.bind (f_X4_output x15_L513 u505_3 u505_4) fun u529 =>
        (rdc x15_L513 40
        (if u529 = (w_f_v_L513 x15_L513.toNatClampNeg) then
          (Option.bind (f_X4_output x15_L513 u505_3 u505_4) fun u549 =>
          (rdc x15_L513 40
          (f_L_law_L513 x8_L69 u505_0 u505_3 u505_4 n (x15_L513 + 1) (upd w_f_v_L513 x15_L513.toNatClampNeg u549))))
        else
          none)))))

noncomputable def f_L_law_L69 (w_r_code_kinds : Nat → Int32) (w_r_code_firsts : Nat → Int32) (w_r_code_seconds : Nat → Int32) (w_r_code_ints : Nat → Int32) (w_r_code_counting : Nat → Int32) (w_r_code_length : Int32) (w_k_v : Nat → Int32) (w_a_v : Nat → Int32) (w_b_v : Nat → Int32) (w_c_v : Nat → Int32) (p5 : Int32) : Nat → Int32 → (Nat → Int32) → Int32 → (Nat → Int32) → Int32 → (Nat → Int32) → (Nat → Int32) → (Nat → Int32) → (Nat → Int32) → (Nat → Int32) → (Nat → Int32) → Int32 → Int32 → (Nat → Int32) → (Nat → Int32) → (Nat → Int32) → Int32 → Int32 → Int32 → (Nat → Int32) → Option ((Nat → Int32) × Int32 × (Nat → Int32) × Int32 × (Nat → Int32) × (Nat → Int32) × (Nat → Int32) × (Nat → Int32) × (Nat → Int32) × (Nat → Int32) × Int32 × Int32 × (Nat → Int32) × (Nat → Int32) × (Nat → Int32) × Int32 × Int32 × Int32 × (Nat → Int32))
  | 0, _, _, _, _, _, _, _, _, _, _, _, _, _, _, _, _, _, _, _, _ => none
  | n + 1, x8_L69, w_r_present_steps_numbers_L69, w_r_present_steps_length_L69, w_r_present_pieces_numbers_L69, w_r_present_pieces_length_L69, w_r_present_valueIn_L69, w_r_present_registerOf_L69, w_r_present_slotOf_L69, w_r_present_pieceOf_L69, w_r_present_upcoming_L69, w_r_present_slotTaken_L69, w_r_present_registers_L69, w_r_present_slotCount_L69, w_r_machine_registers_L69, w_r_machine_slots_L69, w_r_machine_outputs_L69, w_r_machine_outputCount_L69, w_r_registers_L69, w_r_allocated_L69, w_f_v_L69 =>
    (if 8 < x8_L69 then
      some (w_r_present_steps_numbers_L69, w_r_present_steps_length_L69, w_r_present_pieces_numbers_L69, w_r_present_pieces_length_L69, w_r_present_valueIn_L69, w_r_present_registerOf_L69, w_r_present_slotOf_L69, w_r_present_pieceOf_L69, w_r_present_upcoming_L69, w_r_present_slotTaken_L69, w_r_present_registers_L69, w_r_present_slotCount_L69, w_r_machine_registers_L69, w_r_machine_slots_L69, w_r_machine_outputs_L69, w_r_machine_outputCount_L69, w_r_registers_L69, w_r_allocated_L69, w_f_v_L69)
    else
      (Option.bind (f_X4_setRegisters x8_L69 w_r_registers_L69) fun u79 =>
      (Option.bind (f_X4_allocate w_r_code_kinds w_r_code_firsts w_r_code_seconds w_r_code_ints w_r_code_counting w_r_code_length w_r_present_steps_numbers_L69 w_r_present_pieces_numbers_L69 w_r_present_valueIn_L69 w_r_present_registerOf_L69 w_r_present_slotOf_L69 w_r_present_pieceOf_L69 w_r_present_upcoming_L69 w_r_present_slotTaken_L69 u79.2.1) fun u84 =>
      (Option.bind (f_L_law_L95 w_k_v w_c_v p5 u84.1 u84.2.1 u84.2.2.1 u84.2.2.2.2.2.2.2.2.2.2.2.2.2 4000 0 0) fun v95 =>
        (Option.bind (f_L_law_L187 u84.1 u84.2.1 u84.2.2.1 u84.2.2.2.2.2.2.2.2.2.2.2.2.2 4000 v95) fun v187 =>
          (Option.bind (f_L_law_L239 u84.2.1 u84.2.2.1 u84.2.2.2.1 u84.2.2.2.2.1 u84.2.2.2.2.2.2.2.2.2.2.2.2.2 4000 0 (fun _ => 0) (fun _ => 0)) fun v239 =>
            (Option.bind (f_L_law_L367 w_k_v w_a_v w_b_v w_c_v p5 v239.1 v239.2 4000 0 0) fun v367 =>
              (Option.bind (f_X4_stepCount 8 u84.2.1 u84.2.2.1 u84.2.2.2.2.2.2.2.2.2.2.2.2.2) fun u485 =>
              (if u485 = v367 then
                (Option.bind (f_X4_slots u84.2.2.2.2.2.2.2.2.2.2.2.2.1 u84.2.2.2.2.2.2.2.2.2.2.2.2.2) fun u494 =>
                (if u494 ≤ v367 then
                  (Option.bind (f_X4_run u84.2.1 u84.2.2.1 w_r_machine_registers_L69 w_r_machine_slots_L69 w_r_machine_outputs_L69 u84.2.2.2.2.2.2.2.2.2.2.2.2.2) fun u505 =>
                  (Option.bind (f_L_law_L513 x8_L69 u505.1 u505.2.2.2.1 u505.2.2.2.2 4000 0 w_f_v_L69) fun v513 =>
                    f_L_law_L69 w_r_code_kinds w_r_code_firsts w_r_code_seconds w_r_code_ints w_r_code_counting w_r_code_length w_k_v w_a_v w_b_v w_c_v p5 n (x8_L69 + 1) u84.2.1 u84.2.2.1 u84.2.2.2.1 u84.2.2.2.2.1 u84.2.2.2.2.2.1 u84.2.2.2.2.2.2.1 u84.2.2.2.2.2.2.2.1 u84.2.2.2.2.2.2.2.2.1 u84.2.2.2.2.2.2.2.2.2.1 u84.2.2.2.2.2.2.2.2.2.2.1 u84.2.2.2.2.2.2.2.2.2.2.2.1 u84.2.2.2.2.2.2.2.2.2.2.2.2.1 u505.2.1 u505.2.2.1 u505.2.2.2.1 u505.2.2.2.2 u79.2.1 u84.2.2.2.2.2.2.2.2.2.2.2.2.2 v513))
                else
                  none))
              else
                none)))))))))

noncomputable def f_L_law (p5 : Int32) (w_r_code_kinds : Nat → Int32) (w_r_code_firsts : Nat → Int32) (w_r_code_seconds : Nat → Int32) (w_r_code_ints : Nat → Int32) (w_r_code_counting : Nat → Int32) (w_r_code_length : Int32) (w_r_present_steps_numbers : Nat → Int32) (w_r_present_steps_length : Int32) (w_r_present_pieces_numbers : Nat → Int32) (w_r_present_pieces_length : Int32) (w_r_present_valueIn : Nat → Int32) (w_r_present_registerOf : Nat → Int32) (w_r_present_slotOf : Nat → Int32) (w_r_present_pieceOf : Nat → Int32) (w_r_present_upcoming : Nat → Int32) (w_r_present_slotTaken : Nat → Int32) (w_r_present_registers : Int32) (w_r_present_slotCount : Int32) (w_r_machine_registers : Nat → Int32) (w_r_machine_slots : Nat → Int32) (w_r_machine_outputs : Nat → Int32) (w_r_machine_outputCount : Int32) (w_r_registers : Int32) (w_r_allocated : Int32) (w_k_v : Nat → Int32) (w_a_v : Nat → Int32) (w_b_v : Nat → Int32) (w_c_v : Nat → Int32) (w_f_v : Nat → Int32) : Option Int32 :=
  (Option.bind (f_L_law_L69 w_r_code_kinds w_r_code_firsts w_r_code_seconds w_r_code_ints w_r_code_counting w_r_code_length w_k_v w_a_v w_b_v w_c_v p5 4000 2 w_r_present_steps_numbers w_r_present_steps_length w_r_present_pieces_numbers w_r_present_pieces_length w_r_present_valueIn w_r_present_registerOf w_r_present_slotOf w_r_present_pieceOf w_r_present_upcoming w_r_present_slotTaken w_r_present_registers w_r_present_slotCount w_r_machine_registers w_r_machine_slots w_r_machine_outputs w_r_machine_outputCount w_r_registers w_r_allocated w_f_v) fun v69 =>
    (Option.bind (f_X4_size w_r_code_length) fun u566 =>
    (if u566 = p5 then
      some 1
    else
      none)))
