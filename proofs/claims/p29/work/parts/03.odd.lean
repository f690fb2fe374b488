def ow_m : Method := Lib.HandJ.method "clone" "()Ljava/lang/Object;" [] (some (.object "java/lang/Object")) 0x1 1 (.mk #[0xa7, 0x00, 0x00])
def ow_k : Class := { start1.cArr "[Odd" 19 .int with interfaces := #[18], methods := #[ow_m] }
def ow_h : Heap := start1.about.heap.modify 5 fun c => { c with cls := 26 }
def ow_s : State := ow_put ow_k ow_h start1.about
set_option maxRecDepth 16384 in
theorem ow_goes : ow_go start1.p0.tables start1.e0 400 ow_s = true := by decide +kernel
def ow_ok (c : Jvm.Cond) : Bool := su_isCode c || c.before start1.args0 ow_s
set_option maxRecDepth 16384 in
theorem ow_o_1_0 : (List.take 40 tables_1_1).all ow_ok = true := by decide +kernel
set_option maxRecDepth 16384 in
theorem ow_o_1_1 : (List.take 40 (List.drop 40 tables_1_1)).all ow_ok = true := by decide +kernel
set_option maxRecDepth 16384 in
theorem ow_o_1_2 : (List.take 40 (List.drop 40 (List.drop 40 tables_1_1))).all ow_ok = true := by decide +kernel
set_option maxRecDepth 16384 in
theorem ow_o_1_3 : (List.take 40 (List.drop 40 (List.drop 40 (List.drop 40 tables_1_1)))).all ow_ok = true := by decide +kernel
set_option maxRecDepth 16384 in
theorem ow_o_1_4 : (List.take 40 (List.drop 40 (List.drop 40 (List.drop 40 (List.drop 40 tables_1_1))))).all ow_ok = true := by decide +kernel
set_option maxRecDepth 16384 in
theorem ow_o_1_5 : (List.drop 40 (List.drop 40 (List.drop 40 (List.drop 40 (List.drop 40 tables_1_1))))).all ow_ok = true := by decide +kernel
theorem ow_w_1 : tables_1_1.all ow_ok = true := (ow_join _ 40 _ ow_o_1_0 (ow_join _ 40 _ ow_o_1_1 (ow_join _ 40 _ ow_o_1_2 (ow_join _ 40 _ ow_o_1_3 (ow_join _ 40 _ ow_o_1_4 ow_o_1_5)))))
set_option maxRecDepth 16384 in
theorem ow_o_2_0 : (List.take 40 tables_1_2).all ow_ok = true := by decide +kernel
set_option maxRecDepth 16384 in
theorem ow_o_2_1 : (List.take 40 (List.drop 40 tables_1_2)).all ow_ok = true := by decide +kernel
set_option maxRecDepth 16384 in
theorem ow_o_2_2 : (List.take 40 (List.drop 40 (List.drop 40 tables_1_2))).all ow_ok = true := by decide +kernel
set_option maxRecDepth 16384 in
theorem ow_o_2_3 : (List.take 40 (List.drop 40 (List.drop 40 (List.drop 40 tables_1_2)))).all ow_ok = true := by decide +kernel
set_option maxRecDepth 16384 in
theorem ow_o_2_4 : (List.take 40 (List.drop 40 (List.drop 40 (List.drop 40 (List.drop 40 tables_1_2))))).all ow_ok = true := by decide +kernel
set_option maxRecDepth 16384 in
theorem ow_o_2_5 : (List.drop 40 (List.drop 40 (List.drop 40 (List.drop 40 (List.drop 40 tables_1_2))))).all ow_ok = true := by decide +kernel
theorem ow_w_2 : tables_1_2.all ow_ok = true := (ow_join _ 40 _ ow_o_2_0 (ow_join _ 40 _ ow_o_2_1 (ow_join _ 40 _ ow_o_2_2 (ow_join _ 40 _ ow_o_2_3 (ow_join _ 40 _ ow_o_2_4 ow_o_2_5)))))
set_option maxRecDepth 16384 in
theorem ow_o_3_0 : (List.take 40 tables_1_3).all ow_ok = true := by decide +kernel
set_option maxRecDepth 16384 in
theorem ow_o_3_1 : (List.take 40 (List.drop 40 tables_1_3)).all ow_ok = true := by decide +kernel
set_option maxRecDepth 16384 in
theorem ow_o_3_2 : (List.take 40 (List.drop 40 (List.drop 40 tables_1_3))).all ow_ok = true := by decide +kernel
set_option maxRecDepth 16384 in
theorem ow_o_3_3 : (List.take 40 (List.drop 40 (List.drop 40 (List.drop 40 tables_1_3)))).all ow_ok = true := by decide +kernel
set_option maxRecDepth 16384 in
theorem ow_o_3_4 : (List.take 40 (List.drop 40 (List.drop 40 (List.drop 40 (List.drop 40 tables_1_3))))).all ow_ok = true := by decide +kernel
set_option maxRecDepth 16384 in
theorem ow_o_3_5 : (List.drop 40 (List.drop 40 (List.drop 40 (List.drop 40 (List.drop 40 tables_1_3))))).all ow_ok = true := by decide +kernel
theorem ow_w_3 : tables_1_3.all ow_ok = true := (ow_join _ 40 _ ow_o_3_0 (ow_join _ 40 _ ow_o_3_1 (ow_join _ 40 _ ow_o_3_2 (ow_join _ 40 _ ow_o_3_3 (ow_join _ 40 _ ow_o_3_4 ow_o_3_5)))))
set_option maxRecDepth 16384 in
theorem ow_o_4_0 : (List.take 40 tables_1_4).all ow_ok = true := by decide +kernel
set_option maxRecDepth 16384 in
theorem ow_o_4_1 : (List.take 40 (List.drop 40 tables_1_4)).all ow_ok = true := by decide +kernel
set_option maxRecDepth 16384 in
theorem ow_o_4_2 : (List.take 40 (List.drop 40 (List.drop 40 tables_1_4))).all ow_ok = true := by decide +kernel
set_option maxRecDepth 16384 in
theorem ow_o_4_3 : (List.take 40 (List.drop 40 (List.drop 40 (List.drop 40 tables_1_4)))).all ow_ok = true := by decide +kernel
set_option maxRecDepth 16384 in
theorem ow_o_4_4 : (List.take 40 (List.drop 40 (List.drop 40 (List.drop 40 (List.drop 40 tables_1_4))))).all ow_ok = true := by decide +kernel
set_option maxRecDepth 16384 in
theorem ow_o_4_5 : (List.drop 40 (List.drop 40 (List.drop 40 (List.drop 40 (List.drop 40 tables_1_4))))).all ow_ok = true := by decide +kernel
theorem ow_w_4 : tables_1_4.all ow_ok = true := (ow_join _ 40 _ ow_o_4_0 (ow_join _ 40 _ ow_o_4_1 (ow_join _ 40 _ ow_o_4_2 (ow_join _ 40 _ ow_o_4_3 (ow_join _ 40 _ ow_o_4_4 ow_o_4_5)))))
set_option maxRecDepth 16384 in
theorem ow_o_5_0 : (List.take 40 tables_1_5).all ow_ok = true := by decide +kernel
set_option maxRecDepth 16384 in
theorem ow_o_5_1 : (List.take 40 (List.drop 40 tables_1_5)).all ow_ok = true := by decide +kernel
set_option maxRecDepth 16384 in
theorem ow_o_5_2 : (List.take 40 (List.drop 40 (List.drop 40 tables_1_5))).all ow_ok = true := by decide +kernel
set_option maxRecDepth 16384 in
theorem ow_o_5_3 : (List.take 40 (List.drop 40 (List.drop 40 (List.drop 40 tables_1_5)))).all ow_ok = true := by decide +kernel
set_option maxRecDepth 16384 in
theorem ow_o_5_4 : (List.take 40 (List.drop 40 (List.drop 40 (List.drop 40 (List.drop 40 tables_1_5))))).all ow_ok = true := by decide +kernel
set_option maxRecDepth 16384 in
theorem ow_o_5_5 : (List.drop 40 (List.drop 40 (List.drop 40 (List.drop 40 (List.drop 40 tables_1_5))))).all ow_ok = true := by decide +kernel
theorem ow_w_5 : tables_1_5.all ow_ok = true := (ow_join _ 40 _ ow_o_5_0 (ow_join _ 40 _ ow_o_5_1 (ow_join _ 40 _ ow_o_5_2 (ow_join _ 40 _ ow_o_5_3 (ow_join _ 40 _ ow_o_5_4 ow_o_5_5)))))
set_option maxRecDepth 16384 in
theorem ow_o_6_0 : (List.take 40 tables_1_6).all ow_ok = true := by decide +kernel
set_option maxRecDepth 16384 in
theorem ow_o_6_1 : (List.take 40 (List.drop 40 tables_1_6)).all ow_ok = true := by decide +kernel
set_option maxRecDepth 16384 in
theorem ow_o_6_2 : (List.drop 40 (List.drop 40 tables_1_6)).all ow_ok = true := by decide +kernel
theorem ow_w_6 : tables_1_6.all ow_ok = true := (ow_join _ 40 _ ow_o_6_0 (ow_join _ 40 _ ow_o_6_1 ow_o_6_2))
theorem ow_w : tables_1.all ow_ok = true := by
  show (tables_1_1 ++ (tables_1_2 ++ (tables_1_3 ++ (tables_1_4 ++ (tables_1_5 ++ tables_1_6))))).all ow_ok = true
  rw [List.all_append, List.all_append, List.all_append, List.all_append, List.all_append]
  simp only [ow_w_1, ow_w_2, ow_w_3, ow_w_4, ow_w_5, ow_w_6, Bool.and_self]
