/-! the start: what the tables and the premises say -/
def zFl : List Cond := flatC (Jvm.Cond.and given_1 narrow_1)
section ZST
variable {s : State} {args : Array Value} {A : Nat → Prop}
theorem zseg {k N : Nat} {r : List Cond} (h : (zFl.drop k).take N = r) : ∀ w ∈ r, w ∈ zFl := fun w hw => by
  rw [← h] at hw
  exact List.mem_of_mem_drop (List.mem_of_mem_take hw)
theorem zTabI {C n d : String} {N k M : Nat} {g : List Int32} (hs : ∀ w ∈ zFl, w.before args s = true) (hseg : (zFl.drop k).take M = Cond.arrayOf (.static C n d) .int :: Cond.eq (.length (.static C n d)) (.int (Int32.ofNat N)) :: (List.range N).map (fun j => Cond.eq (.elem (.static C n d) (.int (Int32.ofNat j))) (.int (g.getD j 0)))) (hN : N < 2 ^ 31)
    (hl : (Cond.laysStatic C n d).before args s = true) (hini : (Cond.initialized C).before args s = true) (hA : ∀ a : Nat, a < s.heap.size → ¬ A a) : ∃ t : Nat, va_Z C n d (.ref t) A s s.heap ∧ va_T .int t N (fun j => .int (g.getD j 0)) A s s.heap := by
  have hm := zseg hseg
  obtain ⟨t, ht, hT⟩ := va_Tof (f := fun j => .int (g.getD j 0)) (A := A) hN (hs _ (hm _ List.mem_cons_self)) (va_eqt (hs _ (hm _ (List.mem_cons_of_mem _ List.mem_cons_self)))) (fun j hj => va_eqt (hs _ (hm _ (List.mem_cons_of_mem _ (List.mem_cons_of_mem _ (List.mem_map.mpr ⟨j, List.mem_range.mpr hj, rfl⟩)))))) hA
  exact ⟨t, va_Zref hl hini ht hA, hT⟩
theorem zTabL {C n d : String} {N k M : Nat} {g : List Int64} (hs : ∀ w ∈ zFl, w.before args s = true) (hseg : (zFl.drop k).take M = Cond.arrayOf (.static C n d) .long :: Cond.eq (.length (.static C n d)) (.int (Int32.ofNat N)) :: (List.range N).map (fun j => Cond.eq (.elem (.static C n d) (.int (Int32.ofNat j))) (.long (g.getD j 0)))) (hN : N < 2 ^ 31)
    (hl : (Cond.laysStatic C n d).before args s = true) (hini : (Cond.initialized C).before args s = true) (hA : ∀ a : Nat, a < s.heap.size → ¬ A a) : ∃ t : Nat, va_Z C n d (.ref t) A s s.heap ∧ va_T .long t N (fun j => .long (g.getD j 0)) A s s.heap := by
  have hm := zseg hseg
  obtain ⟨t, ht, hT⟩ := va_Tof (f := fun j => .long (g.getD j 0)) (A := A) hN (hs _ (hm _ List.mem_cons_self)) (va_eqt (hs _ (hm _ (List.mem_cons_of_mem _ List.mem_cons_self)))) (fun j hj => va_eqtl (hs _ (hm _ (List.mem_cons_of_mem _ (List.mem_cons_of_mem _ (List.mem_map.mpr ⟨j, List.mem_range.mpr hj, rfl⟩)))))) hA
  exact ⟨t, va_Zref hl hini ht hA, hT⟩
end ZST
set_option maxRecDepth 20000 in
theorem zsg_0 : (zFl.drop 17).take 258 = Cond.arrayOf (.static RX0 "BOX" "[I") .int :: Cond.eq (.length (.static RX0 "BOX" "[I")) (.int (Int32.ofNat 256)) :: (List.range 256).map (fun j => Cond.eq (.elem (.static RX0 "BOX" "[I") (.int (Int32.ofNat j))) (.int (tb_BOX.getD j 0))) := by decide +kernel
set_option maxRecDepth 20000 in
theorem zsg_1 : (zFl.drop 281).take 258 = Cond.arrayOf (.static RX0 "BOX_BACK" "[I") .int :: Cond.eq (.length (.static RX0 "BOX_BACK" "[I")) (.int (Int32.ofNat 256)) :: (List.range 256).map (fun j => Cond.eq (.elem (.static RX0 "BOX_BACK" "[I") (.int (Int32.ofNat j))) (.int (tb_BOX_BACK.getD j 0))) := by decide +kernel
set_option maxRecDepth 20000 in
theorem zsg_2 : (zFl.drop 602).take 10 = Cond.arrayOf (.static RX7 "BEGINNING" "[I") .int :: Cond.eq (.length (.static RX7 "BEGINNING" "[I")) (.int (Int32.ofNat 8)) :: (List.range 8).map (fun j => Cond.eq (.elem (.static RX7 "BEGINNING" "[I") (.int (Int32.ofNat j))) (.int (tb_BEGINNING.getD j 0))) := by decide +kernel
set_option maxRecDepth 20000 in
theorem zsg_3 : (zFl.drop 613).take 66 = Cond.arrayOf (.static RX7 "CONSTANTS" "[I") .int :: Cond.eq (.length (.static RX7 "CONSTANTS" "[I")) (.int (Int32.ofNat 64)) :: (List.range 64).map (fun j => Cond.eq (.elem (.static RX7 "CONSTANTS" "[I") (.int (Int32.ofNat j))) (.int (tb_CONSTANTS.getD j 0))) := by decide +kernel
set_option maxRecDepth 20000 in
theorem zsg_4 : (zFl.drop 10).take 6 = Cond.arrayOf (.static RX6 "COUNTING_KEY" "[J") .long :: Cond.eq (.length (.static RX6 "COUNTING_KEY" "[J")) (.int (Int32.ofNat 4)) :: (List.range 4).map (fun j => Cond.eq (.elem (.static RX6 "COUNTING_KEY" "[J") (.int (Int32.ofNat j))) (.long (tb_COUNTING_KEY.getD j 0))) := by decide +kernel
set_option maxRecDepth 20000 in
theorem zsg_5 : (zFl.drop 276).take 4 = Cond.arrayOf (.static RX6 "DOUBLED_DIGITS" "[J") .long :: Cond.eq (.length (.static RX6 "DOUBLED_DIGITS" "[J")) (.int (Int32.ofNat 2)) :: (List.range 2).map (fun j => Cond.eq (.elem (.static RX6 "DOUBLED_DIGITS" "[J") (.int (Int32.ofNat j))) (.long (tb_DOUBLED_DIGITS.getD j 0))) := by decide +kernel
set_option maxRecDepth 20000 in
theorem zsg_6 : (zFl.drop 5).take 4 = Cond.arrayOf (.static RX6 "AES_128_ANSWER" "[J") .long :: Cond.eq (.length (.static RX6 "AES_128_ANSWER" "[J")) (.int (Int32.ofNat 2)) :: (List.range 2).map (fun j => Cond.eq (.elem (.static RX6 "AES_128_ANSWER" "[J") (.int (Int32.ofNat j))) (.long (tb_AES_128_ANSWER.getD j 0))) := by decide +kernel
set_option maxRecDepth 20000 in
theorem zsg_7 : (zFl.drop 540).take 4 = Cond.arrayOf (.static RX6 "AES_256_ANSWER" "[J") .long :: Cond.eq (.length (.static RX6 "AES_256_ANSWER" "[J")) (.int (Int32.ofNat 2)) :: (List.range 2).map (fun j => Cond.eq (.elem (.static RX6 "AES_256_ANSWER" "[J") (.int (Int32.ofNat j))) (.long (tb_AES_256_ANSWER.getD j 0))) := by decide +kernel
set_option maxRecDepth 20000 in
theorem zsg_8 : (zFl.drop 545).take 4 = Cond.arrayOf (.static RX6 "MODES_KEY" "[J") .long :: Cond.eq (.length (.static RX6 "MODES_KEY" "[J")) (.int (Int32.ofNat 2)) :: (List.range 2).map (fun j => Cond.eq (.elem (.static RX6 "MODES_KEY" "[J") (.int (Int32.ofNat j))) (.long (tb_MODES_KEY.getD j 0))) := by decide +kernel
set_option maxRecDepth 20000 in
theorem zsg_9 : (zFl.drop 550).take 6 = Cond.arrayOf (.static RX6 "MODES_TEXT" "[J") .long :: Cond.eq (.length (.static RX6 "MODES_TEXT" "[J")) (.int (Int32.ofNat 4)) :: (List.range 4).map (fun j => Cond.eq (.elem (.static RX6 "MODES_TEXT" "[J") (.int (Int32.ofNat j))) (.long (tb_MODES_TEXT.getD j 0))) := by decide +kernel
set_option maxRecDepth 20000 in
theorem zsg_10 : (zFl.drop 557).take 6 = Cond.arrayOf (.static RX6 "CBC_ANSWER" "[J") .long :: Cond.eq (.length (.static RX6 "CBC_ANSWER" "[J")) (.int (Int32.ofNat 4)) :: (List.range 4).map (fun j => Cond.eq (.elem (.static RX6 "CBC_ANSWER" "[J") (.int (Int32.ofNat j))) (.long (tb_CBC_ANSWER.getD j 0))) := by decide +kernel
set_option maxRecDepth 20000 in
theorem zsg_11 : (zFl.drop 564).take 4 = Cond.arrayOf (.static RX6 "CTR_START" "[J") .long :: Cond.eq (.length (.static RX6 "CTR_START" "[J")) (.int (Int32.ofNat 2)) :: (List.range 2).map (fun j => Cond.eq (.elem (.static RX6 "CTR_START" "[J") (.int (Int32.ofNat j))) (.long (tb_CTR_START.getD j 0))) := by decide +kernel
set_option maxRecDepth 20000 in
theorem zsg_12 : (zFl.drop 569).take 6 = Cond.arrayOf (.static RX6 "CTR_ANSWER" "[J") .long :: Cond.eq (.length (.static RX6 "CTR_ANSWER" "[J")) (.int (Int32.ofNat 4)) :: (List.range 4).map (fun j => Cond.eq (.elem (.static RX6 "CTR_ANSWER" "[J") (.int (Int32.ofNat j))) (.long (tb_CTR_ANSWER.getD j 0))) := by decide +kernel
set_option maxRecDepth 20000 in
theorem zsg_13 : (zFl.drop 576).take 4 = Cond.arrayOf (.static RX6 "ZEROS" "[J") .long :: Cond.eq (.length (.static RX6 "ZEROS" "[J")) (.int (Int32.ofNat 2)) :: (List.range 2).map (fun j => Cond.eq (.elem (.static RX6 "ZEROS" "[J") (.int (Int32.ofNat j))) (.long (tb_ZEROS.getD j 0))) := by decide +kernel
set_option maxRecDepth 20000 in
theorem zsg_14 : (zFl.drop 581).take 6 = Cond.arrayOf (.static RX6 "GCM_ANSWER" "[J") .long :: Cond.eq (.length (.static RX6 "GCM_ANSWER" "[J")) (.int (Int32.ofNat 4)) :: (List.range 4).map (fun j => Cond.eq (.elem (.static RX6 "GCM_ANSWER" "[J") (.int (Int32.ofNat j))) (.long (tb_GCM_ANSWER.getD j 0))) := by decide +kernel
set_option maxRecDepth 20000 in
theorem zsg_15 : (zFl.drop 588).take 4 = Cond.arrayOf (.static RX6 "CMAC_OF_NOTHING" "[J") .long :: Cond.eq (.length (.static RX6 "CMAC_OF_NOTHING" "[J")) (.int (Int32.ofNat 2)) :: (List.range 2).map (fun j => Cond.eq (.elem (.static RX6 "CMAC_OF_NOTHING" "[J") (.int (Int32.ofNat j))) (.long (tb_CMAC_OF_NOTHING.getD j 0))) := by decide +kernel
set_option maxRecDepth 20000 in
theorem zsg_16 : (zFl.drop 593).take 4 = Cond.arrayOf (.static RX6 "CMAC_OF_BLOCK" "[J") .long :: Cond.eq (.length (.static RX6 "CMAC_OF_BLOCK" "[J")) (.int (Int32.ofNat 2)) :: (List.range 2).map (fun j => Cond.eq (.elem (.static RX6 "CMAC_OF_BLOCK" "[J") (.int (Int32.ofNat j))) (.long (tb_CMAC_OF_BLOCK.getD j 0))) := by decide +kernel
set_option maxRecDepth 20000 in
theorem zsg_17 : (zFl.drop 598).take 3 = Cond.arrayOf (.static RX6 "ABC" "[J") .long :: Cond.eq (.length (.static RX6 "ABC" "[J")) (.int (Int32.ofNat 1)) :: (List.range 1).map (fun j => Cond.eq (.elem (.static RX6 "ABC" "[J") (.int (Int32.ofNat j))) (.long (tb_ABC.getD j 0))) := by decide +kernel
set_option maxRecDepth 20000 in
theorem zsg_18 : (zFl.drop 893).take 6 = Cond.arrayOf (.static RX6 "ABC_DIGEST" "[J") .long :: Cond.eq (.length (.static RX6 "ABC_DIGEST" "[J")) (.int (Int32.ofNat 4)) :: (List.range 4).map (fun j => Cond.eq (.elem (.static RX6 "ABC_DIGEST" "[J") (.int (Int32.ofNat j))) (.long (tb_ABC_DIGEST.getD j 0))) := by decide +kernel
set_option maxRecDepth 20000 in
theorem zsg_19 : (zFl.drop 900).take 3 = Cond.arrayOf (.static RX6 "JEFE" "[J") .long :: Cond.eq (.length (.static RX6 "JEFE" "[J")) (.int (Int32.ofNat 1)) :: (List.range 1).map (fun j => Cond.eq (.elem (.static RX6 "JEFE" "[J") (.int (Int32.ofNat j))) (.long (tb_JEFE.getD j 0))) := by decide +kernel
set_option maxRecDepth 20000 in
theorem zsg_20 : (zFl.drop 904).take 6 = Cond.arrayOf (.static RX6 "WHAT_DO_YA_WANT" "[J") .long :: Cond.eq (.length (.static RX6 "WHAT_DO_YA_WANT" "[J")) (.int (Int32.ofNat 4)) :: (List.range 4).map (fun j => Cond.eq (.elem (.static RX6 "WHAT_DO_YA_WANT" "[J") (.int (Int32.ofNat j))) (.long (tb_WHAT_DO_YA_WANT.getD j 0))) := by decide +kernel
set_option maxRecDepth 20000 in
theorem zsg_21 : (zFl.drop 911).take 6 = Cond.arrayOf (.static RX6 "HMAC_ANSWER" "[J") .long :: Cond.eq (.length (.static RX6 "HMAC_ANSWER" "[J")) (.int (Int32.ofNat 4)) :: (List.range 4).map (fun j => Cond.eq (.elem (.static RX6 "HMAC_ANSWER" "[J") (.int (Int32.ofNat j))) (.long (tb_HMAC_ANSWER.getD j 0))) := by decide +kernel
set_option maxRecDepth 20000 in
theorem zsg_22 : (zFl.drop 918).take 5 = Cond.arrayOf (.static RX6 "WRAP_ANSWER" "[J") .long :: Cond.eq (.length (.static RX6 "WRAP_ANSWER" "[J")) (.int (Int32.ofNat 3)) :: (List.range 3).map (fun j => Cond.eq (.elem (.static RX6 "WRAP_ANSWER" "[J") (.int (Int32.ofNat j))) (.long (tb_WRAP_ANSWER.getD j 0))) := by decide +kernel
