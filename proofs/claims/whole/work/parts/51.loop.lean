/-! the law's loop -/
theorem l7 : ∀ L, L < 449 → (Int32.ofNat L - 7).toInt = (L : Int) - 7 := by decide +kernel
theorem and31 (v : Int32) : ∃ j, j < 32 ∧ v &&& 31 = nI j := by
  refine ⟨(v.toBitVec &&& 31#32).toNat, ?_, ?_⟩
  · rw [BitVec.toNat_and]
    exact Nat.lt_of_le_of_lt Nat.and_le_right (by decide)
  · apply Int32.toBitVec_inj.mp
    show v.toBitVec &&& 31#32 = BitVec.ofNat 32 _
    rw [BitVec.ofNat_toNat, BitVec.setWidth_eq]
theorem LInv_mono {D : va_G} {cy : Nat → ClassId} {hc hP_o hP_k : Nat → Nat} {mo : Nat} {hm : Nat → Nat} {hO : Nat} {A : Nat → Prop} {B B' : Nat} {H : Heap} (h : LInv D cy hc hP_o hP_k mo hm hO A B H) (hB : B ≤ B') : LInv D cy hc hP_o hP_k mo hm hO A B' H :=
  LInv_el h (fun st td c_faults c_streamBegun c_buffer c_counters c_officerPin_number c_officerPin_tries c_userPin_number c_userPin_tries c_words_count c_words_healthy c_words_last c_words_row c_words_first c_words_placeInWindow c_words_timesInWindow c_words_kept c_sha_filled c_sha_total c_sha_sums c_sha_schedule c_sha_inner c_stream_filled c_stream_total c_stream_sums c_stream_schedule c_stream_inner c_aes_rounds c_aes_keys c_modes_block c_modes_pad c_gcm_keyHigh c_gcm_keyLow c_gcm_sumHigh c_gcm_sumLow c_gcm_tag c_generator_begun c_generator_requests c_generator_key c_generator_value c_generator_message c_tests_key c_tests_work c_tests_generator_begun c_tests_generator_requests c_tests_generator_key c_tests_generator_value c_tests_generator_message c_message c_secret m_thrown m_words m_ill m_before m_inRow m_first m_inWindow m_same m_made m_requests m_total m_secrets m_rounds m_high m_low m_keyHigh m_keyLow m_ROUND m_faults m_counters m_buffer m_pin m_tries m_kind m_length m_usage m_holder m_uses m_keys m_word m_k m_v m_taken m_streamHash m_streamBlock m_h m_w m_x m_message m_digest m_inner m_secret m_box m_back m_round m_block m_other m_result m_body m_START c_out cP_kind cP_length cP_usage cP_role cP_uses cPK hP hD hst htd h1 hRf hRb hRcn hRp hRsl hRwk hRwh hRg hRst hRtb hBt => LInv_mk hP hD hst htd h1 hRf hRb hRcn hRp hRsl hRwk hRwh hRg (Rst_mono hRst hB) hRtb hBt)
section LCS
variable {p : Program} {l : Launch} {e : Env} {s : State} {m : MethodId} {below : List Frame} {meth : Method} {c : Code} {b L : Nat} {xs : Nat → Int32} {D : va_G} {cy : Nat → ClassId} {tt tx : Nat → Nat} {hc hP_o hP_k : Nat → Nat} {mo : Nat} {hm : Nat → Nat} {hO : Nat}
set_option maxHeartbeats 8000000 in
set_option maxRecDepth 100000 in
theorem law_loop (hL : L ≤ 448) (C : LC p l s m c b L xs D cy tt tx) (hr : meth.sig.returnType = ret) (hlocks : meth.locks = false) : ∀ (k n : Nat), L < 7 * (n + k) → 7 * n ≤ L → ∀ (ls : Array Slot) (H : Heap) (locs : List Loc), lv_has ls 8 [(0, .ref b), (1, .ref (hc 0)), (2, .ref mo), (3, .ref hO), (4, .int (nI (7 * n)))] → LInv D cy hc hP_o hP_k mo hm hO (LA s) (512 * n) H → va_S (LA s) s.heap H locs → W p l e room_1 s m #[Value.ref b] below meth c H locs (200 + n) (10000 + 6 * n) (lw_Z below #[Value.ref b] s) (F0 m 23 ls []) := by
  obtain ⟨hx, hb, hml, hown, hts, hX, hbl, hE, hXX, hN, hlt⟩ := id C
  have hbA : ¬ LA s b := Nat.not_le.mpr hbl
  intro k
  induction k with
  | zero => intro n h1 h2; exact absurd h1 (by omega)
  | succ k ih =>
    intro n hk hn ls H locs hl hI hS
    refine lv_iload (pc := 23) hx hb (zdt_at zt_L_law_0 13 rfl) (lv_at hl 4 rfl) ?_
    refine lv_aload_n (pc := 25) hx hb (zdt_at zt_L_law_0 14 rfl) rfl (lv_at hl 0 rfl) ?_
    refine va_slen (pc := 26) hx hb hX hbl hbA hS (zdt_at zt_L_law_0 15 rfl) ?_
    refine lv_bipush (pc := 27) (v := (7 : Int32)) hx hb (zdt_at zt_L_law_0 16 rfl) (by decide) ?_
    refine lv_isub (pc := 29) hx hb (zdt_at zt_L_law_0 17 rfl) ?_
    refine lv_icmp_gt (pc := 30) (tgt := 1270) hx hb (zdt_at zt_L_law_0 18 rfl) (by decide) (fun hend => ?_) (fun hgo => ?_)
    · refine lv_iconst (pc := 1270) (v := (1 : Int32)) hx hb (zdt_at zt_L_law_20 8 rfl) (by decide) ?_
      refine va_forget (fun q hq => hS.2.2 q hq) ?_
      refine W.widen (k := 600128) (n := 7301098) (by omega) (by omega) ?_
      exact lw_ret (pc := 1271) hx hb hr hlocks (zdt_at zt_L_law_20 9 rfl)
    · have hgo1 : 7 * n + 7 ≤ L := by
        have h := hgo
        rw [i32_lt, l7 L (by omega), nI_toInt (by omega)] at h
        omega
      have e0 : vp_in (nI (7 * n)) L := nI_in (by omega) (by omega)
      have hin : LIn (nI (7 * n)) L := by
        refine ⟨?_, ?_, ?_, ?_, ?_, ?_⟩
        · show vp_in (nI (7 * n) + nI 1) L; rw [nI_add]; exact nI_in (by omega) (by omega)
        · show vp_in (nI (7 * n) + nI 2) L; rw [nI_add]; exact nI_in (by omega) (by omega)
        · show vp_in (nI (7 * n) + nI 3) L; rw [nI_add]; exact nI_in (by omega) (by omega)
        · show vp_in (nI (7 * n) + nI 4) L; rw [nI_add]; exact nI_in (by omega) (by omega)
        · show vp_in (nI (7 * n) + nI 5) L; rw [nI_add]; exact nI_in (by omega) (by omega)
        · show vp_in (nI (7 * n) + nI 6) L; rw [nI_add]; exact nI_in (by omega) (by omega)
      have hf1 : (200 + n) + 1 ≤ room_1.cells ∧ (10000 + 6 * n) + 6 ≤ room_1.slots := ⟨show (200 + n) + 1 ≤ 600128 by omega, show (10000 + 6 * n) + 6 ≤ 7301098 by omega⟩
      have hB : 512 * n < 2 ^ 27 := by omega
      have kk : LK p l e s m below meth c b D cy hc hP_o hP_k mo hm hO (200 + n) (10000 + 6 * n) (512 * n) (lw_Z below #[Value.ref b] s) (nI (7 * n)) := by
        intro ls H locs hl hI hS
        refine lv_iinc (pc := 1264) (v := nI (7 * (n + 1))) (lv' := [(4, .int (nI (7 * (n + 1)))), (0, .ref b), (1, .ref (hc 0)), (2, .ref mo), (3, .ref hO)]) hx hb (zdt_at zt_L_law_20 6 rfl) hl (k := 4) rfl (by show nI (7 * n) + nI 7 = _; rw [nI_add]; rfl) (by decide) rfl (fun ls hl => ?_)
        refine lv_goto (pc := 1267) (tgt := 23) hx hb (zdt_at zt_L_law_20 7 rfl) (by decide) ?_
        refine W.widen (k := 200 + (n + 1)) (n := 10000 + 6 * (n + 1)) (by omega) (by omega) ?_
        exact ih (n + 1) (by omega) (by omega) ls H locs (lv_sub hl [1, 2, 3, 4, 0] rfl) (LInv_mono hI (by omega)) hS
      refine lv_aload_n (pc := 33) hx hb (zdt_at zt_L_law_0 19 rfl) rfl (lv_at hl 0 rfl) ?_
      refine lv_iload (pc := 34) hx hb (zdt_at zt_L_law_0 20 rfl) (lv_at hl 4 rfl) ?_
      refine va_sld (pc := 36) hx hb hX hbl hbA hS e0 (zdt_at zt_L_law_0 21 rfl) ?_
      refine lv_bipush (pc := 37) (v := (31 : Int32)) hx hb (zdt_at zt_L_law_0 22 rfl) (by decide) ?_
      refine lv_iand (pc := 39) hx hb (zdt_at zt_L_law_0 23 rfl) ?_
      obtain ⟨j, hj, ej⟩ := and31 (xs (nI (7 * n)).toNatClampNeg)
      rw [ej]
      by_cases h22 : 22 ≤ j
      · refine lv_tableOut (pc := 40) (tgt := 1264) hx hb (zdt_at zt_L_law_0 24 rfl) (Or.inr (by rw [nI_toInt (by omega)]; omega)) (by decide) ?_
        refine W.widen (k := (200 + n) + 1) (n := (10000 + 6 * n) + 6) (by omega) (by omega) ?_
        exact kk ls H locs hl (LInv_mono hI (by omega)) hS
      · have hjj : j = 0 ∨ j = 1 ∨ j = 2 ∨ j = 3 ∨ j = 4 ∨ j = 5 ∨ j = 6 ∨ j = 7 ∨ j = 8 ∨ j = 9 ∨ j = 10 ∨ j = 11 ∨ j = 12 ∨ j = 13 ∨ j = 14 ∨ j = 15 ∨ j = 16 ∨ j = 17 ∨ j = 18 ∨ j = 19 ∨ j = 20 ∨ j = 21 := by omega
        clear ej hj h22
        rcases hjj with rfl | rfl | rfl | rfl | rfl | rfl | rfl | rfl | rfl | rfl | rfl | rfl | rfl | rfl | rfl | rfl | rfl | rfl | rfl | rfl | rfl | rfl
        · exact lv_tableIn (pc := 40) (off := 104) (tgt := 144) hx hb (zdt_at zt_L_law_0 24 rfl) (by decide) (by decide) rfl (by decide) (cs_power C hin hl hf1 hB hI hS kk)
        · exact lv_tableIn (pc := 40) (off := 145) (tgt := 185) hx hb (zdt_at zt_L_law_0 24 rfl) (by decide) (by decide) rfl (by decide) (cs_selfTestStep C hin hl hf1 hB hI hS kk)
        · exact lv_tableIn (pc := 40) (off := 170) (tgt := 210) hx hb (zdt_at zt_L_law_0 24 rfl) (by decide) (by decide) rfl (by decide) (cs_fault C hin hl hf1 hB hI hS kk)
        · exact lv_tableIn (pc := 40) (off := 206) (tgt := 246) hx hb (zdt_at zt_L_law_0 24 rfl) (by decide) (by decide) rfl (by decide) (cs_poke C hin hl hf1 hB hI hS kk)
        · exact lv_tableIn (pc := 40) (off := 298) (tgt := 338) hx hb (zdt_at zt_L_law_0 24 rfl) (by decide) (by decide) rfl (by decide) (cs_peek C hin hl hf1 hB hI hS kk)
        · exact lv_tableIn (pc := 40) (off := 353) (tgt := 393) hx hb (zdt_at zt_L_law_0 24 rfl) (by decide) (by decide) rfl (by decide) (cs_login C hin hl hf1 hB hI hS kk)
        · exact lv_tableIn (pc := 40) (off := 390) (tgt := 430) hx hb (zdt_at zt_L_law_0 24 rfl) (by decide) (by decide) rfl (by decide) (cs_logout C hin hl hf1 hB hI hS kk)
        · exact lv_tableIn (pc := 40) (off := 414) (tgt := 454) hx hb (zdt_at zt_L_law_0 24 rfl) (by decide) (by decide) rfl (by decide) (cs_setPin C hin hl hf1 hB hI hS kk)
        · exact lv_tableIn (pc := 40) (off := 451) (tgt := 491) hx hb (zdt_at zt_L_law_0 24 rfl) (by decide) (by decide) rfl (by decide) (cs_entropy C hin hl hf1 hB hI hS kk)
        · exact lv_tableIn (pc := 40) (off := 507) (tgt := 547) hx hb (zdt_at zt_L_law_0 24 rfl) (by decide) (by decide) rfl (by decide) (cs_state C hin hl hf1 hB hI hS kk)
        · exact lv_tableIn (pc := 40) (off := 520) (tgt := 560) hx hb (zdt_at zt_L_law_0 24 rfl) (by decide) (by decide) rfl (by decide) (cs_slotInfo C hin hl hf1 hB hI hS kk)
        · exact lv_tableIn (pc := 40) (off := 588) (tgt := 628) hx hb (zdt_at zt_L_law_0 24 rfl) (by decide) (by decide) rfl (by decide) (cs_zeroise C hin hl hf1 hB hI hS kk)
        · exact lv_tableIn (pc := 40) (off := 613) (tgt := 653) hx hb (zdt_at zt_L_law_0 24 rfl) (by decide) (by decide) rfl (by decide) (cs_zeroiseAll C hin hl hf1 hB hI hS kk)
        · exact lv_tableIn (pc := 40) (off := 624) (tgt := 664) hx hb (zdt_at zt_L_law_0 24 rfl) (by decide) (by decide) rfl (by decide) (cs_load C hin hl hf1 hB hI hS kk)
        · exact lv_tableIn (pc := 40) (off := 711) (tgt := 751) hx hb (zdt_at zt_L_law_0 24 rfl) (by decide) (by decide) rfl (by decide) (cs_make C hin hl hf1 hB hI hS kk)
        · exact lv_tableIn (pc := 40) (off := 798) (tgt := 838) hx hb (zdt_at zt_L_law_0 24 rfl) (by decide) (by decide) rfl (by decide) (cs_derive C hin hl hf1 hB hI hS kk)
        · exact lv_tableIn (pc := 40) (off := 885) (tgt := 925) hx hb (zdt_at zt_L_law_0 24 rfl) (by decide) (by decide) rfl (by decide) (cs_wrap C hin hl hf1 hB hI hS kk)
        · exact lv_tableIn (pc := 40) (off := 922) (tgt := 962) hx hb (zdt_at zt_L_law_0 24 rfl) (by decide) (by decide) rfl (by decide) (cs_unwrap C hin hl hf1 hB hI hS kk)
        · exact lv_tableIn (pc := 40) (off := 971) (tgt := 1011) hx hb (zdt_at zt_L_law_0 24 rfl) (by decide) (by decide) rfl (by decide) (cs_run C hin hl hf1 hB hI hS kk)
        · exact lv_tableIn (pc := 40) (off := 1044) (tgt := 1084) hx hb (zdt_at zt_L_law_0 24 rfl) (by decide) (by decide) rfl (by decide) (cs_hash C hin hl hf1 hB hI hS kk)
        · exact lv_tableIn (pc := 40) (off := 1093) (tgt := 1133) hx hb (zdt_at zt_L_law_0 24 rfl) (by decide) (by decide) rfl (by decide) (cs_counter C hin hl hf1 hB hI hS kk)
        · exact lv_tableIn (pc := 40) (off := 1149) (tgt := 1189) hx hb (zdt_at zt_L_law_0 24 rfl) (by decide) (by decide) rfl (by decide) (cs_same C hin hl hf1 hB hI hS kk)
end LCS
