section
def cs_Law_b : List Nat := [190, 236, 242, 285, 301, 322, 338, 360, 378, 384, 427, 443, 458, 468, 483, 493, 508, 518, 533, 543, 570, 592, 629, 661, 682, 698, 707, 711, 720, 724, 745, 761, 776, 786, 807, 823, 850, 872]
set_option maxRecDepth 100000 in
theorem cl_Law_b (l : Launch) (sL : Nat) (sX : Nat → Int32) : ∀ (pc : Nat) (q : Ent), i_Law_b pc = some q → ab_inv q.1 = true → pc ≠ 190 → pc ≠ 360 → ab_CR l KT CL (some (sL, sX)) ab_gW "StreamTransportLaw" code 7 10 368 (eV_Law_b sL sX) (eI_Law_b sL sX) pc q := by
  intro pc q hq hi h190 h360
  have hm : pc ∈ cs_Law_b := ab_tab_cs (t := t_Law_b) (by decide +kernel) hq hi
  simp only [cs_Law_b, List.mem_cons, List.not_mem_nil, or_false] at hm
  rcases hm with rfl | rfl | rfl | rfl | rfl | rfl | rfl | rfl | rfl | rfl | rfl | rfl | rfl | rfl | rfl | rfl | rfl | rfl | rfl | rfl | rfl | rfl | rfl | rfl | rfl | rfl | rfl | rfl | rfl | rfl | rfl | rfl | rfl | rfl | rfl | rfl | rfl | rfl
  · exact absurd rfl h190
  · cases (Option.some.inj hq : ((.invokevirtual 42, 114, 5, 1, 0) : Ent) = q)
    exact ab_crV (C := "StreamTransportModel") (by decide +kernel) cw_M_write (ab_gW_in 1147 (by decide +kernel) rfl) is_M_write sl_M_write (by decide) (fun av m m' h => by cases h) (fun av m r h => cm_M_write l h) KT_nd
  · cases (Option.some.inj hq : ((.invokevirtual 43, 102, 1, 1, 0) : Ent) = q)
    exact ab_crV (C := "StreamTransportModel") (by decide +kernel) cw_M_thrown (ab_gW_in 1143 (by decide +kernel) rfl) is_M_thrown sl_M_thrown (by decide) (fun av m m' h => by cases h) (fun av m r h => cm_M_thrown l h) KT_nd
  · cases (Option.some.inj hq : ((.invokevirtual 47, 88, 3, 1, 0) : Ent) = q)
    exact ab_crV (C := "StreamTransport") (by decide +kernel) cw_X_finish (ab_gW_in 363 (by decide +kernel) rfl) is_X_finish sl_X_finish (by decide) (fun av m m' h => by cases h) (fun av m r h => cm_X_finish l h) KT_nd
  · cases (Option.some.inj hq : ((.invokevirtual 51, 115, 3, 1, 0) : Ent) = q)
    exact ab_crV (C := "StreamTransportModel") (by decide +kernel) cw_M_finish (ab_gW_in 1162 (by decide +kernel) rfl) is_M_finish sl_M_finish (by decide) (fun av m m' h => by cases h) (fun av m r h => cm_M_finish l h) KT_nd
  · cases (Option.some.inj hq : ((.invokevirtual 52, 89, 3, 1, 0) : Ent) = q)
    exact ab_crV (C := "StreamTransport") (by decide +kernel) cw_X_reset (ab_gW_in 381 (by decide +kernel) rfl) is_X_reset sl_X_reset (by decide) (fun av m m' h => by cases h) (fun av m r h => cm_X_reset l h) KT_nd
  · cases (Option.some.inj hq : ((.invokevirtual 55, 116, 3, 1, 0) : Ent) = q)
    exact ab_crV (C := "StreamTransportModel") (by decide +kernel) cw_M_reset (ab_gW_in 1166 (by decide +kernel) rfl) is_M_reset sl_M_reset (by decide) (fun av m m' h => by cases h) (fun av m r h => cm_M_reset l h) KT_nd
  · exact absurd rfl h360
  · cases (Option.some.inj hq : ((.invokevirtual 59, 117, 3, 1, 0) : Ent) = q)
    exact ab_crV (C := "StreamTransportModel") (by decide +kernel) cw_M_read (ab_gW_in 1170 (by decide +kernel) rfl) is_M_read sl_M_read (by decide) (fun av m m' h => by cases h) (fun av m r h => cm_M_read l h) KT_nd
  · cases (Option.some.inj hq : ((.invokevirtual 43, 102, 1, 1, 0) : Ent) = q)
    exact ab_crV (C := "StreamTransportModel") (by decide +kernel) cw_M_thrown (ab_gW_in 1143 (by decide +kernel) rfl) is_M_thrown sl_M_thrown (by decide) (fun av m m' h => by cases h) (fun av m r h => cm_M_thrown l h) KT_nd
  · cases (Option.some.inj hq : ((.invokevirtual 60, 90, 3, 1, 0) : Ent) = q)
    exact ab_crV (C := "StreamTransport") (by decide +kernel) cw_X_close (ab_gW_in 385 (by decide +kernel) rfl) is_X_close sl_X_close (by decide) (fun av m m' h => by cases h) (fun av m r h => cm_X_close l h) KT_nd
  · cases (Option.some.inj hq : ((.invokevirtual 63, 118, 3, 1, 0) : Ent) = q)
    exact ab_crV (C := "StreamTransportModel") (by decide +kernel) cw_M_close (ab_gW_in 1186 (by decide +kernel) rfl) is_M_close sl_M_close (by decide) (fun av m m' h => by cases h) (fun av m r h => cm_M_close l h) KT_nd
  · cases (Option.some.inj hq : ((.invokevirtual 64, 169, 2, 1, 0) : Ent) = q)
    exact ab_crV (C := "StreamTransport") (by decide +kernel) cw_X_send (ab_gW_in 393 (by decide +kernel) rfl) is_X_send sl_X_send (by decide) (fun av m m' h => by cases h) (fun av m r h => cm_X_send l h) KT_nd
  · cases (Option.some.inj hq : ((.invokevirtual 68, 126, 2, 1, 0) : Ent) = q)
    exact ab_crV (C := "StreamTransportModel") (by decide +kernel) cw_M_send (ab_gW_in 1190 (by decide +kernel) rfl) is_M_send sl_M_send (by decide) (fun av m m' h => by cases h) (fun av m r h => cm_M_send l h) KT_nd
  · cases (Option.some.inj hq : ((.invokevirtual 69, 92, 2, 1, 0) : Ent) = q)
    exact ab_crV (C := "StreamTransport") (by decide +kernel) cw_X_deliver (ab_gW_in 598 (by decide +kernel) rfl) is_X_deliver sl_X_deliver (by decide) (fun av m m' h => by cases h) (fun av m r h => cm_X_deliver l h) KT_nd
  · cases (Option.some.inj hq : ((.invokevirtual 72, 139, 2, 1, 0) : Ent) = q)
    exact ab_crV (C := "StreamTransportModel") (by decide +kernel) cw_M_deliver (ab_gW_in 1244 (by decide +kernel) rfl) is_M_deliver sl_M_deliver (by decide) (fun av m m' h => by cases h) (fun av m r h => cm_M_deliver l h) KT_nd
  · cases (Option.some.inj hq : ((.invokevirtual 73, 91, 2, 1, 0) : Ent) = q)
    exact ab_crV (C := "StreamTransport") (by decide +kernel) cw_X_lose (ab_gW_in 751 (by decide +kernel) rfl) is_X_lose sl_X_lose (by decide) (fun av m m' h => by cases h) (fun av m r h => cm_X_lose l h) KT_nd
  · cases (Option.some.inj hq : ((.invokevirtual 77, 140, 2, 1, 0) : Ent) = q)
    exact ab_crV (C := "StreamTransportModel") (by decide +kernel) cw_M_lose (ab_gW_in 1298 (by decide +kernel) rfl) is_M_lose sl_M_lose (by decide) (fun av m m' h => by cases h) (fun av m r h => cm_M_lose l h) KT_nd
  · cases (Option.some.inj hq : ((.invokevirtual 78, 154, 2, 1, 0) : Ent) = q)
    exact ab_crV (C := "StreamTransport") (by decide +kernel) cw_X_copy (ab_gW_in 755 (by decide +kernel) rfl) is_X_copy sl_X_copy (by decide) (fun av m m' h => by cases h) (fun av m r h => cm_X_copy l h) KT_nd
  · cases (Option.some.inj hq : ((.invokevirtual 81, 141, 2, 1, 0) : Ent) = q)
    exact ab_crV (C := "StreamTransportModel") (by decide +kernel) cw_M_copy (ab_gW_in 1302 (by decide +kernel) rfl) is_M_copy sl_M_copy (by decide) (fun av m m' h => by cases h) (fun av m r h => cm_M_copy l h) KT_nd
  · cases (Option.some.inj hq : ((.invokevirtual 82, 93, 4, 1, 0) : Ent) = q)
    exact ab_crV (C := "StreamTransport") (by decide +kernel) cw_X_spoil (ab_gW_in 766 (by decide +kernel) rfl) is_X_spoil sl_X_spoil (by decide) (fun av m m' h => by cases h) (fun av m r h => cm_X_spoil l h) KT_nd
  · cases (Option.some.inj hq : ((.invokevirtual 86, 142, 4, 1, 0) : Ent) = q)
    exact ab_crV (C := "StreamTransportModel") (by decide +kernel) cw_M_spoil (ab_gW_in 1306 (by decide +kernel) rfl) is_M_spoil sl_M_spoil (by decide) (fun av m m' h => by cases h) (fun av m r h => cm_M_spoil l h) KT_nd
  · cases (Option.some.inj hq : ((.invokevirtual 87, 94, 3, 1, 0) : Ent) = q)
    exact ab_crV (C := "StreamTransport") (by decide +kernel) cw_X_raw (ab_gW_in 770 (by decide +kernel) rfl) is_X_raw sl_X_raw (by decide) (fun av m m' h => by cases h) (fun av m r h => cm_X_raw l h) KT_nd
  · cases (Option.some.inj hq : ((.invokevirtual 91, 143, 3, 1, 0) : Ent) = q)
    exact ab_crV (C := "StreamTransportModel") (by decide +kernel) cw_M_raw (ab_gW_in 1310 (by decide +kernel) rfl) is_M_raw sl_M_raw (by decide) (fun av m m' h => by cases h) (fun av m r h => cm_M_raw l h) KT_nd
  · cases (Option.some.inj hq : ((.invokevirtual 92, 95, 3, 1, 0) : Ent) = q)
    exact ab_crV (C := "StreamTransport") (by decide +kernel) cw_X_craft (ab_gW_in 780 (by decide +kernel) rfl) is_X_craft sl_X_craft (by decide) (fun av m m' h => by cases h) (fun av m r h => cm_X_craft l h) KT_nd
  · cases (Option.some.inj hq : ((.invokevirtual 95, 144, 3, 1, 0) : Ent) = q)
    exact ab_crV (C := "StreamTransportModel") (by decide +kernel) cw_M_craft (ab_gW_in 1314 (by decide +kernel) rfl) is_M_craft sl_M_craft (by decide) (fun av m m' h => by cases h) (fun av m r h => cm_M_craft l h) KT_nd
  · cases (Option.some.inj hq : ((.invokevirtual 96, 96, 1, 1, 0) : Ent) = q)
    exact ab_crV (C := "StreamTransport") (by decide +kernel) cw_X_tick (ab_gW_in 787 (by decide +kernel) rfl) is_X_tick sl_X_tick (by decide) (fun av m m' h => by cases h) (fun av m r h => cm_X_tick l h) KT_nd
  · cases (Option.some.inj hq : ((.invokevirtual 99, 146, 1, 1, 0) : Ent) = q)
    exact ab_crV (C := "StreamTransportModel") (by decide +kernel) cw_M_tick (ab_gW_in 1318 (by decide +kernel) rfl) is_M_tick sl_M_tick (by decide) (fun av m m' h => by cases h) (fun av m r h => cm_M_tick l h) KT_nd
  · cases (Option.some.inj hq : ((.invokevirtual 100, 97, 1, 1, 0) : Ent) = q)
    exact ab_crV (C := "StreamTransport") (by decide +kernel) cw_X_packets (ab_gW_in 800 (by decide +kernel) rfl) is_X_packets sl_X_packets (by decide) (fun av m m' h => by cases h) (fun av m r h => cm_X_packets l h) KT_nd
  · cases (Option.some.inj hq : ((.invokevirtual 103, 147, 1, 1, 0) : Ent) = q)
    exact ab_crV (C := "StreamTransportModel") (by decide +kernel) cw_M_packets (ab_gW_in 1326 (by decide +kernel) rfl) is_M_packets sl_M_packets (by decide) (fun av m m' h => by cases h) (fun av m r h => cm_M_packets l h) KT_nd
  · cases (Option.some.inj hq : ((.invokevirtual 104, 98, 3, 1, 0) : Ent) = q)
    exact ab_crV (C := "StreamTransport") (by decide +kernel) cw_X_packet (ab_gW_in 804 (by decide +kernel) rfl) is_X_packet sl_X_packet (by decide) (fun av m m' h => by cases h) (fun av m r h => cm_X_packet l h) KT_nd
  · cases (Option.some.inj hq : ((.invokevirtual 107, 148, 3, 1, 0) : Ent) = q)
    exact ab_crV (C := "StreamTransportModel") (by decide +kernel) cw_M_packet (ab_gW_in 1330 (by decide +kernel) rfl) is_M_packet sl_M_packet (by decide) (fun av m m' h => by cases h) (fun av m r h => cm_M_packet l h) KT_nd
  · cases (Option.some.inj hq : ((.invokevirtual 108, 99, 2, 1, 0) : Ent) = q)
    exact ab_crV (C := "StreamTransport") (by decide +kernel) cw_X_closed (ab_gW_in 808 (by decide +kernel) rfl) is_X_closed sl_X_closed (by decide) (fun av m m' h => by cases h) (fun av m r h => cm_X_closed l h) KT_nd
  · cases (Option.some.inj hq : ((.invokevirtual 111, 149, 2, 1, 0) : Ent) = q)
    exact ab_crV (C := "StreamTransportModel") (by decide +kernel) cw_M_closed (ab_gW_in 1334 (by decide +kernel) rfl) is_M_closed sl_M_closed (by decide) (fun av m m' h => by cases h) (fun av m r h => cm_M_closed l h) KT_nd
  · cases (Option.some.inj hq : ((.invokevirtual 112, 100, 3, 1, 0) : Ent) = q)
    exact ab_crV (C := "StreamTransport") (by decide +kernel) cw_X_about (ab_gW_in 812 (by decide +kernel) rfl) is_X_about sl_X_about (by decide) (fun av m m' h => by cases h) (fun av m r h => cm_X_about l h) KT_nd
  · cases (Option.some.inj hq : ((.invokevirtual 115, 150, 3, 1, 0) : Ent) = q)
    exact ab_crV (C := "StreamTransportModel") (by decide +kernel) cw_M_about (ab_gW_in 1338 (by decide +kernel) rfl) is_M_about sl_M_about (by decide) (fun av m m' h => by cases h) (fun av m r h => cm_M_about l h) KT_nd
  · cases (Option.some.inj hq : ((.invokevirtual 116, 101, 4, 1, 0) : Ent) = q)
    exact ab_crV (C := "StreamTransport") (by decide +kernel) cw_X_stream (ab_gW_in 820 (by decide +kernel) rfl) is_X_stream sl_X_stream (by decide) (fun av m m' h => by cases h) (fun av m r h => cm_X_stream l h) KT_nd
  · cases (Option.some.inj hq : ((.invokevirtual 120, 152, 4, 1, 0) : Ent) = q)
    exact ab_crV (C := "StreamTransportModel") (by decide +kernel) cw_M_stream (ab_gW_in 1342 (by decide +kernel) rfl) is_M_stream sl_M_stream (by decide) (fun av m m' h => by cases h) (fun av m r h => cm_M_stream l h) KT_nd
end
